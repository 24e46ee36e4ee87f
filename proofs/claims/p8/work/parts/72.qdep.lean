/-! What the worked-out places depend on. -/
theorem qgF_congr {F F' : qF} {a k : Nat} (h7 : a = 2 → k = 7 → qgc F' = qgc F) (h8 : a = 2 → k = 8 → F' 2 4 - (F' 2 2).toNat + qgc F' = F 2 4 - (F 2 2).toNat + qgc F) (h9 : a = 2 → k = 9 → F' 2 2 = F 2 2) (h74 : a = 128 → k = 74 → F' 128 33 - (F' 130 17).toNat = F 128 33 - (F 130 17).toNat) (h75 : a = 128 → k = 75 → qhn F' 64 (qba F').toNat ((F' 130 17).toNat - (qba F').toNat) = qhn F 64 (qba F).toNat ((F 130 17).toNat - (qba F).toNat)) (h76 : a = 128 → k = 76 → qba F' = qba F) (h77 : a = 128 → k = 77 → (qp2 F' ↔ qp2 F)) (h78 : a = 128 → k = 78 → (qp1 F' ↔ qp1 F)) (h79 : a = 128 → k = 79 → qpe F' 144 3 3 = qpe F 144 3 3) (h80 : a = 128 → k = 80 → qpe F' 145 3 3 = qpe F 145 3 3) (h81 : a = 128 → k = 81 → qpe F' 146 64 64 = qpe F 146 64 64) (h82 : a = 128 → k = 82 → qpe F' 147 64 64 = qpe F 147 64 64) (h83 : a = 128 → k = 83 → F' 128 26 = F 128 26 ∧ F' 128 27 = F 128 27) : qgF F' a k = qgF F a k := by
  unfold qgF
  by_cases e : a = 2
  · rw [if_pos e, if_pos e]
    by_cases e7 : k = 7
    · rw [if_pos e7, if_pos e7, h7 e e7]
    · rw [if_neg e7, if_neg e7]
      by_cases e8 : k = 8
      · rw [if_pos e8, if_pos e8, h8 e e8]
      · rw [if_neg e8, if_neg e8]
        by_cases e9 : k = 9
        · rw [if_pos e9, if_pos e9, h9 e e9]
        · rw [if_neg e9, if_neg e9]
  · rw [if_neg e, if_neg e]
    by_cases e : a = 128
    · rw [if_pos e, if_pos e]
      by_cases g : k = 74
      · rw [if_pos g, if_pos g, h74 e g]
      · rw [if_neg g, if_neg g]
        by_cases g : k = 75
        · rw [if_pos g, if_pos g, h75 e g]
        · rw [if_neg g, if_neg g]
          by_cases g : k = 76
          · rw [if_pos g, if_pos g, h76 e g]
          · rw [if_neg g, if_neg g]
            by_cases g : k = 77
            · rw [if_pos g, if_pos g, propext (h77 e g)]
            · rw [if_neg g, if_neg g]
              by_cases g : k = 78
              · rw [if_pos g, if_pos g, propext (h78 e g)]
              · rw [if_neg g, if_neg g]
                by_cases g : k = 79
                · rw [if_pos g, if_pos g, h79 e g]
                · rw [if_neg g, if_neg g]
                  by_cases g : k = 80
                  · rw [if_pos g, if_pos g, h80 e g]
                  · rw [if_neg g, if_neg g]
                    by_cases g : k = 81
                    · rw [if_pos g, if_pos g, h81 e g]
                    · rw [if_neg g, if_neg g]
                      by_cases g : k = 82
                      · rw [if_pos g, if_pos g, h82 e g]
                      · rw [if_neg g, if_neg g]
                        by_cases g : k = 83
                        · rw [if_pos g, if_pos g, (h83 e g).1, (h83 e g).2]
                        · rw [if_neg g, if_neg g]
    · rw [if_neg e, if_neg e]
theorem qgc_c {F F' : qF} (h2 : F' 2 2 = F 2 2) (h6 : ∀ i : Nat, i < (F 2 2).toNat → F' 6 i = F 6 i) : qgc F' = qgc F := by
  unfold qgc
  rw [h2]
  refine List.countP_congr (fun i hi => ?_)
  rw [h6 i (List.mem_range.mp hi)]
theorem qgc_le (F : qF) : qgc F ≤ (F 2 2).toNat := by
  have := List.countP_le_length (p := fun i => qns (F 6 i)) (l := List.range (F 2 2).toNat)
  rw [List.length_range] at this
  exact this
theorem qhn_c {F F' : qF} {o o' b : Nat} : ∀ (n : Nat), (∀ i : Nat, i < n → F' 146 (o' + (b + i)) = F 146 (o + (b + i)) ∧ F' 147 (o' + (b + i)) = F 147 (o + (b + i))) → qhn F' o' b n = qhn F o b n
  | 0, _ => rfl
  | n + 1, h => by
    have ih := qhn_c n (fun i hi => h i (by omega))
    have hn := h n (by omega)
    unfold qhn
    rw [ih, hn.1, hn.2]
theorem qlw_m {F F' : qF} {o o' : Nat} {f t m m' : Int} (hm : m ≤ m') (he : ∀ i : Nat, f ≤ i → (i : Int) < t → F' 146 (o' + i) = F 146 (o + i) ∧ F' 147 (o' + i) = F 147 (o + i)) : qlw F o f t m → qlw F' o' f t m' := fun h => by
  refine ⟨h.1, by have := h.2.1; omega, by have := h.2.2.1; omega, fun hl => ?_⟩
  rw [← h.2.2.2 hl]
  have h0 := h.1
  exact qhn_c _ (fun i hi => he (f.toNat + i) (by omega) (by omega))
theorem qp2_m {F F' : qF} (hN : F 130 17 ≤ F' 130 17) (h64 : F' 130 17 ≤ 64) (hs : ∀ k : Nat, 3 ≤ k → k < 6 → F' 144 k = F 144 k ∧ F' 145 k = F 145 k) (hk : ∀ i : Nat, (i : Int) < F 130 17 → F' 146 (64 + i) = F 146 (64 + i) ∧ F' 147 (64 + i) = F 147 (64 + i)) : qp2 F → qp2 F' := fun h => by
  unfold qp2 at h ⊢
  obtain ⟨-, h1, h2, h3⟩ := h
  rw [(hs 3 (by omega) (by omega)).1, (hs 3 (by omega) (by omega)).2, (hs 4 (by omega) (by omega)).1, (hs 4 (by omega) (by omega)).2, (hs 5 (by omega) (by omega)).1, (hs 5 (by omega) (by omega)).2]
  refine ⟨h64, qlw_m hN (fun i _ hi => hk i ?_) h1, qlw_m hN (fun i _ hi => hk i ?_) h2, qlw_m hN (fun i _ hi => hk i ?_) h3⟩
  · have := h1.2.2.1; omega
  · have := h2.2.2.1; omega
  · have := h3.2.2.1; omega
theorem qp2_c {F F' : qF} (hN : F' 130 17 = F 130 17) (hs : ∀ k : Nat, 3 ≤ k → k < 6 → F' 144 k = F 144 k ∧ F' 145 k = F 145 k) (hk : ∀ i : Nat, (i : Int) < F 130 17 → F' 146 (64 + i) = F 146 (64 + i) ∧ F' 147 (64 + i) = F 147 (64 + i)) : qp2 F' ↔ qp2 F :=
  ⟨fun h => qp2_m (by omega) (by have := h.1; omega) (fun k h1 h2 => ⟨(hs k h1 h2).1.symm, (hs k h1 h2).2.symm⟩) (fun i hi => ⟨(hk i (by omega)).1.symm, (hk i (by omega)).2.symm⟩) h, fun h => qp2_m (by omega) (by have := h.1; omega) hs hk h⟩
theorem qp1_m {F F' : qF} (hs : ∀ k : Nat, k < 3 → F' 144 k = F 144 k ∧ F' 145 k = F 145 k) (hk : ∀ i : Nat, i < 64 → F' 146 i = F 146 i ∧ F' 147 i = F 147 i) : qp1 F → qp1 F' := fun h => by
  unfold qp1 at h ⊢
  obtain ⟨h1, h2, h3⟩ := h
  have g : ∀ i : Nat, i < 64 → F' 146 (0 + i) = F 146 (0 + i) ∧ F' 147 (0 + i) = F 147 (0 + i) := fun i hi => by
    rw [Nat.zero_add]
    exact hk i hi
  rw [(hs 0 (by omega)).1, (hs 0 (by omega)).2, (hs 1 (by omega)).1, (hs 1 (by omega)).2, (hs 2 (by omega)).1, (hs 2 (by omega)).2]
  refine ⟨qlw_m (Int.le_refl _) (fun i _ hi => g i ?_) h1, qlw_m (Int.le_refl _) (fun i _ hi => g i ?_) h2, qlw_m (Int.le_refl _) (fun i _ hi => g i ?_) h3⟩
  · have := h1.2.2.1; omega
  · have := h2.2.2.1; omega
  · have := h3.2.2.1; omega
theorem qp1_c {F F' : qF} (hs : ∀ k : Nat, k < 3 → F' 144 k = F 144 k ∧ F' 145 k = F 145 k) (hk : ∀ i : Nat, i < 64 → F' 146 i = F 146 i ∧ F' 147 i = F 147 i) : qp1 F' ↔ qp1 F :=
  ⟨fun h => qp1_m (fun k h1 => ⟨(hs k h1).1.symm, (hs k h1).2.symm⟩) (fun i hi => ⟨(hk i hi).1.symm, (hk i hi).2.symm⟩) h, fun h => qp1_m hs hk h⟩
theorem qba_c {F F' : qF} (hs : ∀ k : Nat, 3 ≤ k → k < 6 → F' 144 k = F 144 k) : qba F' = qba F := by
  unfold qba
  rw [hs 3 (by omega) (by omega), hs 4 (by omega) (by omega), hs 5 (by omega) (by omega)]
theorem qpe_c {F F' : qF} {a n : Nat} : ∀ (k : Nat), (∀ i : Nat, i < k → F' a i = F a i ∧ F' a (n + i) = F a (n + i)) → qpe F' a n k = qpe F a n k
  | 0, _ => rfl
  | k + 1, h => by
    have ih := qpe_c k (fun i hi => h i (by omega))
    have hn := h k (by omega)
    unfold qpe
    rw [ih, hn.1, hn.2]
theorem qpe_le (F : qF) (a n : Nat) : ∀ k : Nat, qpe F a n k ≤ k
  | 0 => Nat.le_refl _
  | k + 1 => by
    have ih := qpe_le F a n k
    unfold qpe
    split <;> omega
theorem qpe_pre {F : qF} {a n : Nat} : ∀ (k j : Nat), j ≤ qpe F a n k → ∀ i : Nat, i < j → F a i = F a (n + i)
  | 0, j, h, i, hi => by
    have h : j ≤ 0 := h
    omega
  | k + 1, j, h, i, hi => by
    unfold qpe at h
    split at h
    · next q =>
      by_cases e : i = k
      · rw [e]; exact q.2
      · exact qpe_pre k k (by rw [q.1]; exact Nat.le_refl _) i (by omega)
    · exact qpe_pre k j h i hi
theorem qpe_ge {F : qF} {a n : Nat} : ∀ (k j : Nat), j ≤ k → (∀ i : Nat, i < j → F a i = F a (n + i)) → j ≤ qpe F a n k
  | 0, j, h, _ => by omega
  | k + 1, j, h, he => by
    by_cases e : j = k + 1
    · subst e
      have ih := qpe_ge k k (Nat.le_refl _) (fun i hi => he i (by omega))
      have := qpe_le F a n k
      unfold qpe
      rw [if_pos ⟨by omega, he k (by omega)⟩]
      exact Nat.le_refl _
    · have ih := qpe_ge k j (by omega) he
      have := qpe_le F a n k
      unfold qpe
      split <;> omega
/-! Writes: all but these stay. -/
theorem qd6 {F : qF} {k0 : Nat} {z : Int} (h : (F 2 2).toNat ≤ k0) (a k : Nat) : qgF (qud F 6 k0 z) a k = qgF F a k := by
  have c : qgc (qud F 6 k0 z) = qgc F := qgc_c (by simp [qud]) (fun i hi => by simp [qud]; omega)
  refine qgF_congr (fun _ _ => c) (fun _ _ => ?_) (fun _ _ => ?_) (fun _ _ => ?_) (fun _ _ => ?_) (fun _ _ => ?_) (fun _ _ => ?_) (fun _ _ => ?_) (fun _ _ => ?_) (fun _ _ => ?_) (fun _ _ => ?_) (fun _ _ => ?_) (fun _ _ => ⟨by simp [qud], by simp [qud]⟩)
  · rw [c]; simp [qud]
  · simp [qud]
  · simp [qud]
  · have hb : qba (qud F 6 k0 z) = qba F := by simp [qba, qud]
    rw [hb, show qud F 6 k0 z 130 17 = F 130 17 by simp [qud]]
    exact qhn_c _ (fun i _ => by simp [qud])
  · simp [qba, qud]
  · exact qp2_c (by simp [qud]) (fun i _ _ => by simp [qud]) (fun i _ => by simp [qud])
  · exact qp1_c (fun i _ => by simp [qud]) (fun i _ => by simp [qud])
  · exact qpe_c _ (fun i _ => by simp [qud])
  · exact qpe_c _ (fun i _ => by simp [qud])
  · exact qpe_c _ (fun i _ => by simp [qud])
  · exact qpe_c _ (fun i _ => by simp [qud])
theorem qd2r {F : qF} {k0 : Nat} {z : Int} (a k : Nat) (ha : ¬ a = 2) : qgF (qud F 2 k0 z) a k = qgF F a k := by
  refine qgF_congr (fun e _ => absurd e ha) (fun e _ => absurd e ha) (fun e _ => absurd e ha) (fun _ _ => ?_) (fun _ _ => ?_) (fun _ _ => ?_) (fun _ _ => ?_) (fun _ _ => ?_) (fun _ _ => ?_) (fun _ _ => ?_) (fun _ _ => ?_) (fun _ _ => ?_) (fun _ _ => ⟨by simp [qud], by simp [qud]⟩)
  · simp [qud]
  · have hb : qba (qud F 2 k0 z) = qba F := by simp [qba, qud]
    rw [hb, show qud F 2 k0 z 130 17 = F 130 17 by simp [qud]]
    exact qhn_c _ (fun i _ => by simp [qud])
  · simp [qba, qud]
  · exact qp2_c (by simp [qud]) (fun i _ _ => by simp [qud]) (fun i _ => by simp [qud])
  · exact qp1_c (fun i _ => by simp [qud]) (fun i _ => by simp [qud])
  · exact qpe_c _ (fun i _ => by simp [qud])
  · exact qpe_c _ (fun i _ => by simp [qud])
  · exact qpe_c _ (fun i _ => by simp [qud])
  · exact qpe_c _ (fun i _ => by simp [qud])
theorem qd24 {F : qF} {z : Int} (a k : Nat) (h8 : ¬ (a = 2 ∧ k = 8)) : qgF (qud F 2 4 z) a k = qgF F a k := by
  by_cases ha : a = 2
  · have c : qgc (qud F 2 4 z) = qgc F := qgc_c (by simp [qud]) (fun i hi => by simp [qud])
    have no : ∀ {p : Prop}, a = 128 → p := fun e => by omega
    exact qgF_congr (fun _ _ => c) (fun e1 e2 => absurd ⟨e1, e2⟩ h8) (fun _ _ => by simp [qud]) (fun e _ => no e) (fun e _ => no e) (fun e _ => no e) (fun e _ => no e) (fun e _ => no e) (fun e _ => no e) (fun e _ => no e) (fun e _ => no e) (fun e _ => no e) (fun e _ => no e)
  · exact qd2r a k ha
theorem qd22 {F : qF} {z : Int} (a k : Nat) (h7 : ¬ (a = 2 ∧ k = 7)) (h8 : ¬ (a = 2 ∧ k = 8)) (h9 : ¬ (a = 2 ∧ k = 9)) : qgF (qud F 2 2 z) a k = qgF F a k := by
  by_cases ha : a = 2
  · have no : ∀ {p : Prop}, a = 128 → p := fun e => by omega
    exact qgF_congr (fun e1 e2 => absurd ⟨e1, e2⟩ h7) (fun e1 e2 => absurd ⟨e1, e2⟩ h8) (fun e1 e2 => absurd ⟨e1, e2⟩ h9) (fun e _ => no e) (fun e _ => no e) (fun e _ => no e) (fun e _ => no e) (fun e _ => no e) (fun e _ => no e) (fun e _ => no e) (fun e _ => no e) (fun e _ => no e) (fun e _ => no e)
  · exact qd2r a k ha
/-- a write to a cell of the reference leaves the Reader's -/
theorem qdr {F : qF} {c k0 : Nat} {z : Int} (h2 : ¬ c = 2) (h6 : ¬ c = 6) {a k : Nat} (hr : a = 128 → qgF (qud F c k0 z) a k = qgF F a k) : qgF (qud F c k0 z) a k = qgF F a k := by
  by_cases ha : a = 128
  · exact hr ha
  · have no : ∀ {p : Prop}, a = 128 → p := fun e => absurd e ha
    have h2' : ¬ 2 = c := fun e => h2 e.symm
    have h6' : ¬ 6 = c := fun e => h6 e.symm
    have c1 : qgc (qud F c k0 z) = qgc F := qgc_c (by simp [qud, h2']) (fun i hi => by simp [qud, h6'])
    exact qgF_congr (fun _ _ => c1) (fun _ _ => by rw [c1]; simp [qud, h2']) (fun _ _ => by simp [qud, h2']) (fun e _ => no e) (fun e _ => no e) (fun e _ => no e) (fun e _ => no e) (fun e _ => no e) (fun e _ => no e) (fun e _ => no e) (fun e _ => no e) (fun e _ => no e) (fun e _ => no e)
theorem qd33 {F : qF} {z : Int} (a k : Nat) (h : ¬ (a = 128 ∧ k = 74)) : qgF (qud F 128 33 z) a k = qgF F a k := by
  refine qdr (by omega) (by omega) (fun ha => ?_)
  have no : ∀ {p : Prop}, a = 2 → p := fun e => by omega
  refine qgF_congr (fun e _ => no e) (fun e _ => no e) (fun e _ => no e) (fun e1 e2 => absurd ⟨e1, e2⟩ h) (fun _ _ => ?_) (fun _ _ => ?_) (fun _ _ => ?_) (fun _ _ => ?_) (fun _ _ => ?_) (fun _ _ => ?_) (fun _ _ => ?_) (fun _ _ => ?_) (fun _ _ => ⟨by simp [qud], by simp [qud]⟩)
  · have hb : qba (qud F 128 33 z) = qba F := by simp [qba, qud]
    rw [hb, show qud F 128 33 z 130 17 = F 130 17 by simp [qud]]
    exact qhn_c _ (fun i _ => by simp [qud])
  · simp [qba, qud]
  · exact qp2_c (by simp [qud]) (fun i _ _ => by simp [qud]) (fun i _ => by simp [qud])
  · exact qp1_c (fun i _ => by simp [qud]) (fun i _ => by simp [qud])
  · exact qpe_c _ (fun i _ => by simp [qud])
  · exact qpe_c _ (fun i _ => by simp [qud])
  · exact qpe_c _ (fun i _ => by simp [qud])
  · exact qpe_c _ (fun i _ => by simp [qud])
theorem qd26 {F : qF} {z : Int} (a k : Nat) (h : ¬ (a = 128 ∧ k = 83)) : qgF (qud F 128 26 z) a k = qgF F a k := by
  refine qdr (by omega) (by omega) (fun ha => ?_)
  have no : ∀ {p : Prop}, a = 2 → p := fun e => by omega
  refine qgF_congr (fun e _ => no e) (fun e _ => no e) (fun e _ => no e) (fun _ _ => by simp [qud]) (fun _ _ => ?_) (fun _ _ => ?_) (fun _ _ => ?_) (fun _ _ => ?_) (fun _ _ => ?_) (fun _ _ => ?_) (fun _ _ => ?_) (fun _ _ => ?_) (fun e1 e2 => absurd ⟨e1, e2⟩ h)
  · have hb : qba (qud F 128 26 z) = qba F := by simp [qba, qud]
    rw [hb, show qud F 128 26 z 130 17 = F 130 17 by simp [qud]]
    exact qhn_c _ (fun i _ => by simp [qud])
  · simp [qba, qud]
  · exact qp2_c (by simp [qud]) (fun i _ _ => by simp [qud]) (fun i _ => by simp [qud])
  · exact qp1_c (fun i _ => by simp [qud]) (fun i _ => by simp [qud])
  · exact qpe_c _ (fun i _ => by simp [qud])
  · exact qpe_c _ (fun i _ => by simp [qud])
  · exact qpe_c _ (fun i _ => by simp [qud])
  · exact qpe_c _ (fun i _ => by simp [qud])
theorem qd27 {F : qF} {z : Int} (a k : Nat) (h : ¬ (a = 128 ∧ k = 83)) : qgF (qud F 128 27 z) a k = qgF F a k := by
  refine qdr (by omega) (by omega) (fun ha => ?_)
  have no : ∀ {p : Prop}, a = 2 → p := fun e => by omega
  refine qgF_congr (fun e _ => no e) (fun e _ => no e) (fun e _ => no e) (fun _ _ => by simp [qud]) (fun _ _ => ?_) (fun _ _ => ?_) (fun _ _ => ?_) (fun _ _ => ?_) (fun _ _ => ?_) (fun _ _ => ?_) (fun _ _ => ?_) (fun _ _ => ?_) (fun e1 e2 => absurd ⟨e1, e2⟩ h)
  · have hb : qba (qud F 128 27 z) = qba F := by simp [qba, qud]
    rw [hb, show qud F 128 27 z 130 17 = F 130 17 by simp [qud]]
    exact qhn_c _ (fun i _ => by simp [qud])
  · simp [qba, qud]
  · exact qp2_c (by simp [qud]) (fun i _ _ => by simp [qud]) (fun i _ => by simp [qud])
  · exact qp1_c (fun i _ => by simp [qud]) (fun i _ => by simp [qud])
  · exact qpe_c _ (fun i _ => by simp [qud])
  · exact qpe_c _ (fun i _ => by simp [qud])
  · exact qpe_c _ (fun i _ => by simp [qud])
  · exact qpe_c _ (fun i _ => by simp [qud])
theorem qd17 {F : qF} {z : Int} (a k : Nat) (h1 : ¬ (a = 128 ∧ k = 74)) (h2 : ¬ (a = 128 ∧ k = 75)) (h3 : ¬ (a = 128 ∧ k = 77)) : qgF (qud F 130 17 z) a k = qgF F a k := by
  refine qdr (by omega) (by omega) (fun ha => ?_)
  have no : ∀ {p : Prop}, a = 2 → p := fun e => by omega
  refine qgF_congr (fun e _ => no e) (fun e _ => no e) (fun e _ => no e) (fun e1 e2 => absurd ⟨e1, e2⟩ h1) (fun e1 e2 => absurd ⟨e1, e2⟩ h2) (fun _ _ => ?_) (fun e1 e2 => absurd ⟨e1, e2⟩ h3) (fun _ _ => ?_) (fun _ _ => ?_) (fun _ _ => ?_) (fun _ _ => ?_) (fun _ _ => ?_) (fun _ _ => ⟨by simp [qud], by simp [qud]⟩)
  · simp [qba, qud]
  · exact qp1_c (fun i _ => by simp [qud]) (fun i _ => by simp [qud])
  · exact qpe_c _ (fun i _ => by simp [qud])
  · exact qpe_c _ (fun i _ => by simp [qud])
  · exact qpe_c _ (fun i _ => by simp [qud])
  · exact qpe_c _ (fun i _ => by simp [qud])
/-- the first half of the rows of ends -/
theorem qd44a {F : qF} {k0 : Nat} {z : Int} (hk : k0 < 3) (a k : Nat) (h1 : ¬ (a = 128 ∧ k = 78)) (h2 : ¬ (a = 128 ∧ k = 79)) : qgF (qud F 144 k0 z) a k = qgF F a k := by
  refine qdr (by omega) (by omega) (fun ha => ?_)
  have no : ∀ {p : Prop}, a = 2 → p := fun e => by omega
  have g : ∀ i : Nat, 3 ≤ i → qud F 144 k0 z 144 i = F 144 i := fun i hi => qud_k (by omega)
  have hb : qba (qud F 144 k0 z) = qba F := qba_c (fun i h _ => g i h)
  refine qgF_congr (fun e _ => no e) (fun e _ => no e) (fun e _ => no e) (fun _ _ => by simp [qud]) (fun _ _ => ?_) (fun _ _ => hb) (fun _ _ => ?_) (fun e1 e2 => absurd ⟨e1, e2⟩ h1) (fun e1 e2 => absurd ⟨e1, e2⟩ h2) (fun _ _ => ?_) (fun _ _ => ?_) (fun _ _ => ?_) (fun _ _ => ⟨by simp [qud], by simp [qud]⟩)
  · rw [hb, show qud F 144 k0 z 130 17 = F 130 17 by simp [qud]]
    exact qhn_c _ (fun i _ => by simp [qud])
  · exact qp2_c (by simp [qud]) (fun i h _ => ⟨g i h, by simp [qud]⟩) (fun i _ => by simp [qud])
  · exact qpe_c _ (fun i _ => by simp [qud])
  · exact qpe_c _ (fun i _ => by simp [qud])
  · exact qpe_c _ (fun i _ => by simp [qud])
theorem qd45a {F : qF} {k0 : Nat} {z : Int} (hk : k0 < 3) (a k : Nat) (h1 : ¬ (a = 128 ∧ k = 78)) (h2 : ¬ (a = 128 ∧ k = 80)) : qgF (qud F 145 k0 z) a k = qgF F a k := by
  refine qdr (by omega) (by omega) (fun ha => ?_)
  have no : ∀ {p : Prop}, a = 2 → p := fun e => by omega
  have g : ∀ i : Nat, 3 ≤ i → qud F 145 k0 z 145 i = F 145 i := fun i hi => qud_k (by omega)
  have hb : qba (qud F 145 k0 z) = qba F := by simp [qba, qud]
  refine qgF_congr (fun e _ => no e) (fun e _ => no e) (fun e _ => no e) (fun _ _ => by simp [qud]) (fun _ _ => ?_) (fun _ _ => hb) (fun _ _ => ?_) (fun e1 e2 => absurd ⟨e1, e2⟩ h1) (fun _ _ => ?_) (fun e1 e2 => absurd ⟨e1, e2⟩ h2) (fun _ _ => ?_) (fun _ _ => ?_) (fun _ _ => ⟨by simp [qud], by simp [qud]⟩)
  · rw [hb, show qud F 145 k0 z 130 17 = F 130 17 by simp [qud]]
    exact qhn_c _ (fun i _ => by simp [qud])
  · exact qp2_c (by simp [qud]) (fun i h _ => ⟨by simp [qud], g i h⟩) (fun i _ => by simp [qud])
  · exact qpe_c _ (fun i _ => by simp [qud])
  · exact qpe_c _ (fun i _ => by simp [qud])
  · exact qpe_c _ (fun i _ => by simp [qud])
/-- the first half of the knots -/
theorem qd46a {F : qF} {k0 : Nat} {z : Int} (hk : k0 < 64) (a k : Nat) (h1 : ¬ (a = 128 ∧ k = 78)) (h2 : ¬ (a = 128 ∧ k = 81)) : qgF (qud F 146 k0 z) a k = qgF F a k := by
  refine qdr (by omega) (by omega) (fun ha => ?_)
  have no : ∀ {p : Prop}, a = 2 → p := fun e => by omega
  have g : ∀ i : Nat, 64 ≤ i → qud F 146 k0 z 146 i = F 146 i := fun i hi => qud_k (by omega)
  have hb : qba (qud F 146 k0 z) = qba F := by simp [qba, qud]
  refine qgF_congr (fun e _ => no e) (fun e _ => no e) (fun e _ => no e) (fun _ _ => by simp [qud]) (fun _ _ => ?_) (fun _ _ => hb) (fun _ _ => ?_) (fun e1 e2 => absurd ⟨e1, e2⟩ h1) (fun _ _ => ?_) (fun _ _ => ?_) (fun e1 e2 => absurd ⟨e1, e2⟩ h2) (fun _ _ => ?_) (fun _ _ => ⟨by simp [qud], by simp [qud]⟩)
  · rw [hb, show qud F 146 k0 z 130 17 = F 130 17 by simp [qud]]
    exact qhn_c _ (fun i _ => ⟨g _ (by omega), by simp [qud]⟩)
  · exact qp2_c (by simp [qud]) (fun i h _ => by simp [qud]) (fun i _ => ⟨g _ (by omega), by simp [qud]⟩)
  · exact qpe_c _ (fun i _ => by simp [qud])
  · exact qpe_c _ (fun i _ => by simp [qud])
  · exact qpe_c _ (fun i _ => by simp [qud])
theorem qd47a {F : qF} {k0 : Nat} {z : Int} (hk : k0 < 64) (a k : Nat) (h1 : ¬ (a = 128 ∧ k = 78)) (h2 : ¬ (a = 128 ∧ k = 82)) : qgF (qud F 147 k0 z) a k = qgF F a k := by
  refine qdr (by omega) (by omega) (fun ha => ?_)
  have no : ∀ {p : Prop}, a = 2 → p := fun e => by omega
  have g : ∀ i : Nat, 64 ≤ i → qud F 147 k0 z 147 i = F 147 i := fun i hi => qud_k (by omega)
  have hb : qba (qud F 147 k0 z) = qba F := by simp [qba, qud]
  refine qgF_congr (fun e _ => no e) (fun e _ => no e) (fun e _ => no e) (fun _ _ => by simp [qud]) (fun _ _ => ?_) (fun _ _ => hb) (fun _ _ => ?_) (fun e1 e2 => absurd ⟨e1, e2⟩ h1) (fun _ _ => ?_) (fun _ _ => ?_) (fun _ _ => ?_) (fun e1 e2 => absurd ⟨e1, e2⟩ h2) (fun _ _ => ⟨by simp [qud], by simp [qud]⟩)
  · rw [hb, show qud F 147 k0 z 130 17 = F 130 17 by simp [qud]]
    exact qhn_c _ (fun i _ => ⟨by simp [qud], g _ (by omega)⟩)
  · exact qp2_c (by simp [qud]) (fun i h _ => by simp [qud]) (fun i _ => ⟨by simp [qud], g _ (by omega)⟩)
  · exact qpe_c _ (fun i _ => by simp [qud])
  · exact qpe_c _ (fun i _ => by simp [qud])
  · exact qpe_c _ (fun i _ => by simp [qud])
/-- the second half of the rows of ends -/
theorem qd44b {F : qF} {k0 : Nat} {z : Int} (hk : 3 ≤ k0) (a k : Nat) (h1 : ¬ (a = 128 ∧ k = 75)) (h2 : ¬ (a = 128 ∧ k = 76)) (h3 : ¬ (a = 128 ∧ k = 77)) (h4 : ¬ (a = 128 ∧ k = 79)) : qgF (qud F 144 k0 z) a k = qgF F a k := by
  refine qdr (by omega) (by omega) (fun ha => ?_)
  have no : ∀ {p : Prop}, a = 2 → p := fun e => by omega
  have g : ∀ i : Nat, i < 3 → qud F 144 k0 z 144 i = F 144 i := fun i hi => qud_k (by omega)
  refine qgF_congr (fun e _ => no e) (fun e _ => no e) (fun e _ => no e) (fun _ _ => by simp [qud]) (fun e1 e2 => absurd ⟨e1, e2⟩ h1) (fun e1 e2 => absurd ⟨e1, e2⟩ h2) (fun e1 e2 => absurd ⟨e1, e2⟩ h3) (fun _ _ => ?_) (fun e1 e2 => absurd ⟨e1, e2⟩ h4) (fun _ _ => ?_) (fun _ _ => ?_) (fun _ _ => ?_) (fun _ _ => ⟨by simp [qud], by simp [qud]⟩)
  · exact qp1_c (fun i h => ⟨g i h, by simp [qud]⟩) (fun i _ => by simp [qud])
  · exact qpe_c _ (fun i _ => by simp [qud])
  · exact qpe_c _ (fun i _ => by simp [qud])
  · exact qpe_c _ (fun i _ => by simp [qud])
theorem qd45b {F : qF} {k0 : Nat} {z : Int} (hk : 3 ≤ k0) (a k : Nat) (h1 : ¬ (a = 128 ∧ k = 77)) (h2 : ¬ (a = 128 ∧ k = 80)) : qgF (qud F 145 k0 z) a k = qgF F a k := by
  refine qdr (by omega) (by omega) (fun ha => ?_)
  have no : ∀ {p : Prop}, a = 2 → p := fun e => by omega
  have g : ∀ i : Nat, i < 3 → qud F 145 k0 z 145 i = F 145 i := fun i hi => qud_k (by omega)
  have hb : qba (qud F 145 k0 z) = qba F := by simp [qba, qud]
  refine qgF_congr (fun e _ => no e) (fun e _ => no e) (fun e _ => no e) (fun _ _ => by simp [qud]) (fun _ _ => ?_) (fun _ _ => hb) (fun e1 e2 => absurd ⟨e1, e2⟩ h1) (fun _ _ => ?_) (fun _ _ => ?_) (fun e1 e2 => absurd ⟨e1, e2⟩ h2) (fun _ _ => ?_) (fun _ _ => ?_) (fun _ _ => ⟨by simp [qud], by simp [qud]⟩)
  · rw [hb, show qud F 145 k0 z 130 17 = F 130 17 by simp [qud]]
    exact qhn_c _ (fun i _ => by simp [qud])
  · exact qp1_c (fun i h => ⟨by simp [qud], g i h⟩) (fun i _ => by simp [qud])
  · exact qpe_c _ (fun i _ => by simp [qud])
  · exact qpe_c _ (fun i _ => by simp [qud])
  · exact qpe_c _ (fun i _ => by simp [qud])
/-- a knot behind those that are laid -/
theorem qd46b {F : qF} {k0 : Nat} {z : Int} (hN : (k0 : Int) = F 130 17 + 64) (h0 : 64 ≤ k0) (a k : Nat) (h2 : ¬ (a = 128 ∧ k = 81)) : qgF (qud F 146 k0 z) a k = qgF F a k := by
  refine qdr (by omega) (by omega) (fun ha => ?_)
  have no : ∀ {p : Prop}, a = 2 → p := fun e => by omega
  have hb : qba (qud F 146 k0 z) = qba F := by simp [qba, qud]
  have hn : qud F 146 k0 z 130 17 = F 130 17 := by simp [qud]
  have g : ∀ i : Nat, ¬ i = k0 → qud F 146 k0 z 146 i = F 146 i := fun i hi => qud_k hi
  refine qgF_congr (fun e _ => no e) (fun e _ => no e) (fun e _ => no e) (fun _ _ => by simp [qud]) (fun _ _ => ?_) (fun _ _ => hb) (fun _ _ => ?_) (fun _ _ => ?_) (fun _ _ => ?_) (fun _ _ => ?_) (fun e1 e2 => absurd ⟨e1, e2⟩ h2) (fun _ _ => ?_) (fun _ _ => ⟨by simp [qud], by simp [qud]⟩)
  · rw [hb, hn]
    exact qhn_c _ (fun i hi => ⟨g _ (by omega), by simp [qud]⟩)
  · exact qp2_c hn (fun i h _ => by simp [qud]) (fun i hi => ⟨g _ (by omega), by simp [qud]⟩)
  · exact qp1_c (fun i _ => by simp [qud]) (fun i hi => ⟨g _ (by omega), by simp [qud]⟩)
  · exact qpe_c _ (fun i _ => by simp [qud])
  · exact qpe_c _ (fun i _ => by simp [qud])
  · exact qpe_c _ (fun i _ => by simp [qud])
theorem qd47b {F : qF} {k0 : Nat} {z : Int} (hN : (k0 : Int) = F 130 17 + 64) (h0 : 64 ≤ k0) (a k : Nat) (h2 : ¬ (a = 128 ∧ k = 82)) : qgF (qud F 147 k0 z) a k = qgF F a k := by
  refine qdr (by omega) (by omega) (fun ha => ?_)
  have no : ∀ {p : Prop}, a = 2 → p := fun e => by omega
  have hb : qba (qud F 147 k0 z) = qba F := by simp [qba, qud]
  have hn : qud F 147 k0 z 130 17 = F 130 17 := by simp [qud]
  have g : ∀ i : Nat, ¬ i = k0 → qud F 147 k0 z 147 i = F 147 i := fun i hi => qud_k hi
  refine qgF_congr (fun e _ => no e) (fun e _ => no e) (fun e _ => no e) (fun _ _ => by simp [qud]) (fun _ _ => ?_) (fun _ _ => hb) (fun _ _ => ?_) (fun _ _ => ?_) (fun _ _ => ?_) (fun _ _ => ?_) (fun _ _ => ?_) (fun e1 e2 => absurd ⟨e1, e2⟩ h2) (fun _ _ => ⟨by simp [qud], by simp [qud]⟩)
  · rw [hb, hn]
    exact qhn_c _ (fun i hi => ⟨by simp [qud], g _ (by omega)⟩)
  · exact qp2_c hn (fun i h _ => by simp [qud]) (fun i hi => ⟨by simp [qud], g _ (by omega)⟩)
  · exact qp1_c (fun i _ => by simp [qud]) (fun i hi => ⟨by simp [qud], g _ (by omega)⟩)
  · exact qpe_c _ (fun i _ => by simp [qud])
  · exact qpe_c _ (fun i _ => by simp [qud])
  · exact qpe_c _ (fun i _ => by simp [qud])
