/-! The reference's parser: what is not, comparisons, values, brackets. -/
theorem gE_n1 {B : eB} {f : Nat} {o o1 : eO} (h : isK B o 46 = true) (h1 : gE B f 2 (goF (knF o)) = some o1) : gE B (f + 1) 2 o = some o1 := by
  rw [gE_s, if_neg (by omega), if_pos rfl, if_pos h]
  exact h1
theorem gE_n2 {B : eB} {f : Nat} {o o1 : eO} (h : isK B o 46 = false) (h1 : gE B f 3 o = some o1) (h2 : isC B o1 = false) : gE B (f + 1) 2 o = some o1 := by
  rw [gE_s, if_neg (by omega), if_pos rfl, if_neg (by rw [h]; decide)]
  exact obind' h1 (by rw [if_neg (by rw [h2]; decide)])
theorem gE_n3 {B : eB} {f1 f2 : Nat} {o o1 o2 : eO} (h : isK B o 46 = false) (h1 : gE B f1 3 o = some o1) (h2 : isC B o1 = true) (h3 : gE B f2 3 (goF (knF o1)) = some o2) : gE B (f1 + f2 + 1) 2 o = some o2 := by
  rw [gE_s, if_neg (by omega), if_pos rfl, if_neg (by rw [h]; decide)]
  refine obind' (gE_up _ _ _ _ _ h1 (by omega)) ?_
  rw [if_pos h2]
  exact gE_up _ _ _ _ _ h3 (by omega)
theorem gE_p0 {B : eB} {f : Nat} {e : Nat × Nat} : gE B (f + 1) 5 (.inl e) = some (.inl e) := rfl
theorem gE_p1 {B : eB} {f : Nat} {s : Nat × Nat × Nat} (h : tK B s.1 = 5) (h8 : s.2.2 = 8) : gE B (f + 1) 5 (.inr s) = some (.inl (2, s.1)) := by
  rw [gE_s, if_pos rfl]
  dsimp only
  rw [if_pos h, if_pos h8]
theorem gE_p2 {B : eB} {f : Nat} {s : Nat × Nat × Nat} {o1 : eO} (h : tK B s.1 = 5) (h8 : ¬ s.2.2 = 8) (h1 : gE B f 0 (.inr (s.1 + 1, s.2.1, s.2.2 + 1)) = some o1) : gE B (f + 1) 5 (.inr s) = some (cloF B o1) := by
  rw [gE_s, if_pos rfl]
  dsimp only
  rw [if_pos h, if_neg h8]
  exact obind' h1 rfl
theorem gE_p3 {B : eB} {f : Nat} {s : Nat × Nat × Nat} (h : ¬ tK B s.1 = 5) : gE B (f + 1) 5 (.inr s) = some (goF (knF (priF B s))) := by
  rw [gE_s, if_pos rfl]
  dsimp only
  rw [if_neg h]
theorem priF_a {B : eB} {s : Nat × Nat × Nat} (h2 : tK B s.1 = 2) (h9 : ¬ 9999 < (tV B s.1).toInt) : priF B s = .inr s := by unfold priF; rw [if_pos h2, if_neg h9]
theorem priF_b {B : eB} {s : Nat × Nat × Nat} (h2 : tK B s.1 = 2) (h9 : 9999 < (tV B s.1).toInt) : priF B s = .inl (2, s.1) := by unfold priF; rw [if_pos h2, if_pos h9]
theorem priF_c {B : eB} {s : Nat × Nat × Nat} (h2 : ¬ tK B s.1 = 2) (hq : qty (tK B s.1) = true) : priF B s = .inr s := by unfold priF; rw [if_neg h2, if_pos hq]
theorem priF_d {B : eB} {s : Nat × Nat × Nat} (h2 : ¬ tK B s.1 = 2) (hq : qty (tK B s.1) = false) : priF B s = .inl (1, s.1) := by unfold priF; rw [if_neg h2, if_neg (by rw [hq]; decide)]
theorem nv_9 {v va : Int32} (h : nv v va) : 9999 < v.toInt ↔ 9999 < va.toInt := by
  rcases h with ⟨q, q1, q2⟩ | ⟨q1, q2⟩
  · rw [q]
  · exact ⟨fun _ => by omega, fun _ => by omega⟩
theorem sX_open {B : eB} {s : Nat × Nat × Nat} {m : xM} (h : sX B (.inr s) m) (h8 : ¬ s.2.2 = 8) : sX B (.inr (s.1, s.2.1, s.2.2 + 1)) (xu m 128 32 (m 128 32 + 1)) := by
  obtain ⟨g1, ⟨g2, g3, g4, g5, g6⟩, g7, g8, g9, g10, g11⟩ := h
  exact ⟨by rw [xu_oth (by decide)]; exact g1, ⟨by rw [xu_row (by decide)]; exact g2, by rw [xu_oth (by decide)]; exact g3, by rw [xu_oth (by decide)]; exact g4, by rw [xu_oth (by decide)]; exact g5, by rw [xu_oth (by decide), xu_oth (by decide)]; exact g6⟩, by rw [xu_oth (by decide)]; exact g7, g8, by rw [xu_same, g9, xn_1], by dsimp only; omega, by rw [xu_oth (by decide)]; exact g11⟩
theorem sX_close {B : eB} {s : Nat × Nat × Nat} {m : xM} (h : sX B (.inr s) m) (h0 : ¬ s.2.2 = 0) : sX B (.inr (s.1, s.2.1, s.2.2 - 1)) (xu m 128 32 (m 128 32 - 1)) := by
  obtain ⟨g1, ⟨g2, g3, g4, g5, g6⟩, g7, g8, g9, g10, g11⟩ := h
  refine ⟨by rw [xu_oth (by decide)]; exact g1, ⟨by rw [xu_row (by decide)]; exact g2, by rw [xu_oth (by decide)]; exact g3, by rw [xu_oth (by decide)]; exact g4, by rw [xu_oth (by decide)]; exact g5, by rw [xu_oth (by decide), xu_oth (by decide)]; exact g6⟩, by rw [xu_oth (by decide)]; exact g7, g8, ?_, by dsimp only; omega, by rw [xu_oth (by decide)]; exact g11⟩
  rw [xu_same, g9]
  show Int32.ofNat s.2.2 - 1 = Int32.ofNat (s.2.2 - 1)
  rw [show s.2.2 = (s.2.2 - 1) + 1 by omega, xn_pred]
  rfl
theorem rf_32 {m : xM} {x : Int32} : rf m (xu m 128 32 x) := ⟨fun a a1 _ _ _ => xu_row a1, fun k _ k2 _ => xu_oth (by omega), fun k _ => by rw [xu_row (by decide)]⟩
/-- brackets that are open stay so many -/
theorem knF_op {o : eO} {s : Nat × Nat × Nat} (h : knF o = .inr s) : ∃ t : Nat × Nat × Nat, o = .inr t ∧ s.2.2 = t.2.2 := by
  cases o with
  | inl e => cases h
  | inr t =>
    have h : (if t.2.1 = 64 then Sum.inl (2, t.1) else Sum.inr (t.1, t.2.1 + 1, t.2.2)) = (Sum.inr s : eO) := h
    split at h
    · cases h
    · cases h; exact ⟨t, rfl, rfl⟩
theorem goF_op {o : eO} {s : Nat × Nat × Nat} (h : goF o = .inr s) : ∃ t : Nat × Nat × Nat, o = .inr t ∧ s.2.2 = t.2.2 := by
  cases o with
  | inl e => cases h
  | inr t => cases h; exact ⟨t, rfl, rfl⟩
theorem gE_op {B : eB} : ∀ (f lv : Nat) (o : eO) (s' : Nat × Nat × Nat), gE B f lv o = some (.inr s') → ∃ s : Nat × Nat × Nat, o = .inr s ∧ s'.2.2 = s.2.2 := by
  intro f
  induction f with
  | zero => intro lv o s' h; cases h
  | succ f ih =>
    intro lv o s' h
    have gk : ∀ {o : eO} {t : Nat × Nat × Nat}, goF (knF o) = .inr t → ∃ s : Nat × Nat × Nat, o = .inr s ∧ t.2.2 = s.2.2 := fun {o t} q => by
      obtain ⟨u, u1, u2⟩ := goF_op q
      obtain ⟨v, v1, v2⟩ := knF_op u1
      exact ⟨v, v1, u2.trans v2⟩
    rw [gE_s] at h
    split at h
    · cases o with
      | inl e => cases h
      | inr s =>
        refine ⟨s, rfl, ?_⟩
        dsimp only at h
        split at h
        · split at h
          · cases h
          · obtain ⟨b, h1, h2⟩ := obind h
            have h2 : some (cloF B b) = some (Sum.inr s') := h2
            injection h2 with h2
            cases b with
            | inl e => cases h2
            | inr t =>
              obtain ⟨u, u1, u2⟩ := ih _ _ _ h1
              cases u1
              have h2 : (if tK B t.1 = 6 then Sum.inr (t.1 + 1, t.2.1, t.2.2 - 1) else Sum.inl (1, t.1)) = (Sum.inr s' : eO) := h2
              split at h2
              · cases h2
                dsimp only at u2 ⊢
                omega
              · cases h2
        · injection h with h
          obtain ⟨t, t1, t2⟩ := gk h
          unfold priF at t1
          split at t1
          · split at t1
            · cases t1
            · cases t1; exact t2
          · split at t1
            · cases t1; exact t2
            · cases t1
    · split at h
      · split at h
        · obtain ⟨t, t1, t2⟩ := ih _ _ _ h
          obtain ⟨u, u1, u2⟩ := gk t1
          exact ⟨u, u1, t2.trans u2⟩
        · obtain ⟨b, h1, h2⟩ := obind h
          have h2 : (if isC B b = true then gE B f 3 (goF (knF b)) else some b) = some (Sum.inr s') := h2
          split at h2
          · obtain ⟨t, t1, t2⟩ := ih _ _ _ h2
            obtain ⟨u, u1, u2⟩ := gk t1
            subst u1
            obtain ⟨v, v1, v2⟩ := ih _ _ _ h1
            exact ⟨v, v1, (t2.trans u2).trans v2⟩
          · cases h2
            exact ih _ _ _ h1
      · split at h
        · split at h
          · obtain ⟨b, h1, h2⟩ := obind h
            obtain ⟨t, t1, t2⟩ := ih _ _ _ h2
            subst t1
            obtain ⟨u, u1, u2⟩ := ih _ _ _ h1
            obtain ⟨v, v1, v2⟩ := gk u1
            exact ⟨v, v1, (t2.trans u2).trans v2⟩
          · cases h
            exact ⟨s', rfl, rfl⟩
        · obtain ⟨b, h1, h2⟩ := obind h
          obtain ⟨t, t1, t2⟩ := ih _ _ _ h2
          subst t1
          obtain ⟨u, u1, u2⟩ := ih _ _ _ h1
          exact ⟨u, u1, t2.trans u2⟩
theorem st176 {nf : Bool} {xs : List Int32} {d : Nat} {B : eB} (hE : EV B) (ih2 : EX nf xs d B 2) (ih3 : EX nf xs d B 3) : EX nf xs (d + 1) B 2 := by
  intro o m g G hG hN h
  refine CT.of (c := 11) (ini := false) (nL := 2) (rt := none) (tab := zt176) rfl (fun d' r h' N hd hr => ?_)
  obtain rfl : d' = d := by omega
  replace hr : RR nf xs d' 11 false 2 none zt176 G r h' N (0, [(0, .ref 128)], [], m, g) := hr
  have k256 : (256 : Int32).toInt = 256 := rfl
  replace hr := hr.go (s_aload_n t176_0 rfl)
  replace hr := hr.go (s_k t176_1)
  replace hr := hr.cvI t176_3 rfl rfl (ct_isWord (w := 14) h (by decide))
  rcases hr.zEq t176_6 with ⟨b6, hr⟩ | ⟨b6, hr⟩
  · replace hr := hr.go (s_aload_n t176_30 rfl)
    obtain ⟨m3, f3, o3, e3, h3, hf3, hr⟩ := hr.cPX (lv := 3) t176_31 (ih3 _ _ _ _ hG hN h)
    replace hr := hr.go (s_aload_n t176_34 rfl)
    replace hr := hr.go (s_getf t176_35)
    rcases hr.zNe t176_38 with ⟨b38, hr⟩ | ⟨b38, hr⟩
    · obtain ⟨rfl, hs⟩ := hr.ret t176_86
      have hk : isK B o 46 = false := bI_0 b6
      have hC : isC B o3 = false := by
        cases o3 with
        | inl e => rfl
        | inr t => exact absurd h3.1 b38
      exact ⟨_, _, hs, rfl, rfl, f3 + 1, o3, gE_n2 hk e3 hC, h3, hf3⟩
    · replace hr := hr.go (s_aload_n t176_41 rfl)
      replace hr := hr.go (s_getf t176_42)
      replace hr := hr.go (s_k t176_45)
      rcases hr.bNe t176_46 with ⟨b46, hr⟩ | ⟨b46, hr⟩
      · obtain ⟨rfl, hs⟩ := hr.ret t176_86
        have hk : isK B o 46 = false := bI_0 b6
        have hC : isC B o3 = false := by
          cases o3 with
          | inl e => rfl
          | inr t => exact decide_eq_false (fun q => b46 ((tr_cmp h3.2.1.2.2.2.2).mpr q).1)
        exact ⟨_, _, hs, rfl, rfl, f3 + 1, o3, gE_n2 hk e3 hC, h3, hf3⟩
      · replace hr := hr.go (s_aload_n t176_49 rfl)
        replace hr := hr.go (s_getf t176_50)
        replace hr := hr.go (s_k t176_53)
        rcases hr.bEq t176_55 with ⟨b55, hr⟩ | ⟨b55, hr⟩
        · have hC : isC B o3 = true := by
            cases o3 with
            | inl e => exact absurd b38 h3.2.1
            | inr t => exact decide_eq_true ((tr_cmp h3.2.1.2.2.2.2).mp ⟨b46, Or.inl b55⟩)
          replace hr := hr.go (s_aload_n t176_87 rfl)
          replace hr := hr.go (s_getf t176_88)
          replace hr := hr.go (s_istore_n (ls' := [(1, _), (0, _)]) t176_91 rfl)
          replace hr := hr.go (s_aload_n t176_92 rfl)
          obtain ⟨m4, ⟨h4, hf4⟩, hr⟩ := hr.fvN t176_93 rfl rfl (ct_knot h3)
          replace hr := hr.go (s_aload_n t176_96 rfl)
          obtain ⟨m5, ⟨h5, hf5⟩, hr⟩ := hr.fvN t176_97 rfl rfl (ct_goOn hG hE h4)
          replace hr := hr.go (s_aload_n t176_100 rfl)
          obtain ⟨m6, f6, o6, e6, h6, hf6, hr⟩ := hr.cPX (lv := 3) t176_101 (ih3 _ _ _ _ hG hN h5)
          replace hr := hr.go (s_aload_n t176_104 rfl)
          replace hr := hr.go (s_k t176_105)
          replace hr := hr.go (s_iload_n t176_106 rfl)
          obtain ⟨m9, ⟨h9, hf9⟩, hr⟩ := hr.fvN t176_107 rfl rfl (ct_puts hN h6)
          obtain ⟨rfl, hs⟩ := hr.ret t176_110
          have hk : isK B o 46 = false := bI_0 b6
          exact ⟨_, _, hs, rfl, rfl, f3 + f6 + 1, o6, gE_n3 hk e3 hC e6, h9, ((((hf3.trans hf4).trans hf5).trans hf6)).trans hf9⟩
        · replace hr := hr.go (s_aload_n t176_58 rfl)
          replace hr := hr.go (s_getf t176_59)
          replace hr := hr.go (s_k t176_62)
          rcases hr.bEq t176_64 with ⟨b64, hr⟩ | ⟨b64, hr⟩
          · have hC : isC B o3 = true := by
              cases o3 with
              | inl e => exact absurd b38 h3.2.1
              | inr t => exact decide_eq_true ((tr_cmp h3.2.1.2.2.2.2).mp ⟨b46, Or.inr (Or.inl b64)⟩)
            replace hr := hr.go (s_aload_n t176_87 rfl)
            replace hr := hr.go (s_getf t176_88)
            replace hr := hr.go (s_istore_n (ls' := [(1, _), (0, _)]) t176_91 rfl)
            replace hr := hr.go (s_aload_n t176_92 rfl)
            obtain ⟨m4, ⟨h4, hf4⟩, hr⟩ := hr.fvN t176_93 rfl rfl (ct_knot h3)
            replace hr := hr.go (s_aload_n t176_96 rfl)
            obtain ⟨m5, ⟨h5, hf5⟩, hr⟩ := hr.fvN t176_97 rfl rfl (ct_goOn hG hE h4)
            replace hr := hr.go (s_aload_n t176_100 rfl)
            obtain ⟨m6, f6, o6, e6, h6, hf6, hr⟩ := hr.cPX (lv := 3) t176_101 (ih3 _ _ _ _ hG hN h5)
            replace hr := hr.go (s_aload_n t176_104 rfl)
            replace hr := hr.go (s_k t176_105)
            replace hr := hr.go (s_iload_n t176_106 rfl)
            obtain ⟨m9, ⟨h9, hf9⟩, hr⟩ := hr.fvN t176_107 rfl rfl (ct_puts hN h6)
            obtain ⟨rfl, hs⟩ := hr.ret t176_110
            have hk : isK B o 46 = false := bI_0 b6
            exact ⟨_, _, hs, rfl, rfl, f3 + f6 + 1, o6, gE_n3 hk e3 hC e6, h9, ((((hf3.trans hf4).trans hf5).trans hf6)).trans hf9⟩
          · replace hr := hr.go (s_aload_n t176_67 rfl)
            replace hr := hr.go (s_getf t176_68)
            replace hr := hr.go (s_k t176_71)
            rcases hr.bEq t176_73 with ⟨b73, hr⟩ | ⟨b73, hr⟩
            · have hC : isC B o3 = true := by
                cases o3 with
                | inl e => exact absurd b38 h3.2.1
                | inr t => exact decide_eq_true ((tr_cmp h3.2.1.2.2.2.2).mp ⟨b46, Or.inr (Or.inr (Or.inl b73))⟩)
              replace hr := hr.go (s_aload_n t176_87 rfl)
              replace hr := hr.go (s_getf t176_88)
              replace hr := hr.go (s_istore_n (ls' := [(1, _), (0, _)]) t176_91 rfl)
              replace hr := hr.go (s_aload_n t176_92 rfl)
              obtain ⟨m4, ⟨h4, hf4⟩, hr⟩ := hr.fvN t176_93 rfl rfl (ct_knot h3)
              replace hr := hr.go (s_aload_n t176_96 rfl)
              obtain ⟨m5, ⟨h5, hf5⟩, hr⟩ := hr.fvN t176_97 rfl rfl (ct_goOn hG hE h4)
              replace hr := hr.go (s_aload_n t176_100 rfl)
              obtain ⟨m6, f6, o6, e6, h6, hf6, hr⟩ := hr.cPX (lv := 3) t176_101 (ih3 _ _ _ _ hG hN h5)
              replace hr := hr.go (s_aload_n t176_104 rfl)
              replace hr := hr.go (s_k t176_105)
              replace hr := hr.go (s_iload_n t176_106 rfl)
              obtain ⟨m9, ⟨h9, hf9⟩, hr⟩ := hr.fvN t176_107 rfl rfl (ct_puts hN h6)
              obtain ⟨rfl, hs⟩ := hr.ret t176_110
              have hk : isK B o 46 = false := bI_0 b6
              exact ⟨_, _, hs, rfl, rfl, f3 + f6 + 1, o6, gE_n3 hk e3 hC e6, h9, ((((hf3.trans hf4).trans hf5).trans hf6)).trans hf9⟩
            · replace hr := hr.go (s_aload_n t176_76 rfl)
              replace hr := hr.go (s_getf t176_77)
              replace hr := hr.go (s_k t176_80)
              rcases hr.bGe t176_83 with ⟨b83, hr⟩ | ⟨b83, hr⟩
              · have hC : isC B o3 = true := by
                  cases o3 with
                  | inl e => exact absurd b38 h3.2.1
                  | inr t => exact decide_eq_true ((tr_cmp h3.2.1.2.2.2.2).mp ⟨b46, Or.inr (Or.inr (Or.inr (by omega)))⟩)
                replace hr := hr.go (s_aload_n t176_87 rfl)
                replace hr := hr.go (s_getf t176_88)
                replace hr := hr.go (s_istore_n (ls' := [(1, _), (0, _)]) t176_91 rfl)
                replace hr := hr.go (s_aload_n t176_92 rfl)
                obtain ⟨m4, ⟨h4, hf4⟩, hr⟩ := hr.fvN t176_93 rfl rfl (ct_knot h3)
                replace hr := hr.go (s_aload_n t176_96 rfl)
                obtain ⟨m5, ⟨h5, hf5⟩, hr⟩ := hr.fvN t176_97 rfl rfl (ct_goOn hG hE h4)
                replace hr := hr.go (s_aload_n t176_100 rfl)
                obtain ⟨m6, f6, o6, e6, h6, hf6, hr⟩ := hr.cPX (lv := 3) t176_101 (ih3 _ _ _ _ hG hN h5)
                replace hr := hr.go (s_aload_n t176_104 rfl)
                replace hr := hr.go (s_k t176_105)
                replace hr := hr.go (s_iload_n t176_106 rfl)
                obtain ⟨m9, ⟨h9, hf9⟩, hr⟩ := hr.fvN t176_107 rfl rfl (ct_puts hN h6)
                obtain ⟨rfl, hs⟩ := hr.ret t176_110
                have hk : isK B o 46 = false := bI_0 b6
                exact ⟨_, _, hs, rfl, rfl, f3 + f6 + 1, o6, gE_n3 hk e3 hC e6, h9, ((((hf3.trans hf4).trans hf5).trans hf6)).trans hf9⟩
              · obtain ⟨rfl, hs⟩ := hr.ret t176_86
                have hk : isK B o 46 = false := bI_0 b6
                have hC : isC B o3 = false := by
                  cases o3 with
                  | inl e => rfl
                  | inr t => exact decide_eq_false (fun q => by
                      rcases ((tr_cmp h3.2.1.2.2.2.2).mpr q).2 with z | z | z | z
                      · exact b55 z
                      · exact b64 z
                      · exact b73 z
                      · omega)
                exact ⟨_, _, hs, rfl, rfl, f3 + 1, o3, gE_n2 hk e3 hC, h3, hf3⟩
  · replace hr := hr.go (s_aload_n t176_9 rfl)
    obtain ⟨m1, ⟨h1, hf1⟩, hr⟩ := hr.fvN t176_10 rfl rfl (ct_knot h)
    replace hr := hr.go (s_aload_n t176_13 rfl)
    obtain ⟨m2, ⟨h2, hf2⟩, hr⟩ := hr.fvN t176_14 rfl rfl (ct_goOn hG hE h1)
    replace hr := hr.go (s_aload_n t176_17 rfl)
    obtain ⟨m3, f3, o3, e3, h3, hf3, hr⟩ := hr.cPX (lv := 2) t176_18 (ih2 _ _ _ _ hG hN h2)
    replace hr := hr.go (s_aload_n t176_21 rfl)
    replace hr := hr.go (s_k t176_22)
    replace hr := hr.go (s_k t176_23)
    obtain ⟨m9, ⟨h9, hf9⟩, hr⟩ := hr.fvN t176_26 rfl rfl (ct_puts hN h3)
    obtain ⟨rfl, hs⟩ := hr.ret t176_29
    have hk : isK B o 46 = true := bI_1 b6
    exact ⟨_, _, hs, rfl, rfl, f3 + 1, o3, gE_n1 hk e3, h9, ((hf1.trans hf2).trans hf3).trans hf9⟩
theorem st179 {nf : Bool} {xs : List Int32} {d : Nat} {B : eB} (hE : EV B) (ih0 : EX nf xs d B 0) : EX nf xs (d + 1) B 5 := by
  intro o m g G hG hN h
  refine CT.of (c := 11) (ini := false) (nL := 2) (rt := none) (tab := zt179) rfl (fun d' r h' N hd hr => ?_)
  obtain rfl : d' = d := by omega
  replace hr : RR nf xs d' 11 false 2 none zt179 G r h' N (0, [(0, .ref 128)], [], m, g) := hr
  have k9999 : (9999 : Int32).toInt = 9999 := rfl
  have k15 : (15 : Int32).toInt = 15 := rfl
  cases o with
  | inl e =>
    replace hr := hr.go (s_aload_n t179_0 rfl)
    replace hr := hr.go (s_getf t179_1)
    rcases hr.zEq t179_4 with ⟨b4, hr⟩ | ⟨b4, hr⟩
    · exact absurd b4 h.2.1
    · obtain ⟨rfl, hs⟩ := hr.ret t179_7
      exact ⟨_, _, hs, rfl, rfl, 1, .inl e, gE_p0, h, rf.rfl'⟩
  | inr s =>
    replace hr := hr.go (s_aload_n t179_0 rfl)
    replace hr := hr.go (s_getf t179_1)
    rcases hr.zEq t179_4 with ⟨b4, hr⟩ | ⟨b4, hr⟩
    · replace hr := hr.go (s_aload_n t179_8 rfl)
      replace hr := hr.go (s_k t179_9)
      replace hr := hr.cvI t179_11 rfl rfl (ct_isSign (kc := 5) h (fun _ _ _ _ q => tr_s40 q))
      rcases hr.zEq t179_14 with ⟨b14, hr⟩ | ⟨b14, hr⟩
      · have hn5 : ¬ tK B s.1 = 5 := of_decide_eq_false (bI_0 b14)
        have hT := h.2.1.2.2.2.2
        replace hr := hr.go (s_aload_n t179_101 rfl)
        replace hr := hr.go (s_getf t179_102)
        replace hr := hr.go (s_k t179_105)
        rcases hr.bNe t179_106 with ⟨b106, hr⟩ | ⟨b106, hr⟩
        · replace hr := hr.go (s_k t179_113)
          replace hr := hr.go (s_istore_n (ls' := [(1, _), (0, _)]) t179_114 rfl)
          replace hr := hr.go (s_iload_n t179_115 rfl)
          rcases hr.zEq t179_116 with ⟨b116, hr⟩ | ⟨b116, hr⟩
          · replace hr := hr.go (s_iload_n t179_137 rfl)
            rcases hr.zNe t179_138 with ⟨b138, hr⟩ | ⟨b138, hr⟩
            · exact absurd b138 (by decide)
            · have hk2 : ¬ tK B s.1 = 2 := fun q => b106 ((tr_num hT).mpr q)
              replace hr := hr.go (s_aload_n t179_141 rfl)
              replace hr := hr.go (s_getf t179_142)
              rcases hr.zNe t179_145 with ⟨b145, hr⟩ | ⟨b145, hr⟩
              · skip
                replace hr := hr.go (s_aload_n t179_157 rfl)
                replace hr := hr.go (s_k t179_158)
                obtain ⟨m1, ⟨h1, hf1⟩, hr⟩ := hr.fvN t179_159 rfl rfl (ct_wrong (f := 1) h (by decide) (by decide))
                have hp : sX B (priF B s) m1 := by
                  rw [priF_d hk2 (decide_eq_false (fun q => b145 ((tr_wrd hT).mpr (by omega))))]
                  exact h1
                replace hr := hr.go (s_aload_n t179_162 rfl)
                obtain ⟨m6, ⟨h6, hf6⟩, hr⟩ := hr.fvN t179_163 rfl rfl (ct_knot hp)
                replace hr := hr.go (s_aload_n t179_166 rfl)
                replace hr := hr.go (s_iload_n t179_167 rfl)
                rcases hr.zEq t179_168 with ⟨b168, hr⟩ | ⟨b168, hr⟩
                · replace hr := hr.go (s_k t179_175)
                  replace hr := hr.go (s_iload_n t179_176 rfl)
                  rcases hr.zEq t179_177 with ⟨b177, hr⟩ | ⟨b177, hr⟩
                  · replace hr := hr.go (s_aload_n t179_187 rfl)
                    replace hr := hr.go (s_getf t179_188)
                    replace hr := hr.go (s_k t179_191)
                    replace hr := hr.go (s_isub t179_193)
                    obtain ⟨m7, ⟨h7, hf7⟩, hr⟩ := hr.fvN t179_194 rfl rfl (ct_puts hN h6)
                    replace hr := hr.go (s_aload_n t179_197 rfl)
                    obtain ⟨m8, ⟨h8, hf8⟩, hr⟩ := hr.fvN t179_198 rfl rfl (ct_goOn hG hE h7)
                    obtain ⟨rfl, hs⟩ := hr.ret t179_201
                    exact ⟨_, _, hs, rfl, rfl, 1, _, gE_p3 hn5, h8, (((hf1.trans hf6).trans hf7).trans hf8)⟩
                  · exact absurd b177 (by decide)
                · exact absurd b168 (by decide)
              · replace hr := hr.go (s_aload_n t179_148 rfl)
                replace hr := hr.go (s_getf t179_149)
                replace hr := hr.go (s_k t179_152)
                rcases hr.bGe t179_154 with ⟨b154, hr⟩ | ⟨b154, hr⟩
                · have hp : sX B (priF B s) m := by
                    rw [priF_c hk2 (by
                      obtain ⟨w, w1, w2, w3⟩ := tr_wv hT ((tr_wrd hT).mp b145)
                      rw [w2, xn_int (by omega)] at b154
                      rw [w3]
                      exact decide_eq_true (by rw [xn_int (by omega)]; omega))]
                    exact h
                  replace hr := hr.go (s_aload_n t179_162 rfl)
                  obtain ⟨m6, ⟨h6, hf6⟩, hr⟩ := hr.fvN t179_163 rfl rfl (ct_knot hp)
                  replace hr := hr.go (s_aload_n t179_166 rfl)
                  replace hr := hr.go (s_iload_n t179_167 rfl)
                  rcases hr.zEq t179_168 with ⟨b168, hr⟩ | ⟨b168, hr⟩
                  · replace hr := hr.go (s_k t179_175)
                    replace hr := hr.go (s_iload_n t179_176 rfl)
                    rcases hr.zEq t179_177 with ⟨b177, hr⟩ | ⟨b177, hr⟩
                    · replace hr := hr.go (s_aload_n t179_187 rfl)
                      replace hr := hr.go (s_getf t179_188)
                      replace hr := hr.go (s_k t179_191)
                      replace hr := hr.go (s_isub t179_193)
                      obtain ⟨m7, ⟨h7, hf7⟩, hr⟩ := hr.fvN t179_194 rfl rfl (ct_puts hN h6)
                      replace hr := hr.go (s_aload_n t179_197 rfl)
                      obtain ⟨m8, ⟨h8, hf8⟩, hr⟩ := hr.fvN t179_198 rfl rfl (ct_goOn hG hE h7)
                      obtain ⟨rfl, hs⟩ := hr.ret t179_201
                      exact ⟨_, _, hs, rfl, rfl, 1, _, gE_p3 hn5, h8, (((hf6).trans hf7).trans hf8)⟩
                    · exact absurd b177 (by decide)
                  · exact absurd b168 (by decide)
                · skip
                  replace hr := hr.go (s_aload_n t179_157 rfl)
                  replace hr := hr.go (s_k t179_158)
                  obtain ⟨m1, ⟨h1, hf1⟩, hr⟩ := hr.fvN t179_159 rfl rfl (ct_wrong (f := 1) h (by decide) (by decide))
                  have hp : sX B (priF B s) m1 := by
                    rw [priF_d hk2 (decide_eq_false (fun q => by
                      obtain ⟨w, w1, w2, w3⟩ := tr_wv hT ((tr_wrd hT).mp b145)
                      rw [w2, xn_int (by omega)] at b154
                      rw [w3, xn_int (by omega)] at q
                      omega))]
                    exact h1
                  replace hr := hr.go (s_aload_n t179_162 rfl)
                  obtain ⟨m6, ⟨h6, hf6⟩, hr⟩ := hr.fvN t179_163 rfl rfl (ct_knot hp)
                  replace hr := hr.go (s_aload_n t179_166 rfl)
                  replace hr := hr.go (s_iload_n t179_167 rfl)
                  rcases hr.zEq t179_168 with ⟨b168, hr⟩ | ⟨b168, hr⟩
                  · replace hr := hr.go (s_k t179_175)
                    replace hr := hr.go (s_iload_n t179_176 rfl)
                    rcases hr.zEq t179_177 with ⟨b177, hr⟩ | ⟨b177, hr⟩
                    · replace hr := hr.go (s_aload_n t179_187 rfl)
                      replace hr := hr.go (s_getf t179_188)
                      replace hr := hr.go (s_k t179_191)
                      replace hr := hr.go (s_isub t179_193)
                      obtain ⟨m7, ⟨h7, hf7⟩, hr⟩ := hr.fvN t179_194 rfl rfl (ct_puts hN h6)
                      replace hr := hr.go (s_aload_n t179_197 rfl)
                      obtain ⟨m8, ⟨h8, hf8⟩, hr⟩ := hr.fvN t179_198 rfl rfl (ct_goOn hG hE h7)
                      obtain ⟨rfl, hs⟩ := hr.ret t179_201
                      exact ⟨_, _, hs, rfl, rfl, 1, _, gE_p3 hn5, h8, (((hf1.trans hf6).trans hf7).trans hf8)⟩
                    · exact absurd b177 (by decide)
                  · exact absurd b168 (by decide)
          · exact absurd b116 (by decide)
        · replace hr := hr.go (s_k t179_109)
          replace hr := hr.go (s_goto t179_110)
          replace hr := hr.go (s_istore_n (ls' := [(1, _), (0, _)]) t179_114 rfl)
          replace hr := hr.go (s_iload_n t179_115 rfl)
          rcases hr.zEq t179_116 with ⟨b116, hr⟩ | ⟨b116, hr⟩
          · exact absurd b116 (by decide)
          · have hk2 := (tr_num hT).mp b106
            have hnv := nv_9 (tr_nv hT hk2)
            replace hr := hr.go (s_aload_n t179_119 rfl)
            replace hr := hr.go (s_getf t179_120)
            replace hr := hr.go (s_k t179_123)
            rcases hr.bLe t179_126 with ⟨b126, hr⟩ | ⟨b126, hr⟩
            · replace hr := hr.go (s_iload_n t179_137 rfl)
              rcases hr.zNe t179_138 with ⟨b138, hr⟩ | ⟨b138, hr⟩
              · have hp : sX B (priF B s) m := by rw [priF_a hk2 (fun q => by have := hnv.mp q; omega)]; exact h
                replace hr := hr.go (s_aload_n t179_162 rfl)
                obtain ⟨m6, ⟨h6, hf6⟩, hr⟩ := hr.fvN t179_163 rfl rfl (ct_knot hp)
                replace hr := hr.go (s_aload_n t179_166 rfl)
                replace hr := hr.go (s_iload_n t179_167 rfl)
                rcases hr.zEq t179_168 with ⟨b168, hr⟩ | ⟨b168, hr⟩
                · exact absurd b168 (by decide)
                · replace hr := hr.go (s_k t179_171)
                  replace hr := hr.go (s_goto t179_172)
                  replace hr := hr.go (s_iload_n t179_176 rfl)
                  rcases hr.zEq t179_177 with ⟨b177, hr⟩ | ⟨b177, hr⟩
                  · exact absurd b177 (by decide)
                  · replace hr := hr.go (s_aload_n t179_180 rfl)
                    replace hr := hr.go (s_getf t179_181)
                    replace hr := hr.go (s_goto t179_184)
                    obtain ⟨m7, ⟨h7, hf7⟩, hr⟩ := hr.fvN t179_194 rfl rfl (ct_puts hN h6)
                    replace hr := hr.go (s_aload_n t179_197 rfl)
                    obtain ⟨m8, ⟨h8, hf8⟩, hr⟩ := hr.fvN t179_198 rfl rfl (ct_goOn hG hE h7)
                    obtain ⟨rfl, hs⟩ := hr.ret t179_201
                    exact ⟨_, _, hs, rfl, rfl, 1, _, gE_p3 hn5, h8, (((hf6).trans hf7).trans hf8)⟩
              · exact absurd b138 (by decide)
            · replace hr := hr.go (s_aload_n t179_129 rfl)
              replace hr := hr.go (s_k t179_130)
              obtain ⟨m1, ⟨h1, hf1⟩, hr⟩ := hr.fvN t179_131 rfl rfl (ct_wrong (f := 2) h (by decide) (by decide))
              replace hr := hr.go (s_goto t179_134)
              have hp : sX B (priF B s) m1 := by rw [priF_b hk2 (hnv.mpr (by omega))]; exact h1
              replace hr := hr.go (s_aload_n t179_162 rfl)
              obtain ⟨m6, ⟨h6, hf6⟩, hr⟩ := hr.fvN t179_163 rfl rfl (ct_knot hp)
              replace hr := hr.go (s_aload_n t179_166 rfl)
              replace hr := hr.go (s_iload_n t179_167 rfl)
              rcases hr.zEq t179_168 with ⟨b168, hr⟩ | ⟨b168, hr⟩
              · exact absurd b168 (by decide)
              · replace hr := hr.go (s_k t179_171)
                replace hr := hr.go (s_goto t179_172)
                replace hr := hr.go (s_iload_n t179_176 rfl)
                rcases hr.zEq t179_177 with ⟨b177, hr⟩ | ⟨b177, hr⟩
                · exact absurd b177 (by decide)
                · replace hr := hr.go (s_aload_n t179_180 rfl)
                  replace hr := hr.go (s_getf t179_181)
                  replace hr := hr.go (s_goto t179_184)
                  obtain ⟨m7, ⟨h7, hf7⟩, hr⟩ := hr.fvN t179_194 rfl rfl (ct_puts hN h6)
                  replace hr := hr.go (s_aload_n t179_197 rfl)
                  obtain ⟨m8, ⟨h8, hf8⟩, hr⟩ := hr.fvN t179_198 rfl rfl (ct_goOn hG hE h7)
                  obtain ⟨rfl, hs⟩ := hr.ret t179_201
                  exact ⟨_, _, hs, rfl, rfl, 1, _, gE_p3 hn5, h8, (((hf1.trans hf6).trans hf7).trans hf8)⟩
      · have h5 : tK B s.1 = 5 := of_decide_eq_true (bI_1 b14)
        have h5' := h5
        replace hr := hr.go (s_aload_n t179_17 rfl)
        replace hr := hr.go (s_getf t179_18)
        replace hr := hr.go (s_k t179_21)
        rw [h.2.2.2.2.1] at hr
        rcases hr.bNe t179_23 with ⟨b23, hr⟩ | ⟨b23, hr⟩
        · have h8 : ¬ s.2.2 = 8 := fun q => b23 (by rw [q]; rfl)
          replace hr := hr.go (s_aload_n t179_31 rfl)
          replace hr := hr.go (s_getf t179_32)
          rcases hr.zEq t179_35 with ⟨b35, hr⟩ | ⟨b35, hr⟩
          · replace hr := hr.go (s_aload_n t179_39 rfl)
            replace hr := hr.go (s_dup t179_40 rfl)
            replace hr := hr.go (s_getf t179_41)
            replace hr := hr.go (s_k t179_44)
            replace hr := hr.go (s_iadd t179_45)
            replace hr := hr.go (s_putf t179_46)
            replace hr := hr.go (s_aload_n t179_49 rfl)
            obtain ⟨m2, ⟨h2, hf2⟩, hr⟩ := hr.fvN t179_50 rfl rfl (ct_tokX hG hE (sX_open h h8))
            replace hr := hr.go (s_aload_n t179_53 rfl)
            obtain ⟨m3, f3, o3, e3, h3, hf3, hr⟩ := hr.cPX (lv := 0) t179_54 (ih0 _ _ _ _ hG hN h2)
            cases o3 with
            | inl e =>
              skip
              replace hr := hr.go (s_aload_n t179_57 rfl)
              replace hr := hr.go (s_getf t179_58)
              rcases hr.zNe t179_61 with ⟨b61, hr⟩ | ⟨b61, hr⟩
              · skip
                replace hr := hr.go (s_aload_n t179_78 rfl)
                replace hr := hr.go (s_getf t179_79)
                rcases hr.zEq t179_82 with ⟨b82, hr⟩ | ⟨b82, hr⟩
                · exact absurd b82 h3.2.1
                · obtain ⟨rfl, hs⟩ := hr.ret t179_85
                  exact ⟨_, _, hs, rfl, rfl, f3 + 1, _, gE_p2 h5 h8 e3, h3, (rf_32.trans hf2).trans hf3⟩
              · exact absurd b61 h3.2.1
            | inr t =>
              skip
              replace hr := hr.go (s_aload_n t179_57 rfl)
              replace hr := hr.go (s_getf t179_58)
              rcases hr.zNe t179_61 with ⟨b61, hr⟩ | ⟨b61, hr⟩
              · exact absurd h3.1 b61
              · replace hr := hr.go (s_aload_n t179_64 rfl)
                replace hr := hr.go (s_k t179_65)
                replace hr := hr.cvI t179_67 rfl rfl (ct_isSign (kc := 6) h3 (fun _ _ _ _ q => tr_s41 q))
                rcases hr.zNe t179_70 with ⟨b70, hr⟩ | ⟨b70, hr⟩
                · skip
                  replace hr := hr.go (s_aload_n t179_78 rfl)
                  replace hr := hr.go (s_getf t179_79)
                  rcases hr.zEq t179_82 with ⟨b82, hr⟩ | ⟨b82, hr⟩
                  · have hop : ¬ t.2.2 = 0 := by
                      obtain ⟨u, u1, u2⟩ := gE_op _ _ _ _ e3
                      cases u1
                      dsimp only at u2
                      omega
                    replace hr := hr.go (s_aload_n t179_86 rfl)
                    replace hr := hr.go (s_dup t179_87 rfl)
                    replace hr := hr.go (s_getf t179_88)
                    replace hr := hr.go (s_k t179_91)
                    replace hr := hr.go (s_isub t179_92)
                    replace hr := hr.go (s_putf t179_93)
                    replace hr := hr.go (s_aload_n t179_96 rfl)
                    obtain ⟨m5, ⟨h5, hf5⟩, hr⟩ := hr.fvN t179_97 rfl rfl (ct_tokX hG hE (sX_close h3 hop))
                    obtain ⟨rfl, hs⟩ := hr.ret t179_100
                    exact ⟨_, _, hs, rfl, rfl, f3 + 1, _, gE_p2 h5' h8 e3, by
                      show sX B (if tK B t.1 = 6 then .inr (t.1 + 1, t.2.1, t.2.2 - 1) else .inl (1, t.1)) _
                      rw [if_pos (of_decide_eq_true (bI_1 b70))]
                      exact h5, (((rf_32.trans hf2).trans hf3).trans rf_32).trans hf5⟩
                  · exact absurd h3.1 b82
                · replace hr := hr.go (s_aload_n t179_73 rfl)
                  replace hr := hr.go (s_k t179_74)
                  obtain ⟨m4, ⟨h4, hf4⟩, hr⟩ := hr.fvN t179_75 rfl rfl (ct_wrong (f := 1) h3 (by decide) (by decide))
                  skip
                  replace hr := hr.go (s_aload_n t179_78 rfl)
                  replace hr := hr.go (s_getf t179_79)
                  rcases hr.zEq t179_82 with ⟨b82, hr⟩ | ⟨b82, hr⟩
                  · exact absurd b82 h4.2.1
                  · obtain ⟨rfl, hs⟩ := hr.ret t179_85
                    exact ⟨_, _, hs, rfl, rfl, f3 + 1, _, gE_p2 h5 h8 e3, by
                      show sX B (if tK B t.1 = 6 then .inr (t.1 + 1, t.2.1, t.2.2 - 1) else .inl (1, t.1)) _
                      rw [if_neg (of_decide_eq_false (bI_0 b70))]
                      exact h4, ((rf_32.trans hf2).trans hf3).trans hf4⟩
          · exact absurd h.1 b35
        · have h8 : s.2.2 = 8 := (xn_eq (b := 8) (by have := h.2.2.2.2.2.1; omega) (by decide)).mp b23
          replace hr := hr.go (s_aload_n t179_26 rfl)
          replace hr := hr.go (s_k t179_27)
          obtain ⟨m1, ⟨h1, hf1⟩, hr⟩ := hr.fvN t179_28 rfl rfl (ct_wrong (f := 2) h (by decide) (by decide))
          skip
          replace hr := hr.go (s_aload_n t179_31 rfl)
          replace hr := hr.go (s_getf t179_32)
          rcases hr.zEq t179_35 with ⟨b35, hr⟩ | ⟨b35, hr⟩
          · exact absurd b35 h1.2.1
          · obtain ⟨rfl, hs⟩ := hr.ret t179_38
            exact ⟨_, _, hs, rfl, rfl, 1, .inl (2, s.1), gE_p1 h5 h8, h1, hf1⟩
    · exact absurd h.1 b4
theorem ex_all {nf : Bool} {xs : List Int32} {B : eB} (hE : EV B) : ∀ d : Nat, EX nf xs d B 0 ∧ EX nf xs d B 1 ∧ EX nf xs d B 2 ∧ EX nf xs d B 3 ∧ EX nf xs d B 4 ∧ EX nf xs d B 5 := by
  intro d
  induction d with
  | zero =>
    have h0 : ∀ lv : Nat, EX nf xs 0 B lv := fun lv o m g G _ _ _ h r h' _ q => q.elim
    exact ⟨h0 0, h0 1, h0 2, h0 3, h0 4, h0 5⟩
  | succ d ih =>
    obtain ⟨i0, i1, i2, i3, i4, i5⟩ := ih
    exact ⟨st174 hE i1, st175 hE i2, st176 hE i2 i3, st177 hE i4, st178 hE i5, st179 hE i0⟩
