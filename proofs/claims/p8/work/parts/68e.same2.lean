/-! Both parsers of an expression do the same: level by level. -/
def SA (B : eB) (f : Nat) : Prop := ∀ (lv i kn op : Nat) (o : eO) (W0 : List Int32), lv ≤ 5 → gE B f lv (.inr (i, kn, op)) = some o → kn ≤ 64 → op ≤ 8 → str (W0.headD 0) ≤ gpm lv → (3 ≤ lv → tK B i = 46 → 4 ≤ str (W0.headD 0)) → LV B lv op (i, kn, op, true, W0) W0 o
def SB (B : eB) (f : Nat) : Prop := ∀ (lv i kn op : Nat) (o : eO) (p W0 : List Int32), (lv = 0 ∨ lv = 1 ∨ lv = 3 ∨ lv = 4) → gE B f (lv + 6) (.inr (i, kn, op)) = some o → kn ≤ 64 → op ≤ 8 → str (W0.headD 0) ≤ gpm lv → (∀ k ∈ p, gms lv ≤ str k) → nx B (lv + 1) i p → LV B lv op (i, kn, op, false, p ++ W0) W0 o
theorem LV_go {B : eB} {lv op : Nat} {c c' : eC} {W0 : List Int32} {o : eO} (h : cgo B c c') (hl : LV B lv op c' W0 o) : LV B lv op c W0 o := by
  cases o with
  | inl e => exact h.fin hl
  | inr t =>
    obtain ⟨h1, h2, p, h3, h4, h5⟩ := hl
    exact ⟨h1, h2, p, h.trans h3, h4, h5⟩
theorem app1 {p W0 : List Int32} {k : Int32} : p ++ k :: W0 = (p ++ [k]) ++ W0 := by
  rw [List.append_assoc]
  rfl
theorem mem1 {p : List Int32} {k : Int32} {a b : Nat} (h : ∀ x ∈ p, b ≤ str x) (hab : a ≤ b) (hk : a ≤ str k) : ∀ x ∈ p ++ [k], a ≤ str x := fun x hx => by
  rcases List.mem_append.mp hx with q | q
  · exact Nat.le_trans hab (h x q)
  · rw [List.mem_singleton.mp q]; exact hk
theorem st_loop {B : eB} {f : Nat} (hA : SA B f) (hB : SB B f) : SB B (f + 1) := by
  intro lv i kn op o p W0 hl h hk ho h0 hp hn
  obtain ⟨u1, u2, u3, u4, u5, u6, u7, u8⟩ := gms_up hl
  have u9 : 3 ≤ lv + 1 → 4 ≤ gms lv := by rcases hl with rfl | rfl | rfl | rfl <;> decide
  rw [gE_s, if_neg (by omega), if_neg (by omega), if_pos (by omega), show lv + 6 - 6 = lv by omega, show lv + 6 - 5 = lv + 1 by omega] at h
  by_cases hL : isL B lv (.inr (i, kn, op)) = true
  · rw [if_pos hL] at h
    obtain ⟨o1, h1, h2⟩ := obind h
    have hS : str (tK B i) = gms lv := (isL_str hl).mp hL
    obtain ⟨b1, b2⟩ := beh_sign (i := i) (kn := kn) (op := op) (p := p) (W0 := W0) hS u5 u6 (by rw [if_neg u7]; exact hp) (by omega)
    rcases kgo (s := (i, kn, op)) hk h1 with ⟨q1, q2⟩ | ⟨q1, q2⟩
    · subst q2
      rw [gE_inl _ _ _ _ h2]
      exact cend_h b1 (by rw [b2, if_pos q1])
    · rw [if_neg (by have q1 : kn < 64 := q1; omega)] at b2
      have hgo := cgo_h b1 b2
      have A := hA (lv + 1) (i + 1) (kn + 1) op o1 (tK B i :: W0) (by omega) q2 (by have q1 : kn < 64 := q1; omega) ho (by show str (tK B i) ≤ _; omega) (fun h3 _ => by show 4 ≤ str (tK B i); have := u9 h3; omega)
      cases o1 with
      | inl e =>
        rw [gE_inl _ _ _ _ h2]
        exact hgo.fin A
      | inr t =>
        obtain ⟨a1, a2, p1, a3, a4, a5⟩ := A
        have Bq := hB lv t.1 t.2.1 t.2.2 o (p1 ++ [tK B i]) W0 hl h2 a1 (by omega) h0 (mem1 a4 u1 (by omega)) (nx_app a5)
        rw [a2] at Bq a3
        rw [app1] at a3
        exact LV_go (hgo.trans a3) Bq
  · rw [if_neg hL] at h
    cases h
    exact ⟨hk, rfl, p, cgo.rf, hp, nx_down hl hn (fun q => hL ((isL_str hl).mpr q))⟩
theorem st_bin {B : eB} {f : Nat} (hA : SA B f) (hB : SB B f) {lv i kn op : Nat} {o : eO} {W0 : List Int32} (hl : lv = 0 ∨ lv = 1 ∨ lv = 3 ∨ lv = 4) (h : gE B (f + 1) lv (.inr (i, kn, op)) = some o) (hk : kn ≤ 64) (ho : op ≤ 8) (h0 : str (W0.headD 0) ≤ gpm lv) (h46 : 3 ≤ lv → tK B i = 46 → 4 ≤ str (W0.headD 0)) : LV B lv op (i, kn, op, true, W0) W0 o := by
  obtain ⟨u1, u2, u3, u4, u5, u6, u7, u8⟩ := gms_up hl
  rw [gE_s, if_neg (by omega), if_neg (by omega), if_neg (by omega)] at h
  obtain ⟨o1, h1, h2⟩ := obind h
  have A := hA (lv + 1) i kn op o1 W0 (by omega) h1 hk ho (by omega) (fun h3 q => h46 (by omega) q)
  cases o1 with
  | inl e =>
    rw [gE_inl _ _ _ _ h2]
    exact A
  | inr t =>
    obtain ⟨a1, a2, p1, a3, a4, a5⟩ := A
    have Bq := hB lv t.1 t.2.1 t.2.2 o p1 W0 hl h2 a1 (by omega) h0 (fun k hk => Nat.le_trans u1 (a4 k hk)) a5
    rw [a2] at Bq a3
    exact LV_go a3 Bq
/-- behind a comparison's right side, or a sum alone -/
theorem nx3 {B : eB} {j : Nat} {p : List Int32} (h : nx B 3 j p) : str (tK B j) = 0 ∨ tK B j = 46 ∨ str (tK B j) < 3 ∨ str (tK B j) = 4 := by
  rcases h with h | h | h | ⟨h, -⟩
  · exact Or.inl h
  · exact Or.inr (Or.inl h)
  · have h : str (tK B j) < 5 := h
    rcases (show str (tK B j) < 3 ∨ str (tK B j) = 3 ∨ str (tK B j) = 4 by omega) with q | q | q
    · exact Or.inr (Or.inr (Or.inl q))
    · exact Or.inr (Or.inl (str3.mp q))
    · exact Or.inr (Or.inr (Or.inr q))
  · exact Or.inr (Or.inr (Or.inr h))
theorem st_neg {B : eB} {f : Nat} (hA : SA B f) {i kn op : Nat} {o : eO} {W0 : List Int32} (h : gE B (f + 1) 2 (.inr (i, kn, op)) = some o) (hk : kn ≤ 64) (ho : op ≤ 8) (h0 : str (W0.headD 0) ≤ 3) : LV B 2 op (i, kn, op, true, W0) W0 o := by
  rw [gE_s, if_neg (by decide), if_pos rfl] at h
  by_cases hN : isK B (.inr (i, kn, op)) 46 = true
  · rw [if_pos hN] at h
    have k46 : tK B i = 46 := of_decide_eq_true hN
    have hb : begF B i kn op W0 = if 64 ≤ kn then .inl (2, i) else .inr (kn + 1, op, true, 46 :: W0) := by
      unfold begF
      rw [if_neg (by rw [k46]; decide), if_pos k46, if_neg (by omega)]
    rcases kgo (s := (i, kn, op)) hk h with ⟨q1, q2⟩ | ⟨q1, q2⟩
    · subst q2
      exact cend_b (by rw [hb, if_pos q1])
    · have q1 : kn < 64 := q1
      rw [if_neg (by omega)] at hb
      have A := hA 2 (i + 1) (kn + 1) op o (46 :: W0) (by decide) q2 (by omega) ho (by show str 46 ≤ 3; decide) (fun h3 => absurd h3 (by decide))
      cases o with
      | inl e => exact (cgo_b hb).fin A
      | inr t =>
        obtain ⟨a1, a2, p1, a3, a4, a5⟩ := A
        rw [app1] at a3
        exact ⟨a1, a2, p1 ++ [46], (cgo_b hb).trans a3, mem1 a4 (Nat.le_refl _) (by decide), nx_app a5⟩
  · rw [if_neg hN] at h
    have k46 : ¬ tK B i = 46 := fun q => hN (decide_eq_true q)
    obtain ⟨o1, h1, h2⟩ := obind h
    have A := hA 3 i kn op o1 W0 (by decide) h1 hk ho (show _ ≤ 4 by omega) (fun _ q => absurd q k46)
    cases o1 with
    | inl e =>
      rw [if_neg (show ¬ isC B (.inl e) = true by exact fun q => by cases q)] at h2
      cases h2
      exact A
    | inr t =>
      obtain ⟨a1, a2, p1, a3, a4, a5⟩ := A
      by_cases hC : isC B (.inr t) = true
      · rw [if_pos hC] at h2
        have hS : str (tK B t.1) = 4 := str4.mpr (of_decide_eq_true hC)
        obtain ⟨b1, b2⟩ := beh_sign (i := t.1) (kn := t.2.1) (op := t.2.2) (p := p1) (W0 := W0) hS (by decide) (by decide) (by rw [if_pos rfl]; exact a4) (by omega)
        rcases kgo (s := t) a1 h2 with ⟨q1, q2⟩ | ⟨q1, q2⟩
        · subst q2
          exact a3.fin (cend_h b1 (by rw [b2, if_pos q1]))
        · rw [if_neg (by omega)] at b2
          have A2 := hA 3 (t.1 + 1) (t.2.1 + 1) t.2.2 o (tK B t.1 :: W0) (by decide) q2 (by omega) (by omega) (by show str (tK B t.1) ≤ 4; omega) (fun _ _ => by show 4 ≤ str (tK B t.1); omega)
          cases o with
          | inl e => exact (a3.trans (cgo_h b1 b2)).fin A2
          | inr u =>
            obtain ⟨c1, c2, p2, c3, c4, c5⟩ := A2
            rw [app1] at c3
            refine ⟨c1, c2.trans a2, p2 ++ [tK B t.1], (a3.trans (cgo_h b1 b2)).trans c3, mem1 c4 (by decide) (by show 3 ≤ _; omega), ?_⟩
            rcases nx3 c5 with q | q | q | q
            · exact Or.inl q
            · exact Or.inr (Or.inl q)
            · exact Or.inr (Or.inr (Or.inl q))
            · exact Or.inr (Or.inr (Or.inr ⟨q, p2, [tK B t.1], rfl, c4, hS⟩))
      · rw [if_neg hC] at h2
        cases h2
        have h4 : ¬ str (tK B t.1) = 4 := fun q => hC (decide_eq_true (str4.mp q))
        refine ⟨a1, a2, p1, a3, fun k hk => Nat.le_trans (by decide) (a4 k hk), ?_⟩
        rcases nx3 a5 with q | q | q | q
        · exact Or.inl q
        · exact Or.inr (Or.inl q)
        · exact Or.inr (Or.inr (Or.inl q))
        · exact absurd q h4
theorem nx5 {B : eB} {j : Nat} {p : List Int32} : nx B 5 j p := Or.inr (Or.inr (Or.inl (by
  have := str_le (tK B j)
  show _ < 7
  omega)))
theorem st_pri {B : eB} {f : Nat} (hA : SA B f) {i kn op : Nat} {o : eO} {W0 : List Int32} (h : gE B (f + 1) 5 (.inr (i, kn, op)) = some o) (hk : kn ≤ 64) (ho : op ≤ 8) (h46 : tK B i = 46 → 4 ≤ str (W0.headD 0)) : LV B 5 op (i, kn, op, true, W0) W0 o := by
  rw [gE_s, if_pos rfl] at h
  dsimp only at h
  by_cases k5 : tK B i = 5
  · rw [if_pos k5] at h
    have hb : begF B i kn op W0 = if 8 ≤ op then .inl (2, i) else .inr (kn, op + 1, true, 5 :: W0) := by
      unfold begF
      rw [if_pos k5]
    by_cases h8 : op = 8
    · rw [if_pos h8] at h
      cases h
      exact cend_b (by rw [hb, if_pos (by omega)])
    · rw [if_neg h8] at h
      rw [if_neg (by omega)] at hb
      obtain ⟨o1, h1, h2⟩ := obind h
      have h2 : some (cloF B o1) = some o := h2
      injection h2 with h2
      subst h2
      have A := hA 0 (i + 1) kn (op + 1) o1 (5 :: W0) (by decide) h1 hk (by omega) (by show str 5 ≤ 0; decide) (fun h3 => absurd h3 (by decide))
      cases o1 with
      | inl e => exact (cgo_b hb).fin A
      | inr t =>
        obtain ⟨a1, a2, p1, a3, a4, a5⟩ := A
        show LV B 5 op (i, kn, op, true, W0) W0 (if tK B t.1 = 6 then .inr (t.1 + 1, t.2.1, t.2.2 - 1) else .inl (1, t.1))
        have hn : ¬ (tK B t.1 = 4 ∧ t.2.2 = 0) := fun q => by omega
        by_cases k6 : tK B t.1 = 6
        · rw [if_pos k6]
          have hr : relW 1 (p1 ++ 5 :: W0) = 5 :: W0 := relW_app (by show str 5 < 1; decide) p1 a4
          have hbh : behF B t.1 t.2.1 t.2.2 (p1 ++ 5 :: W0) = .inr (t.2.1, t.2.2 - 1, false, W0) := by
            unfold behF
            rw [if_pos k6, if_neg (by omega), hr]
            rfl
          refine ⟨a1, by dsimp only; omega, [], ((cgo_b hb).trans a3).trans (cgo_h hn hbh), (fun k hk => by cases hk), nx5⟩
        · rw [if_neg k6]
          exact ((cgo_b hb).trans a3).fin (cend_h hn (nx_bad a5 k6))
  · rw [if_neg k5] at h
    injection h with h
    subst h
    by_cases k46 : tK B i = 46
    · have hp : priF B (i, kn, op) = .inl (1, i) := priF_d (s := (i, kn, op)) (by show ¬ tK B i = 2; rw [k46]; decide) (by show qty (tK B i) = false; rw [k46]; decide)
      rw [hp]
      refine cend_b ?_
      unfold begF
      rw [if_neg k5, if_pos k46, if_pos (by have := h46 k46; omega)]
    · have hbx : begF B i kn op W0 = if ¬ tK B i = 2 ∧ qty (tK B i) = false then .inl (1, i) else if tK B i = 2 ∧ 9999 < (tV B i).toInt then .inl (2, i) else if 64 ≤ kn then .inl (2, i) else .inr (kn + 1, op, false, W0) := by
        unfold begF
        rw [if_neg k5, if_neg k46]
      have good : priF B (i, kn, op) = .inr (i, kn, op) → begF B i kn op W0 = (if 64 ≤ kn then .inl (2, i) else .inr (kn + 1, op, false, W0)) → LV B 5 op (i, kn, op, true, W0) W0 (goF (knF (priF B (i, kn, op)))) := fun hp hb => by
        rw [hp]
        show LV B 5 op (i, kn, op, true, W0) W0 (goF (if kn = 64 then .inl (2, i) else .inr (i, kn + 1, op)))
        by_cases h4 : kn = 64
        · rw [if_pos h4]
          exact cend_b (by rw [hb, if_pos (by omega)])
        · rw [if_neg h4]
          rw [if_neg (by omega)] at hb
          exact ⟨by show kn + 1 ≤ 64; omega, rfl, [], cgo_b hb, (fun k hk => by cases hk), nx5⟩
      by_cases k2 : tK B i = 2
      · rw [if_neg (fun q => q.1 k2)] at hbx
        by_cases k9 : 9999 < (tV B i).toInt
        · have hp : priF B (i, kn, op) = .inl (2, i) := priF_b (s := (i, kn, op)) k2 k9
          rw [hp]
          exact cend_b (by rw [hbx, if_pos ⟨k2, k9⟩])
        · rw [if_neg (fun q => k9 q.2)] at hbx
          exact good (priF_a (s := (i, kn, op)) k2 k9) hbx
      · cases hq : qty (tK B i) with
        | true =>
          rw [if_neg (fun q => by rw [hq] at q; exact absurd q.2 (by decide)), if_neg (fun q => k2 q.1)] at hbx
          exact good (priF_c (s := (i, kn, op)) k2 hq) hbx
        | false =>
          have hp : priF B (i, kn, op) = .inl (1, i) := priF_d (s := (i, kn, op)) k2 hq
          rw [hp]
          exact cend_b (by rw [hbx, if_pos ⟨k2, hq⟩])
theorem sameAB {B : eB} : ∀ f : Nat, SA B f ∧ SB B f := by
  intro f
  induction f with
  | zero => exact ⟨(fun lv i kn op o W0 _ h => by cases h), (fun lv i kn op o p W0 _ h => by cases h)⟩
  | succ f ih =>
    obtain ⟨hA, hB⟩ := ih
    refine ⟨fun lv i kn op o W0 hl h hk ho h0 h46 => ?_, st_loop hA hB⟩
    by_cases c2 : lv = 2
    · subst c2
      exact st_neg hA h hk ho h0
    · by_cases c5 : lv = 5
      · subst c5
        exact st_pri hA h hk ho (h46 (by decide))
      · exact st_bin hA hB (by omega) h hk ho h0 h46
/-- an expression up to its ';' -/
theorem ex_same {B : eB} {f i kn : Nat} {o : eO} (h : gE B f 0 (.inr (i, kn, 0)) = some o) (hk : kn ≤ 64) : match o with
  | .inl e => exC B i kn = .inl e
  | .inr t => t.2.1 ≤ 64 ∧ t.2.2 = 0 ∧ exC B i kn = (if tK B t.1 = 4 then .inr (t.2.1, t.1) else .inl (1, t.1)) := by
  have A := (sameAB f).1 0 i kn 0 o [] (by decide) h hk (by decide) (by decide) (fun h3 => absurd h3 (by decide))
  cases o with
  | inl e =>
    obtain ⟨m, hm⟩ := A
    exact exC_eq hm
  | inr t =>
    obtain ⟨a1, a2, p, ⟨m, hm⟩, a4, a5⟩ := A
    refine ⟨a1, a2, ?_⟩
    have hm1 := hm 1
    by_cases k4 : tK B t.1 = 4
    · rw [if_pos k4]
      refine exC_eq (f := m + 1) (hm1.trans ?_)
      exact gxs_e ⟨k4, a2⟩
    · rw [if_neg k4]
      refine exC_eq (f := m + 1) (hm1.trans ?_)
      refine gxs_h1 (fun q => k4 q.1) ?_
      show behF B t.1 t.2.1 t.2.2 (p ++ []) = _
      by_cases k6 : tK B t.1 = 6
      · unfold behF
        rw [if_pos k6, if_pos a2]
      · exact nx_bad a5 k6
