/-! The reference's parser of expressions. -/
def isL (B : eB) (lv : Nat) (o : eO) : Bool := if lv = 0 then isK B o 44 else if lv = 1 then isK B o 45 else if lv = 3 then (isK B o 10 || isK B o 11) else if lv = 4 then (isK B o 12 || isK B o 13) else false
def isC (B : eB) (o : eO) : Bool := match o with
  | .inl _ => false
  | .inr s => decide (14 ≤ (tK B s.1).toInt ∧ (tK B s.1).toInt ≤ 19)
def priF (B : eB) (s : Nat × Nat × Nat) : eO := if tK B s.1 = 2 then (if 9999 < (tV B s.1).toInt then .inl (2, s.1) else .inr s) else if qty (tK B s.1) = true then .inr s else .inl (1, s.1)
def cloF (B : eB) (o : eO) : eO := match o with
  | .inl e => .inl e
  | .inr s => if tK B s.1 = 6 then .inr (s.1 + 1, s.2.1, s.2.2 - 1) else .inl (1, s.1)
/-- levels: 0 or, 1 and, 2 not and comparisons, 3 sums, 4 products, 5 what begins; 6 + level: the loop behind its first side; none: not at its end yet -/
def gE (B : eB) : Nat → Nat → eO → Option eO
  | 0, _, _ => none
  | f + 1, lv, o =>
    if lv = 5 then (match o with
      | .inl e => some (.inl e)
      | .inr s => if tK B s.1 = 5 then (if s.2.2 = 8 then some (.inl (2, s.1)) else (gE B f 0 (.inr (s.1 + 1, s.2.1, s.2.2 + 1))).bind (fun o1 => some (cloF B o1))) else some (goF (knF (priF B s))))
    else if lv = 2 then (if isK B o 46 = true then gE B f 2 (goF (knF o)) else (gE B f 3 o).bind (fun o1 => if isC B o1 = true then gE B f 3 (goF (knF o1)) else some o1))
    else if 6 ≤ lv then (if isL B (lv - 6) o = true then (gE B f (lv - 5) (goF (knF o))).bind (fun o1 => gE B f lv o1) else some o)
    else (gE B f (lv + 1) o).bind (fun o1 => gE B f (lv + 6) o1)
theorem gE_s {B : eB} {f lv : Nat} {o : eO} : gE B (f + 1) lv o = (if lv = 5 then (match o with
      | .inl e => some (.inl e)
      | .inr s => if tK B s.1 = 5 then (if s.2.2 = 8 then some (.inl (2, s.1)) else (gE B f 0 (.inr (s.1 + 1, s.2.1, s.2.2 + 1))).bind (fun o1 => some (cloF B o1))) else some (goF (knF (priF B s))))
    else if lv = 2 then (if isK B o 46 = true then gE B f 2 (goF (knF o)) else (gE B f 3 o).bind (fun o1 => if isC B o1 = true then gE B f 3 (goF (knF o1)) else some o1))
    else if 6 ≤ lv then (if isL B (lv - 6) o = true then (gE B f (lv - 5) (goF (knF o))).bind (fun o1 => gE B f lv o1) else some o)
    else (gE B f (lv + 1) o).bind (fun o1 => gE B f (lv + 6) o1)) := rfl
theorem obind {a : Option eO} {k : eO → Option eO} {c : eO} (h : a.bind k = some c) : ∃ b : eO, a = some b ∧ k b = some c := by
  cases a with
  | none => cases h
  | some b => exact ⟨b, rfl, h⟩
theorem obind' {a : Option eO} {k : eO → Option eO} {b c : eO} (h1 : a = some b) (h2 : k b = some c) : a.bind k = some c := by
  rw [h1]
  exact h2
theorem gE_up {B : eB} : ∀ (f f' lv : Nat) (o o' : eO), gE B f lv o = some o' → f ≤ f' → gE B f' lv o = some o' := by
  intro f
  induction f with
  | zero => intro f' lv o o' h; cases h
  | succ f ih =>
    intro f' lv o o' h hle
    obtain ⟨f', rfl⟩ : ∃ k : Nat, f' = k + 1 := ⟨f' - 1, by omega⟩
    have hf : f ≤ f' := by omega
    rw [gE_s] at h ⊢
    by_cases c5 : lv = 5
    · rw [if_pos c5] at h ⊢
      cases o with
      | inl e => exact h
      | inr s =>
        dsimp only at h ⊢
        by_cases d1 : tK B s.1 = 5
        · rw [if_pos d1] at h ⊢
          by_cases d2 : s.2.2 = 8
          · rw [if_pos d2] at h ⊢; exact h
          · rw [if_neg d2] at h ⊢
            obtain ⟨b, h1, h2⟩ := obind h
            exact obind' (ih f' _ _ _ h1 hf) h2
        · rw [if_neg d1] at h ⊢; exact h
    · rw [if_neg c5] at h ⊢
      by_cases c2 : lv = 2
      · rw [if_pos c2] at h ⊢
        by_cases d1 : isK B o 46 = true
        · rw [if_pos d1] at h ⊢; exact ih f' _ _ _ h hf
        · rw [if_neg d1] at h ⊢
          obtain ⟨b, h1, h2⟩ := obind h
          refine obind' (ih f' _ _ _ h1 hf) ?_
          by_cases d2 : isC B b = true
          · rw [if_pos d2] at h2 ⊢; exact ih f' _ _ _ h2 hf
          · rw [if_neg d2] at h2 ⊢; exact h2
      · rw [if_neg c2] at h ⊢
        by_cases c6 : 6 ≤ lv
        · rw [if_pos c6] at h ⊢
          by_cases d1 : isL B (lv - 6) o = true
          · rw [if_pos d1] at h ⊢
            obtain ⟨b, h1, h2⟩ := obind h
            exact obind' (ih f' _ _ _ h1 hf) (ih f' _ _ _ h2 hf)
          · rw [if_neg d1] at h ⊢; exact h
        · rw [if_neg c6] at h ⊢
          obtain ⟨b, h1, h2⟩ := obind h
          exact obind' (ih f' _ _ _ h1 hf) (ih f' _ _ _ h2 hf)
/-- the loop behind a level's first side -/
theorem gE_l0 {B : eB} {lv : Nat} {o : eO} (h : isL B lv o = false) : gE B 1 (lv + 6) o = some o := by
  rw [gE_s, if_neg (by omega), if_neg (by omega), if_pos (by omega), show lv + 6 - 6 = lv by omega, h]
  rfl
theorem gE_l1 {B : eB} {f1 f2 lv : Nat} {o o1 o2 : eO} (h : isL B lv o = true) (h1 : gE B f1 (lv + 1) (goF (knF o)) = some o1) (h2 : gE B f2 (lv + 6) o1 = some o2) : gE B (f1 + f2 + 1) (lv + 6) o = some o2 := by
  rw [gE_s, if_neg (by omega), if_neg (by omega), if_pos (by omega), show lv + 6 - 6 = lv by omega, if_pos h, show lv + 6 - 5 = lv + 1 by omega]
  exact obind' (gE_up _ _ _ _ _ h1 (by omega)) (gE_up _ _ _ _ _ h2 (by omega))
theorem gE_b {B : eB} {f1 f2 lv : Nat} {o o1 o2 : eO} (hl : lv = 0 ∨ lv = 1 ∨ lv = 3 ∨ lv = 4) (h1 : gE B f1 (lv + 1) o = some o1) (h2 : gE B f2 (lv + 6) o1 = some o2) : gE B (f1 + f2 + 1) lv o = some o2 := by
  rw [gE_s, if_neg (by omega), if_neg (by omega), if_neg (by omega)]
  exact obind' (gE_up _ _ _ _ _ h1 (by omega)) (gE_up _ _ _ _ _ h2 (by omega))
/-- what a method of the parser does -/
def PX (B : eB) (lv : Nat) (o : eO) (m : xM) (g : xL) : Option Value → xM → xL → Prop := fun r m' g' => r = none ∧ g' = g ∧ ∃ (f : Nat) (o' : eO), gE B f lv o = some o' ∧ sX B o' m' ∧ rf m m'
def EX (nf : Bool) (xs : List Int32) (d : Nat) (B : eB) (lv : Nat) : Prop := ∀ (o : eO) (m : xM) (g : xL) (G : xG), GM G → GK G → sX B o m → CT nf xs d (174 + lv) [.ref 128] m g G (PX B lv o m g)
theorem RR.cPX {nf : Bool} {xs : List Int32} {d c : Nat} {ini : Bool} {nL : Nat} {rt : Option FieldType} {tab : Nat → Option (Instr × Nat)} {G : xG} {r : Option Value} {h' : zH} {pc pc' N j : Nat} {ls : zL} {rest : List Value} {m : xM} {g : xL} {B : eB} {lv : Nat} {o : eO} (hr : RR nf xs d c ini nL rt tab G r h' N (pc, ls, .ref 128 :: rest, m, g)) (t : xtc tab c pc pc' (.invokevirtual j) j 1 (174 + lv) 0) (hc : CT nf xs d (174 + lv) [.ref 128] m g G (PX B lv o m g)) : ∃ (m1 : xM) (f : Nat) (o' : eO), gE B f lv o = some o' ∧ sX B o' m1 ∧ rf m m1 ∧ RR nf xs d c ini nL rt tab G r h' N (pc', ls, rest, m1, g) := by
  obtain ⟨r1, m1, g1, hp, hq⟩ := hr.callv t rfl rfl hc
  obtain ⟨p1, p2, f, o', p3, p4, p5⟩ := hp
  subst p1
  subst p2
  exact ⟨m1, f, o', p3, p4, p5, hq⟩
theorem lp174 {nf : Bool} {xs : List Int32} {d : Nat} {G : xG} {r : Option Value} {h' : zH} {B : eB} (hG : GM G) (hN : GK G) (hE : EV B) (ih : EX nf xs d B 1) : ∀ (N : Nat) (o : eO) (m : xM) (g : xL), sX B o m → RR nf xs d 11 false 1 none zt174 G r h' N (4, [(0, .ref 128)], [], m, g) → ∃ (m' : xM) (g' : xL), HS h' m' g' G ∧ PX B 6 o m g r m' g' := by
  intro N
  induction N with
  | zero => intro o m g _ hr; exact hr.no.elim
  | succ N ihN =>
    intro o m g h hr
    replace hr := hr.go1 (s_aload_n t174_4 rfl)
    replace hr := hr.go (s_k t174_5)
    replace hr := hr.cvI t174_7 rfl rfl (ct_isWord (w := 12) h (by decide))
    rcases hr.zEq t174_10 with ⟨b10, hr⟩ | ⟨b10, hr⟩
    · obtain ⟨rfl, hs⟩ := hr.ret t174_36
      have hl : isL B 0 o = false := bI_0 b10
      exact ⟨_, _, hs, rfl, rfl, 1, o, gE_l0 hl, h, rf.rfl'⟩
    · replace hr := hr.go (s_aload_n t174_13 rfl)
      obtain ⟨m1, ⟨h1, hf1⟩, hr⟩ := hr.fvN t174_14 rfl rfl (ct_knot h)
      replace hr := hr.go (s_aload_n t174_17 rfl)
      obtain ⟨m2, ⟨h2, hf2⟩, hr⟩ := hr.fvN t174_18 rfl rfl (ct_goOn hG hE h1)
      replace hr := hr.go (s_aload_n t174_21 rfl)
      obtain ⟨m3, f3, o3, e3, h3, hf3, hr⟩ := hr.cPX (lv := 1) t174_22 (ih _ _ _ _ hG hN h2)
      replace hr := hr.go (s_aload_n t174_25 rfl)
      replace hr := hr.go (s_k t174_26)
      replace hr := hr.go (s_k t174_27)
      obtain ⟨m4, ⟨h4, hf4⟩, hr⟩ := hr.fvN t174_30 rfl rfl (ct_puts hN h3)
      replace hr := hr.go (s_goto t174_33)
      have hl : isL B 0 o = true := bI_1 b10
      obtain ⟨m', g', w1, w2, w3, f, o', w4, w5, w6⟩ := ihN o3 m4 _ h4 hr
      exact ⟨m', g', w1, w2, w3, f3 + f + 1, o', gE_l1 hl e3 w4, w5, (((hf1.trans hf2).trans hf3).trans hf4).trans w6⟩
theorem st174 {nf : Bool} {xs : List Int32} {d : Nat} {B : eB} (hE : EV B) (ih : EX nf xs d B 1) : EX nf xs (d + 1) B 0 := by
  intro o m g G hG hN h
  refine CT.of (c := 11) (ini := false) (nL := 1) (rt := none) (tab := zt174) rfl (fun d' r h' N hd hr => ?_)
  obtain rfl : d' = d := by omega
  replace hr : RR nf xs d' 11 false 1 none zt174 G r h' N (0, [(0, .ref 128)], [], m, g) := hr
  replace hr := hr.go (s_aload_n t174_0 rfl)
  obtain ⟨m3, f3, o3, e3, h3, hf3, hr⟩ := hr.cPX (lv := 1) t174_1 (ih _ _ _ _ hG hN h)
  obtain ⟨m', g', w1, w2, w3, f, o', w4, w5, w6⟩ := lp174 hG hN hE ih N o3 m3 _ h3 hr
  exact ⟨m', g', w1, w2, w3, f3 + f + 1, o', gE_b (by omega) e3 w4, w5, hf3.trans w6⟩
theorem lp175 {nf : Bool} {xs : List Int32} {d : Nat} {G : xG} {r : Option Value} {h' : zH} {B : eB} (hG : GM G) (hN : GK G) (hE : EV B) (ih : EX nf xs d B 2) : ∀ (N : Nat) (o : eO) (m : xM) (g : xL), sX B o m → RR nf xs d 11 false 1 none zt175 G r h' N (4, [(0, .ref 128)], [], m, g) → ∃ (m' : xM) (g' : xL), HS h' m' g' G ∧ PX B 7 o m g r m' g' := by
  intro N
  induction N with
  | zero => intro o m g _ hr; exact hr.no.elim
  | succ N ihN =>
    intro o m g h hr
    replace hr := hr.go1 (s_aload_n t175_4 rfl)
    replace hr := hr.go (s_k t175_5)
    replace hr := hr.cvI t175_7 rfl rfl (ct_isWord (w := 13) h (by decide))
    rcases hr.zEq t175_10 with ⟨b10, hr⟩ | ⟨b10, hr⟩
    · obtain ⟨rfl, hs⟩ := hr.ret t175_36
      have hl : isL B 1 o = false := bI_0 b10
      exact ⟨_, _, hs, rfl, rfl, 1, o, gE_l0 hl, h, rf.rfl'⟩
    · replace hr := hr.go (s_aload_n t175_13 rfl)
      obtain ⟨m1, ⟨h1, hf1⟩, hr⟩ := hr.fvN t175_14 rfl rfl (ct_knot h)
      replace hr := hr.go (s_aload_n t175_17 rfl)
      obtain ⟨m2, ⟨h2, hf2⟩, hr⟩ := hr.fvN t175_18 rfl rfl (ct_goOn hG hE h1)
      replace hr := hr.go (s_aload_n t175_21 rfl)
      obtain ⟨m3, f3, o3, e3, h3, hf3, hr⟩ := hr.cPX (lv := 2) t175_22 (ih _ _ _ _ hG hN h2)
      replace hr := hr.go (s_aload_n t175_25 rfl)
      replace hr := hr.go (s_k t175_26)
      replace hr := hr.go (s_k t175_27)
      obtain ⟨m4, ⟨h4, hf4⟩, hr⟩ := hr.fvN t175_30 rfl rfl (ct_puts hN h3)
      replace hr := hr.go (s_goto t175_33)
      have hl : isL B 1 o = true := bI_1 b10
      obtain ⟨m', g', w1, w2, w3, f, o', w4, w5, w6⟩ := ihN o3 m4 _ h4 hr
      exact ⟨m', g', w1, w2, w3, f3 + f + 1, o', gE_l1 hl e3 w4, w5, (((hf1.trans hf2).trans hf3).trans hf4).trans w6⟩
theorem st175 {nf : Bool} {xs : List Int32} {d : Nat} {B : eB} (hE : EV B) (ih : EX nf xs d B 2) : EX nf xs (d + 1) B 1 := by
  intro o m g G hG hN h
  refine CT.of (c := 11) (ini := false) (nL := 1) (rt := none) (tab := zt175) rfl (fun d' r h' N hd hr => ?_)
  obtain rfl : d' = d := by omega
  replace hr : RR nf xs d' 11 false 1 none zt175 G r h' N (0, [(0, .ref 128)], [], m, g) := hr
  replace hr := hr.go (s_aload_n t175_0 rfl)
  obtain ⟨m3, f3, o3, e3, h3, hf3, hr⟩ := hr.cPX (lv := 2) t175_1 (ih _ _ _ _ hG hN h)
  obtain ⟨m', g', w1, w2, w3, f, o', w4, w5, w6⟩ := lp175 hG hN hE ih N o3 m3 _ h3 hr
  exact ⟨m', g', w1, w2, w3, f3 + f + 1, o', gE_b (by omega) e3 w4, w5, hf3.trans w6⟩
theorem lp177b {nf : Bool} {xs : List Int32} {d : Nat} {G : xG} {r : Option Value} {h' : zH} {B : eB} (hG : GM G) (hN : GK G) (hE : EV B) (ih : EX nf xs d B 4) : ∀ (N : Nat) (o : eO) (m : xM) (g : xL) (y : Int32), sX B o m → RR nf xs d 11 false 2 none zt177 G r h' N (4, [(1, .int y), (0, .ref 128)], [], m, g) → ∃ (m' : xM) (g' : xL), HS h' m' g' G ∧ PX B 9 o m g r m' g' := by
  intro N
  induction N with
  | zero => intro o m g y _ hr; exact hr.no.elim
  | succ N ihN =>
    intro o m g y h hr
    replace hr := hr.go1 (s_aload_n t177_4 rfl)
    replace hr := hr.go (s_k t177_5)
    replace hr := hr.cvI t177_7 rfl rfl (ct_isSign (kc := 10) h (fun _ _ _ _ q => tr_s43 q))
    rcases hr.zNe t177_10 with ⟨b10, hr⟩ | ⟨b10, hr⟩
    · skip
      replace hr := hr.go (s_aload_n t177_22 rfl)
      replace hr := hr.go (s_getf t177_23)
      replace hr := hr.go (s_istore_n (ls' := [(1, _), (0, _)]) t177_26 rfl)
      replace hr := hr.go (s_aload_n t177_27 rfl)
      obtain ⟨m1, ⟨h1, hf1⟩, hr⟩ := hr.fvN t177_28 rfl rfl (ct_knot h)
      replace hr := hr.go (s_aload_n t177_31 rfl)
      obtain ⟨m2, ⟨h2, hf2⟩, hr⟩ := hr.fvN t177_32 rfl rfl (ct_goOn hG hE h1)
      replace hr := hr.go (s_aload_n t177_35 rfl)
      obtain ⟨m3, f3, o3, e3, h3, hf3, hr⟩ := hr.cPX (lv := 4) t177_36 (ih _ _ _ _ hG hN h2)
      replace hr := hr.go (s_aload_n t177_39 rfl)
      replace hr := hr.go (s_k t177_40)
      replace hr := hr.go (s_iload_n t177_41 rfl)
      obtain ⟨m4, ⟨h4, hf4⟩, hr⟩ := hr.fvN t177_42 rfl rfl (ct_puts hN h3)
      replace hr := hr.go (s_goto t177_45)
      have hl : isL B 3 o = true := by show (isK B o 10 || isK B o 11) = true; rw [bI_1 b10]; rfl
      obtain ⟨m', g', w1, w2, w3, f, o', w4, w5, w6⟩ := ihN o3 m4 _ _ h4 hr
      exact ⟨m', g', w1, w2, w3, f3 + f + 1, o', gE_l1 hl e3 w4, w5, (((hf1.trans hf2).trans hf3).trans hf4).trans w6⟩
    · replace hr := hr.go (s_aload_n t177_13 rfl)
      replace hr := hr.go (s_k t177_14)
      replace hr := hr.cvI t177_16 rfl rfl (ct_isSign (kc := 11) h (fun _ _ _ _ q => tr_s45 q))
      rcases hr.zEq t177_19 with ⟨b19, hr⟩ | ⟨b19, hr⟩
      · obtain ⟨rfl, hs⟩ := hr.ret t177_48
        have hl : isL B 3 o = false := by show (isK B o 10 || isK B o 11) = false; rw [bI_0 b10, bI_0 b19]; rfl
        exact ⟨_, _, hs, rfl, rfl, 1, o, gE_l0 hl, h, rf.rfl'⟩
      · skip
        replace hr := hr.go (s_aload_n t177_22 rfl)
        replace hr := hr.go (s_getf t177_23)
        replace hr := hr.go (s_istore_n (ls' := [(1, _), (0, _)]) t177_26 rfl)
        replace hr := hr.go (s_aload_n t177_27 rfl)
        obtain ⟨m1, ⟨h1, hf1⟩, hr⟩ := hr.fvN t177_28 rfl rfl (ct_knot h)
        replace hr := hr.go (s_aload_n t177_31 rfl)
        obtain ⟨m2, ⟨h2, hf2⟩, hr⟩ := hr.fvN t177_32 rfl rfl (ct_goOn hG hE h1)
        replace hr := hr.go (s_aload_n t177_35 rfl)
        obtain ⟨m3, f3, o3, e3, h3, hf3, hr⟩ := hr.cPX (lv := 4) t177_36 (ih _ _ _ _ hG hN h2)
        replace hr := hr.go (s_aload_n t177_39 rfl)
        replace hr := hr.go (s_k t177_40)
        replace hr := hr.go (s_iload_n t177_41 rfl)
        obtain ⟨m4, ⟨h4, hf4⟩, hr⟩ := hr.fvN t177_42 rfl rfl (ct_puts hN h3)
        replace hr := hr.go (s_goto t177_45)
        have hl : isL B 3 o = true := by show (isK B o 10 || isK B o 11) = true; rw [bI_1 b19, Bool.or_true]
        obtain ⟨m', g', w1, w2, w3, f, o', w4, w5, w6⟩ := ihN o3 m4 _ _ h4 hr
        exact ⟨m', g', w1, w2, w3, f3 + f + 1, o', gE_l1 hl e3 w4, w5, (((hf1.trans hf2).trans hf3).trans hf4).trans w6⟩
theorem lp177a {nf : Bool} {xs : List Int32} {d : Nat} {G : xG} {r : Option Value} {h' : zH} {B : eB} (hG : GM G) (hN : GK G) (hE : EV B) (ih : EX nf xs d B 4) {N : Nat} {o : eO} {m : xM} {g : xL} (h : sX B o m) (hr : RR nf xs d 11 false 2 none zt177 G r h' N (4, [(0, .ref 128)], [], m, g)) : ∃ (m' : xM) (g' : xL), HS h' m' g' G ∧ PX B 9 o m g r m' g' := by
  replace hr := hr.go (s_aload_n t177_4 rfl)
  replace hr := hr.go (s_k t177_5)
  replace hr := hr.cvI t177_7 rfl rfl (ct_isSign (kc := 10) h (fun _ _ _ _ q => tr_s43 q))
  rcases hr.zNe t177_10 with ⟨b10, hr⟩ | ⟨b10, hr⟩
  · skip
    replace hr := hr.go (s_aload_n t177_22 rfl)
    replace hr := hr.go (s_getf t177_23)
    replace hr := hr.go (s_istore_n (ls' := [(1, _), (0, _)]) t177_26 rfl)
    replace hr := hr.go (s_aload_n t177_27 rfl)
    obtain ⟨m1, ⟨h1, hf1⟩, hr⟩ := hr.fvN t177_28 rfl rfl (ct_knot h)
    replace hr := hr.go (s_aload_n t177_31 rfl)
    obtain ⟨m2, ⟨h2, hf2⟩, hr⟩ := hr.fvN t177_32 rfl rfl (ct_goOn hG hE h1)
    replace hr := hr.go (s_aload_n t177_35 rfl)
    obtain ⟨m3, f3, o3, e3, h3, hf3, hr⟩ := hr.cPX (lv := 4) t177_36 (ih _ _ _ _ hG hN h2)
    replace hr := hr.go (s_aload_n t177_39 rfl)
    replace hr := hr.go (s_k t177_40)
    replace hr := hr.go (s_iload_n t177_41 rfl)
    obtain ⟨m4, ⟨h4, hf4⟩, hr⟩ := hr.fvN t177_42 rfl rfl (ct_puts hN h3)
    replace hr := hr.go (s_goto t177_45)
    have hl : isL B 3 o = true := by show (isK B o 10 || isK B o 11) = true; rw [bI_1 b10]; rfl
    obtain ⟨m', g', w1, w2, w3, f, o', w4, w5, w6⟩ := lp177b hG hN hE ih N o3 m4 _ _ h4 hr
    exact ⟨m', g', w1, w2, w3, f3 + f + 1, o', gE_l1 hl e3 w4, w5, (((hf1.trans hf2).trans hf3).trans hf4).trans w6⟩
  · replace hr := hr.go (s_aload_n t177_13 rfl)
    replace hr := hr.go (s_k t177_14)
    replace hr := hr.cvI t177_16 rfl rfl (ct_isSign (kc := 11) h (fun _ _ _ _ q => tr_s45 q))
    rcases hr.zEq t177_19 with ⟨b19, hr⟩ | ⟨b19, hr⟩
    · obtain ⟨rfl, hs⟩ := hr.ret t177_48
      have hl : isL B 3 o = false := by show (isK B o 10 || isK B o 11) = false; rw [bI_0 b10, bI_0 b19]; rfl
      exact ⟨_, _, hs, rfl, rfl, 1, o, gE_l0 hl, h, rf.rfl'⟩
    · skip
      replace hr := hr.go (s_aload_n t177_22 rfl)
      replace hr := hr.go (s_getf t177_23)
      replace hr := hr.go (s_istore_n (ls' := [(1, _), (0, _)]) t177_26 rfl)
      replace hr := hr.go (s_aload_n t177_27 rfl)
      obtain ⟨m1, ⟨h1, hf1⟩, hr⟩ := hr.fvN t177_28 rfl rfl (ct_knot h)
      replace hr := hr.go (s_aload_n t177_31 rfl)
      obtain ⟨m2, ⟨h2, hf2⟩, hr⟩ := hr.fvN t177_32 rfl rfl (ct_goOn hG hE h1)
      replace hr := hr.go (s_aload_n t177_35 rfl)
      obtain ⟨m3, f3, o3, e3, h3, hf3, hr⟩ := hr.cPX (lv := 4) t177_36 (ih _ _ _ _ hG hN h2)
      replace hr := hr.go (s_aload_n t177_39 rfl)
      replace hr := hr.go (s_k t177_40)
      replace hr := hr.go (s_iload_n t177_41 rfl)
      obtain ⟨m4, ⟨h4, hf4⟩, hr⟩ := hr.fvN t177_42 rfl rfl (ct_puts hN h3)
      replace hr := hr.go (s_goto t177_45)
      have hl : isL B 3 o = true := by show (isK B o 10 || isK B o 11) = true; rw [bI_1 b19, Bool.or_true]
      obtain ⟨m', g', w1, w2, w3, f, o', w4, w5, w6⟩ := lp177b hG hN hE ih N o3 m4 _ _ h4 hr
      exact ⟨m', g', w1, w2, w3, f3 + f + 1, o', gE_l1 hl e3 w4, w5, (((hf1.trans hf2).trans hf3).trans hf4).trans w6⟩
theorem st177 {nf : Bool} {xs : List Int32} {d : Nat} {B : eB} (hE : EV B) (ih : EX nf xs d B 4) : EX nf xs (d + 1) B 3 := by
  intro o m g G hG hN h
  refine CT.of (c := 11) (ini := false) (nL := 2) (rt := none) (tab := zt177) rfl (fun d' r h' N hd hr => ?_)
  obtain rfl : d' = d := by omega
  replace hr : RR nf xs d' 11 false 2 none zt177 G r h' N (0, [(0, .ref 128)], [], m, g) := hr
  replace hr := hr.go (s_aload_n t177_0 rfl)
  obtain ⟨m3, f3, o3, e3, h3, hf3, hr⟩ := hr.cPX (lv := 4) t177_1 (ih _ _ _ _ hG hN h)
  obtain ⟨m', g', w1, w2, w3, f, o', w4, w5, w6⟩ := lp177a hG hN hE ih h3 hr
  exact ⟨m', g', w1, w2, w3, f3 + f + 1, o', gE_b (by omega) e3 w4, w5, hf3.trans w6⟩
theorem lp178b {nf : Bool} {xs : List Int32} {d : Nat} {G : xG} {r : Option Value} {h' : zH} {B : eB} (hG : GM G) (hN : GK G) (hE : EV B) (ih : EX nf xs d B 5) : ∀ (N : Nat) (o : eO) (m : xM) (g : xL) (y : Int32), sX B o m → RR nf xs d 11 false 2 none zt178 G r h' N (4, [(1, .int y), (0, .ref 128)], [], m, g) → ∃ (m' : xM) (g' : xL), HS h' m' g' G ∧ PX B 10 o m g r m' g' := by
  intro N
  induction N with
  | zero => intro o m g y _ hr; exact hr.no.elim
  | succ N ihN =>
    intro o m g y h hr
    replace hr := hr.go1 (s_aload_n t178_4 rfl)
    replace hr := hr.go (s_k t178_5)
    replace hr := hr.cvI t178_7 rfl rfl (ct_isSign (kc := 12) h (fun _ _ _ _ q => tr_s42 q))
    rcases hr.zNe t178_10 with ⟨b10, hr⟩ | ⟨b10, hr⟩
    · skip
      replace hr := hr.go (s_aload_n t178_22 rfl)
      replace hr := hr.go (s_getf t178_23)
      replace hr := hr.go (s_istore_n (ls' := [(1, _), (0, _)]) t178_26 rfl)
      replace hr := hr.go (s_aload_n t178_27 rfl)
      obtain ⟨m1, ⟨h1, hf1⟩, hr⟩ := hr.fvN t178_28 rfl rfl (ct_knot h)
      replace hr := hr.go (s_aload_n t178_31 rfl)
      obtain ⟨m2, ⟨h2, hf2⟩, hr⟩ := hr.fvN t178_32 rfl rfl (ct_goOn hG hE h1)
      replace hr := hr.go (s_aload_n t178_35 rfl)
      obtain ⟨m3, f3, o3, e3, h3, hf3, hr⟩ := hr.cPX (lv := 5) t178_36 (ih _ _ _ _ hG hN h2)
      replace hr := hr.go (s_aload_n t178_39 rfl)
      replace hr := hr.go (s_k t178_40)
      replace hr := hr.go (s_iload_n t178_41 rfl)
      obtain ⟨m4, ⟨h4, hf4⟩, hr⟩ := hr.fvN t178_42 rfl rfl (ct_puts hN h3)
      replace hr := hr.go (s_goto t178_45)
      have hl : isL B 4 o = true := by show (isK B o 12 || isK B o 13) = true; rw [bI_1 b10]; rfl
      obtain ⟨m', g', w1, w2, w3, f, o', w4, w5, w6⟩ := ihN o3 m4 _ _ h4 hr
      exact ⟨m', g', w1, w2, w3, f3 + f + 1, o', gE_l1 hl e3 w4, w5, (((hf1.trans hf2).trans hf3).trans hf4).trans w6⟩
    · replace hr := hr.go (s_aload_n t178_13 rfl)
      replace hr := hr.go (s_k t178_14)
      replace hr := hr.cvI t178_16 rfl rfl (ct_isSign (kc := 13) h (fun _ _ _ _ q => tr_s47 q))
      rcases hr.zEq t178_19 with ⟨b19, hr⟩ | ⟨b19, hr⟩
      · obtain ⟨rfl, hs⟩ := hr.ret t178_48
        have hl : isL B 4 o = false := by show (isK B o 12 || isK B o 13) = false; rw [bI_0 b10, bI_0 b19]; rfl
        exact ⟨_, _, hs, rfl, rfl, 1, o, gE_l0 hl, h, rf.rfl'⟩
      · skip
        replace hr := hr.go (s_aload_n t178_22 rfl)
        replace hr := hr.go (s_getf t178_23)
        replace hr := hr.go (s_istore_n (ls' := [(1, _), (0, _)]) t178_26 rfl)
        replace hr := hr.go (s_aload_n t178_27 rfl)
        obtain ⟨m1, ⟨h1, hf1⟩, hr⟩ := hr.fvN t178_28 rfl rfl (ct_knot h)
        replace hr := hr.go (s_aload_n t178_31 rfl)
        obtain ⟨m2, ⟨h2, hf2⟩, hr⟩ := hr.fvN t178_32 rfl rfl (ct_goOn hG hE h1)
        replace hr := hr.go (s_aload_n t178_35 rfl)
        obtain ⟨m3, f3, o3, e3, h3, hf3, hr⟩ := hr.cPX (lv := 5) t178_36 (ih _ _ _ _ hG hN h2)
        replace hr := hr.go (s_aload_n t178_39 rfl)
        replace hr := hr.go (s_k t178_40)
        replace hr := hr.go (s_iload_n t178_41 rfl)
        obtain ⟨m4, ⟨h4, hf4⟩, hr⟩ := hr.fvN t178_42 rfl rfl (ct_puts hN h3)
        replace hr := hr.go (s_goto t178_45)
        have hl : isL B 4 o = true := by show (isK B o 12 || isK B o 13) = true; rw [bI_1 b19, Bool.or_true]
        obtain ⟨m', g', w1, w2, w3, f, o', w4, w5, w6⟩ := ihN o3 m4 _ _ h4 hr
        exact ⟨m', g', w1, w2, w3, f3 + f + 1, o', gE_l1 hl e3 w4, w5, (((hf1.trans hf2).trans hf3).trans hf4).trans w6⟩
theorem lp178a {nf : Bool} {xs : List Int32} {d : Nat} {G : xG} {r : Option Value} {h' : zH} {B : eB} (hG : GM G) (hN : GK G) (hE : EV B) (ih : EX nf xs d B 5) {N : Nat} {o : eO} {m : xM} {g : xL} (h : sX B o m) (hr : RR nf xs d 11 false 2 none zt178 G r h' N (4, [(0, .ref 128)], [], m, g)) : ∃ (m' : xM) (g' : xL), HS h' m' g' G ∧ PX B 10 o m g r m' g' := by
  replace hr := hr.go (s_aload_n t178_4 rfl)
  replace hr := hr.go (s_k t178_5)
  replace hr := hr.cvI t178_7 rfl rfl (ct_isSign (kc := 12) h (fun _ _ _ _ q => tr_s42 q))
  rcases hr.zNe t178_10 with ⟨b10, hr⟩ | ⟨b10, hr⟩
  · skip
    replace hr := hr.go (s_aload_n t178_22 rfl)
    replace hr := hr.go (s_getf t178_23)
    replace hr := hr.go (s_istore_n (ls' := [(1, _), (0, _)]) t178_26 rfl)
    replace hr := hr.go (s_aload_n t178_27 rfl)
    obtain ⟨m1, ⟨h1, hf1⟩, hr⟩ := hr.fvN t178_28 rfl rfl (ct_knot h)
    replace hr := hr.go (s_aload_n t178_31 rfl)
    obtain ⟨m2, ⟨h2, hf2⟩, hr⟩ := hr.fvN t178_32 rfl rfl (ct_goOn hG hE h1)
    replace hr := hr.go (s_aload_n t178_35 rfl)
    obtain ⟨m3, f3, o3, e3, h3, hf3, hr⟩ := hr.cPX (lv := 5) t178_36 (ih _ _ _ _ hG hN h2)
    replace hr := hr.go (s_aload_n t178_39 rfl)
    replace hr := hr.go (s_k t178_40)
    replace hr := hr.go (s_iload_n t178_41 rfl)
    obtain ⟨m4, ⟨h4, hf4⟩, hr⟩ := hr.fvN t178_42 rfl rfl (ct_puts hN h3)
    replace hr := hr.go (s_goto t178_45)
    have hl : isL B 4 o = true := by show (isK B o 12 || isK B o 13) = true; rw [bI_1 b10]; rfl
    obtain ⟨m', g', w1, w2, w3, f, o', w4, w5, w6⟩ := lp178b hG hN hE ih N o3 m4 _ _ h4 hr
    exact ⟨m', g', w1, w2, w3, f3 + f + 1, o', gE_l1 hl e3 w4, w5, (((hf1.trans hf2).trans hf3).trans hf4).trans w6⟩
  · replace hr := hr.go (s_aload_n t178_13 rfl)
    replace hr := hr.go (s_k t178_14)
    replace hr := hr.cvI t178_16 rfl rfl (ct_isSign (kc := 13) h (fun _ _ _ _ q => tr_s47 q))
    rcases hr.zEq t178_19 with ⟨b19, hr⟩ | ⟨b19, hr⟩
    · obtain ⟨rfl, hs⟩ := hr.ret t178_48
      have hl : isL B 4 o = false := by show (isK B o 12 || isK B o 13) = false; rw [bI_0 b10, bI_0 b19]; rfl
      exact ⟨_, _, hs, rfl, rfl, 1, o, gE_l0 hl, h, rf.rfl'⟩
    · skip
      replace hr := hr.go (s_aload_n t178_22 rfl)
      replace hr := hr.go (s_getf t178_23)
      replace hr := hr.go (s_istore_n (ls' := [(1, _), (0, _)]) t178_26 rfl)
      replace hr := hr.go (s_aload_n t178_27 rfl)
      obtain ⟨m1, ⟨h1, hf1⟩, hr⟩ := hr.fvN t178_28 rfl rfl (ct_knot h)
      replace hr := hr.go (s_aload_n t178_31 rfl)
      obtain ⟨m2, ⟨h2, hf2⟩, hr⟩ := hr.fvN t178_32 rfl rfl (ct_goOn hG hE h1)
      replace hr := hr.go (s_aload_n t178_35 rfl)
      obtain ⟨m3, f3, o3, e3, h3, hf3, hr⟩ := hr.cPX (lv := 5) t178_36 (ih _ _ _ _ hG hN h2)
      replace hr := hr.go (s_aload_n t178_39 rfl)
      replace hr := hr.go (s_k t178_40)
      replace hr := hr.go (s_iload_n t178_41 rfl)
      obtain ⟨m4, ⟨h4, hf4⟩, hr⟩ := hr.fvN t178_42 rfl rfl (ct_puts hN h3)
      replace hr := hr.go (s_goto t178_45)
      have hl : isL B 4 o = true := by show (isK B o 12 || isK B o 13) = true; rw [bI_1 b19, Bool.or_true]
      obtain ⟨m', g', w1, w2, w3, f, o', w4, w5, w6⟩ := lp178b hG hN hE ih N o3 m4 _ _ h4 hr
      exact ⟨m', g', w1, w2, w3, f3 + f + 1, o', gE_l1 hl e3 w4, w5, (((hf1.trans hf2).trans hf3).trans hf4).trans w6⟩
theorem st178 {nf : Bool} {xs : List Int32} {d : Nat} {B : eB} (hE : EV B) (ih : EX nf xs d B 5) : EX nf xs (d + 1) B 4 := by
  intro o m g G hG hN h
  refine CT.of (c := 11) (ini := false) (nL := 2) (rt := none) (tab := zt178) rfl (fun d' r h' N hd hr => ?_)
  obtain rfl : d' = d := by omega
  replace hr : RR nf xs d' 11 false 2 none zt178 G r h' N (0, [(0, .ref 128)], [], m, g) := hr
  replace hr := hr.go (s_aload_n t178_0 rfl)
  obtain ⟨m3, f3, o3, e3, h3, hf3, hr⟩ := hr.cPX (lv := 5) t178_1 (ih _ _ _ _ hG hN h)
  obtain ⟨m', g', w1, w2, w3, f, o', w4, w5, w6⟩ := lp178a hG hN hE ih h3 hr
  exact ⟨m', g', w1, w2, w3, f3 + f + 1, o', gE_b (by omega) e3 w4, w5, hf3.trans w6⟩
