/-! The class Reader: a whole text. -/
def tpV (v : Int32) (rows : List (List Int32)) : Int32 := match rows with
  | [] => v
  | r :: _ => r.getD 0 0
theorem tp_at {t c cols most : Nat} {v : Int32} {rows : List (List Int32)} {m : xM} (h : tbC t c cols most rows m) (hc : 0 < cols) (hl : 0 < rows.length) : m c (0 * cols + 0) = tpV v rows := by
  rw [h.2.2.2.2 0 hl 0 hc]
  cases rows with
  | nil => exact absurd hl (by simp)
  | cons r rs => rfl
theorem tp_0 {v : Int32} {rows : List (List Int32)} (hl : rows.length = 0) : v = tpV v rows := by
  cases rows with
  | nil => rfl
  | cons r rs => cases hl
theorem ct_advP {nf : Bool} {xs : List Int32} {d : Nat} {m : xM} {g : xL} {G : xG} {B : eB} {i : Nat} (hG : GS G) (hE : EV B) (h1 : m 1 = B.1) (h4 : m 4 = B.2.1) (h2 : m 3 2 = Int32.ofNat B.2.2) (h3 : m 3 3 = Int32.ofNat (tps B i)) : CT nf xs d 77 [.ref 3] m g G (PF none g (fun m' => sC B i m' ∧ ∀ a : Nat, ¬ a = 3 → m' a = m a)) := by
  refine (ct_adv (b := B.1) (wd := B.2.1) (n := B.2.2) (p := tps B i) hG hE.1 hE.2.2.1 h1 h3 h2 h4 (tps_le hE _)).mono (fun r m' g' h => ?_)
  obtain ⟨rfl, rfl, rfl⟩ := h
  have hr : ∀ a : Nat, ¬ a = 3 → tkM m (tokC B.1 B.2.1 B.2.2 (tps B i)) a = m a := fun a ha => by
    unfold tkM
    rw [xu_row ha, xu_row ha, xu_row ha, xu_row ha]
  refine ⟨rfl, rfl, ⟨?_, ?_, ?_, ?_, ?_, ?_, ?_⟩, hr⟩
  · rw [hr 1 (by decide)]; exact h1
  · rw [hr 4 (by decide)]; exact h4
  · unfold tkM
    rw [xu_oth (by decide), xu_oth (by decide), xu_oth (by decide), xu_oth (by decide)]
    exact h2
  · unfold tkM
    rw [xu_same]
    rfl
  · unfold tkM
    rw [xu_oth (by decide), xu_same]
    rfl
  · unfold tkM
    rw [xu_oth (by decide), xu_oth (by decide), xu_same]
    rfl
  · unfold tkM
    rw [xu_oth (by decide), xu_oth (by decide), xu_oth (by decide), xu_same]
    rfl
theorem ct_settle {nf : Bool} {xs : List Int32} {d : Nat} {m : xM} {g : xL} {G : xG} {B : eB} {P : Nat} {s : eS} (hG : GP G P) (hA : AC B P s m) : CT nf xs d 23 [.ref P] m g G (PF none g (fun m' => (∀ a : Nat, ¬ a = P → m' a = m a) ∧ m' P 9 = m P 9 ∧ m' P 10 = tpV 30 (s.1 0) ∧ m' P 11 = tpV 1 (s.1 6))) := by
  refine CT.of (c := 3) (ini := false) (nL := 1) (rt := none) (tab := zt23) rfl (fun d' r h' N hd hr => ?_)
  replace hr : RR nf xs d' 3 false 1 (none) zt23 G r h' N (0, [(0, .ref P)], [], m, g) := hr
  have k1 : (1 : Int32).toInt = 1 := rfl
  have k30 : (30 : Int32).toInt = 30 := rfl
  have h7 := hG.2.2.2.2.1
  replace hr := hr.go (s_aload_n t23_0 rfl)
  replace hr := hr.go (s_aload_n t23_1 rfl)
  replace hr := hr.go (s_getr t23_2 ((hG.2.2.2.2.2.1 0 (by decide)).1))
  replace hr := hr.go (s_getf t23_5)
  rw [(hA.2.1 0 (by decide)).2.2.1] at hr
  have q0 : (Int32.ofNat (s.1 0).length).toInt = ((s.1 0).length : Int) := xn_int (by have := (hA.2.1 0 (by decide)).2.2.2.1; have := mN_b 0; omega)
  rcases hr.zLe t23_8 with ⟨b8, hr⟩ | ⟨b8, hr⟩
  · have e0 : (30 : Int32) = tpV 30 (s.1 0) := tp_0 (by omega)
    
    replace hr := hr.go (s_k t23_23)
    rw [e0] at hr
    replace hr := hr.go (s_putf t23_25)
    replace hr := hr.go (s_aload_n t23_28 rfl)
    replace hr := hr.go (s_aload_n t23_29 rfl)
    replace hr := hr.go (s_getr t23_30 ((hG.2.2.2.2.2.1 6 (by decide)).1))
    replace hr := hr.go (s_getf t23_33)
    rw [xu_row (by omega), (hA.2.1 6 (by decide)).2.2.1] at hr
    have q6 : (Int32.ofNat (s.1 6).length).toInt = ((s.1 6).length : Int) := xn_int (by have := (hA.2.1 6 (by decide)).2.2.2.1; have := mN_b 6; omega)
    rcases hr.zLe t23_36 with ⟨b36, hr⟩ | ⟨b36, hr⟩
    · have e6 : (1 : Int32) = tpV 1 (s.1 6) := tp_0 (by omega)
      replace hr := hr.go (s_k t23_51)
      rw [e6] at hr
      replace hr := hr.go (s_putf t23_52)
      obtain ⟨rfl, hs⟩ := hr.ret t23_55
      exact ⟨_, _, hs, rfl, rfl, fun a ha => by rw [xu_row ha, xu_row ha], by rw [xu_oth (by omega), xu_oth (by omega)], by rw [xu_oth (by omega), xu_same], xu_same⟩
    · have e6 : m (P + 2 + 2 * 6) (0 * cN 6 + 0) = tpV 1 (s.1 6) := tp_at (hA.2.1 6 (by decide)) (by decide) (by omega)
      replace hr := hr.go (s_aload_n t23_39 rfl)
      replace hr := hr.go (s_getr t23_40 ((hG.2.2.2.2.2.1 6 (by decide)).1))
      replace hr := hr.go (s_k t23_43)
      replace hr := hr.go (s_k t23_44)
      replace hr := hr.cvI t23_45 rfl rfl (ct_at (ro := 0) (k := 0) (hG.2.2.2.2.2.1 6 (by decide)).2.1 (hG.2.2.2.2.2.1 6 (by decide)).2.2.choose_spec (by rw [xu_row (by omega)]; exact (hA.2.1 6 (by decide)).1) (by rw [xu_row (by omega)]; exact (hA.2.1 6 (by decide)).2.1) (by decide) (by decide) (by decide) (by decide))
      replace hr := hr.go (s_goto t23_48)
      rw [xu_row (by omega), e6] at hr
      replace hr := hr.go (s_putf t23_52)
      obtain ⟨rfl, hs⟩ := hr.ret t23_55
      exact ⟨_, _, hs, rfl, rfl, fun a ha => by rw [xu_row ha, xu_row ha], by rw [xu_oth (by omega), xu_oth (by omega)], by rw [xu_oth (by omega), xu_same], xu_same⟩
  · have e0 : m (P + 2 + 2 * 0) (0 * cN 0 + 0) = tpV 30 (s.1 0) := tp_at (hA.2.1 0 (by decide)) (by decide) (by omega)
    replace hr := hr.go (s_aload_n t23_11 rfl)
    replace hr := hr.go (s_getr t23_12 ((hG.2.2.2.2.2.1 0 (by decide)).1))
    replace hr := hr.go (s_k t23_15)
    replace hr := hr.go (s_k t23_16)
    replace hr := hr.cvI t23_17 rfl rfl (ct_at (ro := 0) (k := 0) (hG.2.2.2.2.2.1 0 (by decide)).2.1 (hG.2.2.2.2.2.1 0 (by decide)).2.2.choose_spec (hA.2.1 0 (by decide)).1 (hA.2.1 0 (by decide)).2.1 (by decide) (by decide) (by decide) (by decide))
    replace hr := hr.go (s_goto t23_20)
    rw [e0] at hr
    replace hr := hr.go (s_putf t23_25)
    replace hr := hr.go (s_aload_n t23_28 rfl)
    replace hr := hr.go (s_aload_n t23_29 rfl)
    replace hr := hr.go (s_getr t23_30 ((hG.2.2.2.2.2.1 6 (by decide)).1))
    replace hr := hr.go (s_getf t23_33)
    rw [xu_row (by omega), (hA.2.1 6 (by decide)).2.2.1] at hr
    have q6 : (Int32.ofNat (s.1 6).length).toInt = ((s.1 6).length : Int) := xn_int (by have := (hA.2.1 6 (by decide)).2.2.2.1; have := mN_b 6; omega)
    rcases hr.zLe t23_36 with ⟨b36, hr⟩ | ⟨b36, hr⟩
    · have e6 : (1 : Int32) = tpV 1 (s.1 6) := tp_0 (by omega)
      replace hr := hr.go (s_k t23_51)
      rw [e6] at hr
      replace hr := hr.go (s_putf t23_52)
      obtain ⟨rfl, hs⟩ := hr.ret t23_55
      exact ⟨_, _, hs, rfl, rfl, fun a ha => by rw [xu_row ha, xu_row ha], by rw [xu_oth (by omega), xu_oth (by omega)], by rw [xu_oth (by omega), xu_same], xu_same⟩
    · have e6 : m (P + 2 + 2 * 6) (0 * cN 6 + 0) = tpV 1 (s.1 6) := tp_at (hA.2.1 6 (by decide)) (by decide) (by omega)
      replace hr := hr.go (s_aload_n t23_39 rfl)
      replace hr := hr.go (s_getr t23_40 ((hG.2.2.2.2.2.1 6 (by decide)).1))
      replace hr := hr.go (s_k t23_43)
      replace hr := hr.go (s_k t23_44)
      replace hr := hr.cvI t23_45 rfl rfl (ct_at (ro := 0) (k := 0) (hG.2.2.2.2.2.1 6 (by decide)).2.1 (hG.2.2.2.2.2.1 6 (by decide)).2.2.choose_spec (by rw [xu_row (by omega)]; exact (hA.2.1 6 (by decide)).1) (by rw [xu_row (by omega)]; exact (hA.2.1 6 (by decide)).2.1) (by decide) (by decide) (by decide) (by decide))
      replace hr := hr.go (s_goto t23_48)
      rw [xu_row (by omega), e6] at hr
      replace hr := hr.go (s_putf t23_52)
      obtain ⟨rfl, hs⟩ := hr.ret t23_55
      exact ⟨_, _, hs, rfl, rfl, fun a ha => by rw [xu_row ha, xu_row ha], by rw [xu_oth (by omega), xu_oth (by omega)], by rw [xu_oth (by omega), xu_same], xu_same⟩

theorem mm_n {n : Nat} (h : n ≤ 700) : (if (0 : Int32) < (if Int32.ofNat 700 < Int32.ofNat n then Int32.ofNat 700 else Int32.ofNat n) then (if Int32.ofNat 700 < Int32.ofNat n then Int32.ofNat 700 else Int32.ofNat n) else 0) = Int32.ofNat n := by
  have q : (Int32.ofNat n).toInt = (n : Int) := xn_int (by omega)
  have hz : ¬ Int32.ofNat 700 < Int32.ofNat n := fun z => by
    rw [Int32.lt_iff_toInt_lt, q] at z
    have k : (Int32.ofNat 700).toInt = 700 := rfl
    omega
  rw [if_neg hz]
  split
  · rfl
  · next z =>
    rw [Int32.lt_iff_toInt_lt, q] at z
    have k : (0 : Int32).toInt = 0 := rfl
    have : n = 0 := by omega
    rw [this]
    rfl
theorem cg_start {nf : Bool} {xs : List Int32} {d : Nat} {m : xM} {g : xL} {G : xG} {B : eB} (hG : GS (xgu G 3 1 1)) (hE : EV B) (h1 : m 1 = B.1) (h4 : m 4 = B.2.1) : CG nf xs d 73 [.ref 3, .ref 1, .int (Int32.ofNat B.2.2)] m g G (fun r m' g' G' => r = none ∧ g' = g ∧ G' = xgu G 3 1 1 ∧ sC B 0 m' ∧ ∀ a : Nat, ¬ a = 3 → m' a = m a) := by
  refine CG.of (c := 6) (ini := false) (nL := 3) (rt := none) (tab := zt73) rfl (fun d' r h' N hd hr => ?_)
  replace hr : RR nf xs d' 6 false 3 none zt73 G r h' N (0, [(0, .ref 3), (1, .ref 1), (2, .int (Int32.ofNat B.2.2))], [], m, g) := hr
  replace hr := hr.go (s_aload_n t73_0 rfl)
  replace hr := hr.go (s_aload_n t73_1 rfl)
  replace hr := hr.putr t73_2
  replace hr := hr.go (s_aload_n t73_5 rfl)
  replace hr := hr.go (s_k t73_6)
  replace hr := hr.go (s_iload_n t73_7 rfl)
  replace hr := hr.go (s_aload_n t73_8 rfl)
  replace hr := hr.go (s_alen t73_9 hG.2.2.1)
  replace hr := hr.go (s_math6 t73_10)
  replace hr := hr.go (s_math5 t73_13)
  rw [mm_n hE.1] at hr
  replace hr := hr.go (s_putf t73_16)
  replace hr := hr.go (s_aload_n t73_19 rfl)
  replace hr := hr.go (s_k t73_20)
  replace hr := hr.go (s_putf t73_21)
  replace hr := hr.go (s_aload_n t73_24 rfl)
  obtain ⟨m2, ⟨hs2, hf2⟩, hr⟩ := hr.fvN t73_25 rfl rfl (ct_advP (B := B) (i := 0) hG hE (by rw [xu_row (by decide), xu_row (by decide)]; exact h1) (by rw [xu_row (by decide), xu_row (by decide)]; exact h4) (by rw [xu_oth (by decide), xu_same]) (by rw [xu_same]; rfl))
  obtain ⟨rfl, hs⟩ := hr.ret t73_28
  exact ⟨_, _, _, hs, rfl, rfl, rfl, hs2, fun a ha => by rw [hf2 a ha, xu_row ha, xu_row ha]⟩
noncomputable def lnsF (B : eB) : Nat → eS → Nat → Option ((Nat × Nat) ⊕ (eS × Nat))
  | 0, _, _ => none
  | f + 1, s, c => if tK B s.2.2.2 = 0 then some (.inr (s, c)) else (match linF B s with
    | .inl e => some (.inl e)
    | .inr s' => lnsF B f s' (c + 1))
theorem lns_e {B : eB} {f c : Nat} {s : eS} (h : tK B s.2.2.2 = 0) : lnsF B (f + 1) s c = some (.inr (s, c)) := by
  show (if tK B s.2.2.2 = 0 then some (Sum.inr (s, c)) else (match linF B s with
    | .inl e => some (.inl e)
    | .inr s' => lnsF B f s' (c + 1))) = _
  rw [if_pos h]
theorem lns_1 {B : eB} {f c : Nat} {s : eS} {e : Nat × Nat} (h : ¬ tK B s.2.2.2 = 0) (hb : linF B s = .inl e) : lnsF B (f + 1) s c = some (.inl e) := by
  show (if tK B s.2.2.2 = 0 then some (Sum.inr (s, c)) else (match linF B s with
    | .inl e => some (.inl e)
    | .inr s' => lnsF B f s' (c + 1))) = _
  rw [if_neg h, hb]
theorem lns_2 {B : eB} {f c : Nat} {s s' : eS} (h : ¬ tK B s.2.2.2 = 0) (hb : linF B s = .inr s') : lnsF B (f + 1) s c = lnsF B f s' (c + 1) := by
  show (if tK B s.2.2.2 = 0 then some (Sum.inr (s, c)) else (match linF B s with
    | .inl e => some (.inl e)
    | .inr s' => lnsF B f s' (c + 1))) = _
  rw [if_neg h, hb]
theorem lns_up {B : eB} : ∀ (f f' : Nat) (s : eS) (c : Nat) (o : (Nat × Nat) ⊕ (eS × Nat)), lnsF B f s c = some o → f ≤ f' → lnsF B f' s c = some o := by
  intro f
  induction f with
  | zero => intro f' s c o h; cases h
  | succ f ih =>
    intro f' s c o h hle
    obtain ⟨f', rfl⟩ : ∃ k : Nat, f' = k + 1 := ⟨f' - 1, by omega⟩
    by_cases hn : tK B s.2.2.2 = 0
    · rw [lns_e hn] at h ⊢; exact h
    · cases hb : linF B s with
      | inl e => rw [lns_1 hn hb] at h ⊢; exact h
      | inr s' => rw [lns_2 hn hb] at h ⊢; exact ih f' _ _ _ h (by omega)
theorem lns_det {B : eB} {f f' : Nat} {s : eS} {c : Nat} {o o' : (Nat × Nat) ⊕ (eS × Nat)} (h : lnsF B f s c = some o) (h' : lnsF B f' s c = some o') : o = o' := by
  have h1 := lns_up f (f + f') _ _ _ h (by omega)
  have h2 := lns_up f' (f + f') _ _ _ h' (by omega)
  rw [h1] at h2
  cases h2
  rfl
theorem tps_mono {B : eB} (hE : EV B) {i : Nat} : ∀ j : Nat, tps B i ≤ tps B (i + j)
  | 0 => Nat.le_refl _
  | j + 1 => by
    have h1 := tps_mono hE (i := i) j
    have h2 := tok_same (b := B.1) (wd := B.2.1) (n := B.2.2) (p := tps B (i + j)) (old := 0) hE.1 (tps_le hE _) hE.2.1
    have h3 : tps B (i + (j + 1)) = (tokC B.1 B.2.1 B.2.2 (tps B (i + j))).2.2.2 := rfl
    have := h2.2.2.1
    have := h2.2.2.2.1
    omega
theorem AC_row {B : eB} {P : Nat} {s : eS} {m m' : xM} (h7 : 7 ≤ P) (h : AC B P s m) (hr : ∀ a : Nat, ¬ a = P → m' a = m a) : AC B P s m' :=
  ⟨sC_row h.1 (hr 1 (by omega)) (hr 4 (by omega)) (hr 3 (by omega)), fun w hw => tbC_row (h.2.1 w hw) (hr _ (by omega)) (hr _ (by omega)), fun k hk => by rw [hr _ (by omega)]; exact h.2.2.1 k hk, by rw [hr _ (by omega)]; exact h.2.2.2.1, by rw [hr 2 (by omega)]; exact h.2.2.2.2.1, h.2.2.2.2.2.1, ft_row h.2.2.2.2.2.2 (hr 2 (by omega))⟩
/-- behind a good text -/
def rQ (B : eB) (P : Nat) (q : eS × Nat) (m' : xM) : Prop := AC B P q.1 m' ∧ m' P 9 = Int32.ofNat q.2 ∧ m' P 10 = tpV 30 (q.1.1 0) ∧ m' P 11 = tpV 1 (q.1.1 6)
theorem lp27 {nf : Bool} {xs : List Int32} {d : Nat} {g : xL} {G : xG} {r : Option Value} {h' : zH} {B : eB} {P : Nat} (hG : GP G P) (hE : EV B) : ∀ (N q : Nat) (s : eS) (m : xM), AC B P s m → m P 9 = Int32.ofNat q → q ≤ tps B s.2.2.2 → RR nf xs d 4 false 5 (some .boolean) zt27 G r h' N (31, [(4, .int (Int32.ofNat q)), (0, .ref 2), (1, .ref 1), (2, .int (Int32.ofNat B.2.2)), (3, .ref P)], [], m, g) → ∃ (m' : xM) (g' : xL), HS h' m' g' G ∧ ∃ (f : Nat) (o : (Nat × Nat) ⊕ (eS × Nat)), lnsF B f s q = some o ∧ OC B o g (rQ B P) r m' g' := by
  have h7 := hG.2.2.2.2.1
  have h700 := hE.1
  have qn : (Int32.ofNat B.2.2).toInt = (B.2.2 : Int) := xn_int (by omega)
  intro N
  induction N with
  | zero => intro q s m _ _ _ hr; exact hr.no.elim
  | succ N ih =>
    intro q s m hA h9 hq hr
    have hle := tps_le hE s.2.2.2
    have qq : (Int32.ofNat q).toInt = (q : Int) := xn_int (by omega)
    replace hr := hr.go1 (s_iload t27_31 rfl)
    replace hr := hr.go (s_iload_n t27_33 rfl)
    rcases hr.bGt t27_34 with ⟨b34, hr⟩ | ⟨b34, hr⟩
    · exact (by omega : False).elim
    · replace hr := hr.go (s_aload_n t27_37 rfl)
      replace hr := hr.go (s_getr t27_38 (hG.2.1))
      replace hr := hr.go (s_getf t27_41)
      rw [hA.1.2.2.2.2.1] at hr
      rcases hr.zEq t27_44 with ⟨b44, hr⟩ | ⟨b44, hr⟩
      · replace hr := hr.go (s_aload_n t27_73 rfl)
        obtain ⟨m3, ⟨hf3, h93, h10, h11⟩, hr⟩ := hr.fvN t27_74 rfl rfl (ct_settle hG hA)
        replace hr := hr.go (s_k t27_77)
        obtain ⟨rfl, hs⟩ := hr.iret t27_78
        exact ⟨_, _, hs, 1, .inr (s, q), lns_e b44, rfl, rfl, AC_row h7 hA hf3, h93.trans h9, h10, h11⟩
      · replace hr := hr.go (s_aload_n t27_47 rfl)
        replace hr := hr.go (s_aload_n t27_48 rfl)
        obtain ⟨r1, m1, _, ⟨rfl, ho⟩, hr⟩ := hr.callv t27_49 rfl rfl (ct_readLine hG hE hA)
        cases hb : linF B s with
        | inl e =>
          rw [hb] at ho
          obtain ⟨rfl, ho⟩ := ho
          rcases hr.zNe t27_52 with ⟨b52, hr⟩ | ⟨b52, hr⟩
          · exact absurd b52 (by decide)
          · replace hr := hr.go (s_k t27_55)
            obtain ⟨rfl, hs⟩ := hr.iret t27_56
            exact ⟨_, _, hs, 1, .inl e, lns_1 b44 hb, rfl, rfl, ho⟩
        | inr s1 =>
          rw [hb] at ho
          obtain ⟨rfl, hi1, hA1, hf1⟩ := ho
          rcases hr.zNe t27_52 with ⟨b52, hr⟩ | ⟨b52, hr⟩
          · replace hr := hr.go (s_aload_n t27_57 rfl)
            replace hr := hr.go (s_dup t27_58 rfl)
            replace hr := hr.go (s_getf t27_59)
            replace hr := hr.go (s_k t27_62)
            replace hr := hr.go (s_iadd t27_63)
            replace hr := hr.go (s_putf t27_64)
            replace hr := hr.go (s_iinc (ls' := [(4, _), (0, _), (1, _), (2, _), (3, _)]) t27_67 rfl rfl)
            replace hr := hr.go (s_goto t27_70)
            obtain ⟨m', g', w1, f, o, w2, w3⟩ := ih (q + 1) s1 (xu m1 P 9 (m1 P 9 + 1)) (AC_row h7 hA1 (fun a ha => xu_row ha)) (by rw [xu_same, hf1, h9, xn_1]) (by
              have h1 := tk_go hE b44
              have h2 := tps_mono hE (i := s.2.2.2 + 1) (s1.2.2.2 - (s.2.2.2 + 1))
              rw [show s.2.2.2 + 1 + (s1.2.2.2 - (s.2.2.2 + 1)) = s1.2.2.2 by omega] at h2
              omega) (by rw [← xn_1i]; exact hr)
            exact ⟨m', g', w1, f + 1, o, (lns_2 b44 hb).trans w2, w3⟩
          · exact absurd b52 (by decide)
def eS0 : eS := (fun _ => [], fun _ => false, 0, 0)
theorem cg_read {nf : Bool} {xs : List Int32} {d : Nat} {m : xM} {g : xL} {G : xG} {B : eB} {P : Nat} (hG : GP (xgu G 3 1 1) P) (hE : EV B) (h1 : m 1 = B.1) (h4 : m 4 = B.2.1) (hT : ∀ w : Nat, w < 8 → m (P + 1 + 2 * w) 0 = Int32.ofNat (cN w) ∧ m (P + 1 + 2 * w) 1 = Int32.ofNat (mN w)) : CG nf xs d 27 [.ref 2, .ref 1, .int (Int32.ofNat B.2.2), .ref P] m g G (fun r m' g' G' => G' = xgu G 3 1 1 ∧ ∃ (f : Nat) (o : (Nat × Nat) ⊕ (eS × Nat)), lnsF B f eS0 0 = some o ∧ OC B o g (rQ B P) r m' g') := by
  have h7 := hG.2.2.2.2.1
  have h20 : G.1 2 0 = some 3 := by have := hG.2.1; rwa [xgu_oth (by decide)] at this
  refine CG.of (c := 4) (ini := false) (nL := 5) (rt := some .boolean) (tab := zt27) rfl (fun d' r h' N hd hr => ?_)
  replace hr : RR nf xs d' 4 false 5 (some .boolean) zt27 G r h' N (0, [(0, .ref 2), (1, .ref 1), (2, .int (Int32.ofNat B.2.2)), (3, .ref P)], [], m, g) := hr
  replace hr := hr.go (s_aload_n t27_0 rfl)
  replace hr := hr.go (s_k t27_1)
  replace hr := hr.go (s_putf t27_2)
  replace hr := hr.go (s_aload_n t27_5 rfl)
  replace hr := hr.go (s_k t27_6)
  replace hr := hr.go (s_putf t27_7)
  replace hr := hr.go (s_aload_n t27_10 rfl)
  replace hr := hr.go (s_k t27_11)
  replace hr := hr.go (s_putf t27_12)
  replace hr := hr.go (s_aload_n t27_15 rfl)
  obtain ⟨m1, ⟨z1, z2, z3, z4, z5⟩, hr⟩ := hr.fvN t27_16 rfl rfl (ct_pclear (P := P) h7 (fun w hw => by have := (hG.2.2.2.2.2.1 w hw).1; rwa [xgu_oth (by omega)] at this) ⟨by have := hG.2.2.2.2.2.2.1; rwa [xgu_oth (by omega)] at this, by have := hG.2.2.2.2.2.2.2.2.2.1; rwa [xgu_oth (by omega)] at this, by have := hG.2.2.2.2.2.2.2.2.2.2.1; rwa [xgu_oth (by omega)] at this⟩)
  replace hr := hr.go (s_aload_n t27_19 rfl)
  replace hr := hr.go (s_getr t27_20 h20)
  replace hr := hr.go (s_aload_n t27_23 rfl)
  replace hr := hr.go (s_iload_n t27_24 rfl)
  obtain ⟨r1, m2, g2, G2, ⟨rfl, rfl, rfl, hs2, hf2⟩, hr⟩ := hr.callvG t27_25 rfl rfl (cg_start (B := B) hG.1 hE (by rw [z5 1 (by decide), xu_row (by decide), xu_row (by decide), xu_row (by decide)]; exact h1) (by rw [z5 4 (by decide), xu_row (by decide), xu_row (by decide), xu_row (by decide)]; exact h4))
  replace hr := hr.go (s_k t27_28)
  replace hr := hr.go (s_istore (ls' := [(4, _), (0, _), (1, _), (2, _), (3, _)]) t27_29 rfl)
  have hA : AC B P eS0 m2 := by
    refine ⟨hs2, fun w hw => ⟨?_, ?_, ?_, Nat.zero_le _, fun r hr => absurd hr (by simp [eS0])⟩, fun k hk => ?_, ?_, ?_, by decide, ?_, ?_⟩
    · rw [hf2 _ (by omega), (z3 w hw).2 0 (by decide), xu_row (by omega), xu_row (by omega), xu_row (by omega)]; exact (hT w hw).1
    · rw [hf2 _ (by omega), (z3 w hw).2 1 (by decide), xu_row (by omega), xu_row (by omega), xu_row (by omega)]; exact (hT w hw).2
    · rw [hf2 _ (by omega), (z3 w hw).1]; rfl
    · rw [hf2 _ (by omega), z2 k hk]; rfl
    · rw [hf2 _ (by omega), z1]; decide
    · rw [hf2 2 (by decide), z5 2 (by decide), xu_same]; rfl
    · rw [hf2 2 (by decide), z5 2 (by decide), xu_oth (by decide), xu_oth (by decide), xu_same]
    · rw [hf2 2 (by decide), z5 2 (by decide), xu_oth (by decide), xu_same]
  obtain ⟨m', g', w1, f, o, w2, w3⟩ := lp27 hG hE N 0 eS0 m2 hA (by rw [hf2 P (by omega), z4]; rfl) (Nat.zero_le _) hr
  exact ⟨m', g', _, w1, rfl, f, o, w2, w3⟩
