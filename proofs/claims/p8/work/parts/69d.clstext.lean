/-! The class: a whole text. -/
theorem GR_xgu {G : xG} {P a k x : Nat} (h : GR G P) (h7 : 7 ≤ P) (ha : a = 0 ∨ a = 3 ∨ (a = 55 ∧ k = 2)) : GR (xgu G a k x) P := by
  obtain ⟨h1, h2, h3, h4, h5, h6, h8, h9, h10, h11⟩ := h
  exact ⟨(xgu_oth (by omega)).trans h1, (xgu_oth (by omega)).trans h2, fun j hj => ⟨(xgu_oth (by omega)).trans (h3 j hj).1, (xgu_oth (by omega)).trans (h3 j hj).2⟩, (xgu_oth (by omega)).trans h4, (xgu_oth (by omega)).trans h5, (xgu_oth (by omega)).trans h6, (xgu_oth (by omega)).trans h8, h9, h10, h11⟩
/-- the class's cells: plan at P0, spare at P -/
def GC (G : xG) (P P0 : Nat) : Prop := GP (xgu G 3 1 1) P ∧ GR G P ∧ G.1 0 0 = some 1 ∧ G.1 0 4 = some 2 ∧ G.1 0 5 = some P0 ∧ G.1 0 6 = some P ∧ G.1 0 7 = some 55 ∧ G.1 0 13 = some 116 ∧ G.1 0 14 = some 120
/-- what reading into the plan at P can reach -/
def RA (G : xG) (P : Nat) (a : Nat) : Prop := (1 ≤ a ∧ a ≤ 6) ∨ (P ≤ a ∧ a < P + 24) ∨ G.2 a = (0, 9, 0)
def RC (G : xG) (P : Nat) : Prop := ∀ a k b : Nat, RA G P a → G.1 a k = some b → RA G P b
theorem CG.reach {nf : Bool} {xs : List Int32} {d mi : Nat} {as : List Value} {m : xM} {g : xL} {G : xG} {Q : Option Value → xM → xL → xG → Prop} {A : Nat → Prop} (hc : CG nf xs d mi as m g G Q) (hA : sA A as) (hcl : ∀ a k b : Nat, A a → G.1 a k = some b → A b) (hf : ∀ a : Nat, G.2 a = (0, 9, 0) → A a) : CG nf xs d mi as m g G (fun r m' g' G' => Q r m' g' G' ∧ ∀ a : Nat, ¬ A a → m' a = m a ∧ g' a = g a) := by
  intro h r h' hs q
  obtain ⟨m', g', G', hs', hq⟩ := hc h r h' hs q
  refine ⟨m', g', G', hs', hq, fun a ha => ?_⟩
  have hr := zEv_reach q hA (fun a k b h1 h2 => hcl a k b h1 (by
    rw [← hs.2.2.2.1]
    show xr (rd h a k) = some b
    rw [h2]
    rfl)) (fun b hb => hf b (by
    rw [← hs.2.2.2.2]
    show xsh h[b]? = _
    rw [List.getElem?_eq_none hb]
    rfl)) a ha
  rw [← hs'.2.1, ← hs.2.1, ← hs'.2.2.1, ← hs.2.2.1]
  refine ⟨funext fun k => ?_, funext fun k => ?_⟩
  · show xi (rd h' a k) = xi (rd h a k)
    unfold rd
    rw [hr]
  · show xl (rd h' a k) = xl (rd h a k)
    unfold rd
    rw [hr]
/-- how a text ends in the class -/
def TC (B : eB) (P P0 : Nat) (G : xG) (m : xM) (g : xL) : Option Value → xM → xL → xG → Prop := fun r m' g' G' => ∃ (f : Nat) (o : (Nat × Nat) ⊕ (eS × Nat)), lnsF B f eS0 0 = some o ∧ match o with
  | .inl e => r = some (.int (-1)) ∧ m' 0 2 = Int32.ofNat e.1 ∧ m' 0 3 = Int32.ofNat (tP B e.2) ∧ G' = xgu G 3 1 1 ∧ m' 0 11 = m 0 11 ∧ ∀ a : Nat, ¬ RA G P a → ¬ a = 0 → m' a = m a ∧ g' a = g a
  | .inr p => r = some (.int (Int32.ofNat p.2)) ∧ m' 0 2 = 0 ∧ m' 0 3 = -1 ∧ G' = xgu (xgu (xgu (xgu G 3 1 1) 0 5 P) 0 6 P0) 55 2 P ∧ (m' 55 3 = Int32.ofNat (p.1.1 1).length ∧ m' 55 4 = 0 ∧ m' 55 5 = 0 ∧ m' 0 11 = 0 ∧ m' 116 3 = 0 ∧ m' 120 5 = 0 ∧ m' 120 6 = -1 ∧ m' P 10 = tpV 30 (p.1.1 0) ∧ (∀ i : Nat, i < (p.1.1 1).length → m' (58 + 2 * i) 2 = ((p.1.1 1).getD i []).getD 3 0 ∧ m' (58 + 2 * i) 4 = 0) ∧ ∀ j : Nat, j < 6 → g' 57 j = tlF (p.1.1 3) j 0) ∧ ∀ w : Nat, w < 8 → tbC (P + 1 + 2 * w) (P + 2 + 2 * w) (cN w) (mN w) (p.1.1 w) m'
theorem cg_text {nf : Bool} {xs : List Int32} {d : Nat} {m : xM} {g : xL} {G : xG} {P P0 len : Nat} {x : Int32} (hG : GC G P P0) (hR : RC G P) (h0s : ¬ G.2 0 = (0, 9, 0)) (hlen : m 0 1 = Int32.ofNat len) (hl : len ≤ 700) (hb0 : ∀ i : Nat, i < 700 → 0 ≤ (m 1 i).toInt) (hb1 : ∀ i : Nat, i < 700 → (m 1 i).toInt < 256) (hw : WD (m 4)) (hT : ∀ w : Nat, w < 8 → m (P + 1 + 2 * w) 0 = Int32.ofNat (cN w) ∧ m (P + 1 + 2 * w) 1 = Int32.ofNat (mN w)) : CG nf xs d 100 [.ref 0, .int x] m g G (fun r m' g' G' => (x.toInt < 0 ∨ (len : Int) < x.toInt) ∧ r = some (.int (-2)) ∧ m' = m ∧ g' = g ∧ G' = G ∨ ∃ n : Nat, x = Int32.ofNat n ∧ n ≤ len ∧ TC (m 1, m 4, n) P P0 G m g r m' g' G') := by
  obtain ⟨hGP, hGR, h00, h04, h05, h06, h07, h13, h14⟩ := hG
  have h7 : 7 ≤ P := hGP.2.2.2.2.1
  have h31 : P ≤ 31 := hGR.2.2.2.2.2.2.2.2.2
  refine CG.of (c := 10) (ini := false) (nL := 4) (rt := some .int) (tab := zt100) rfl (fun d' r h' N hd hr => ?_)
  replace hr : RR nf xs d' 10 false 4 (some .int) zt100 G r h' N (0, [(0, .ref 0), (1, .int x)], [], m, g) := hr
  have ql : (Int32.ofNat len).toInt = (len : Int) := xn_int (by omega)
  have bad : (x.toInt < 0 ∨ (len : Int) < x.toInt) → ∀ N : Nat, RR nf xs d' 10 false 4 (some .int) zt100 G r h' N (12, [(0, .ref 0), (1, .int x)], [], m, g) → ∃ (m' : xM) (g' : xL) (G' : xG), HS h' m' g' G' ∧ ((x.toInt < 0 ∨ (len : Int) < x.toInt) ∧ r = some (.int (-2)) ∧ m' = m ∧ g' = g ∧ G' = G ∨ ∃ n : Nat, x = Int32.ofNat n ∧ n ≤ len ∧ TC (m 1, m 4, n) P P0 G m g r m' g' G') := by
    intro hx N hr
    replace hr := hr.go (s_k t100_12)
    obtain ⟨rfl, hs⟩ := hr.iret t100_14
    exact ⟨_, _, _, hs, Or.inl ⟨hx, rfl, rfl, rfl, rfl⟩⟩
  replace hr := hr.go (s_iload_n t100_0 rfl)
  rcases hr.zLt t100_1 with ⟨b1, hr⟩ | ⟨b1, hr⟩
  · exact bad (Or.inl b1) _ hr
  · replace hr := hr.go (s_iload_n t100_4 rfl)
    replace hr := hr.go (s_aload_n t100_5 rfl)
    replace hr := hr.go (s_getf t100_6)
    rw [hlen] at hr
    rcases hr.bLe t100_9 with ⟨b9, hr⟩ | ⟨b9, hr⟩
    · obtain ⟨n, hxn, hn⟩ : ∃ n : Nat, x = Int32.ofNat n ∧ n ≤ len := ⟨_, xn_of b1, by rw [Int32.toNatClampNeg]; omega⟩
      have hE : EV (m 1, m 4, n) := ⟨by show n ≤ 700; omega, hw, fun i hi => hb0 i (by have hi : i < n := hi; omega), fun i hi => hb1 i (by have hi : i < n := hi; omega)⟩
      replace hr := hr.go (s_aload_n t100_15 rfl)
      replace hr := hr.go (s_getr t100_16 (h04))
      replace hr := hr.go (s_aload_n t100_19 rfl)
      replace hr := hr.go (s_getr t100_20 (h00))
      replace hr := hr.go (s_iload_n t100_23 rfl)
      replace hr := hr.go (s_aload_n t100_24 rfl)
      replace hr := hr.go (s_getr t100_25 (h06))
      rw [hxn] at hr
      obtain ⟨r1, m1, g1, _, ⟨⟨rfl, f, oo, ho, hO⟩, hfr⟩, hr⟩ := hr.callvG t100_28 rfl rfl (CG.reach (A := RA G P) (cg_read (B := (m 1, m 4, n)) (P := P) hGP hE rfl rfl hT) (sA_cs (vA_of (Or.inl (by decide))) (sA_cs (vA_of (Or.inl (by decide))) (sA_i (sA_cs (vA_of (Or.inr (Or.inl (by omega)))) sA_nil)))) hR (fun a h => Or.inr (Or.inr h)))
      have k04 : (xgu G 3 1 1).1 0 4 = some 2 := (xgu_oth (by decide)).trans h04
      cases oo with
      | inl e =>
        obtain ⟨eg, er, q1, q2⟩ := hO
        subst er
        rw [eg] at hr
        replace hr : RR nf xs d' 10 false 4 (some .int) zt100 (xgu G 3 1 1) r h' N (31, [(0, .ref 0), (1, .int (Int32.ofNat n))], [.int 0], m1, g) := hr
        replace hr := hr.go (s_istore_n (ls' := [(2, _), (0, _), (1, _)]) t100_31 rfl)
        replace hr := hr.go (s_aload_n t100_32 rfl)
        replace hr := hr.go (s_k t100_33)
        replace hr := hr.go (s_putf t100_34)
        replace hr := hr.go (s_aload_n t100_37 rfl)
        replace hr := hr.go (s_aload_n t100_38 rfl)
        replace hr := hr.go (s_getr t100_39 (k04))
        replace hr := hr.go (s_getf t100_42)
        replace hr := hr.go (s_putf t100_45)
        replace hr := hr.go (s_aload_n t100_48 rfl)
        replace hr := hr.go (s_aload_n t100_49 rfl)
        replace hr := hr.go (s_getr t100_50 (k04))
        replace hr := hr.go (s_getf t100_53)
        replace hr := hr.go (s_putf t100_56)
        replace hr := hr.go (s_iload_n t100_59 rfl)
        replace hr := hr.bzF t100_60 (by decide)
        replace hr := hr.go (s_k t100_63)
        obtain ⟨rfl, hs⟩ := hr.iret t100_64
        refine ⟨_, _, _, hs, Or.inr ⟨n, hxn, hn, f, .inl e, ho, rfl, ?_, ?_, rfl, ?_, fun a h1 h2 => ?_⟩⟩
        · rw [xu_oth (by decide), xu_same, xu_oth (by decide)]; exact q1
        · rw [xu_same, xu_oth (by decide), xu_oth (by decide)]; exact q2
        · rw [xu_oth (by decide), xu_oth (by decide), xu_oth (by decide)]
          exact congrFun (And.left (hfr 0 (fun z => by
            rcases z with z | z | z
            · omega
            · omega
            · exact h0s z))) 11
        · rw [xu_row h2, xu_row h2, xu_row h2]; exact ⟨(hfr a h1).1, rfl⟩
      | inr p =>
        obtain ⟨eg, er, hA, q9, q10, -⟩ := hO
        subst er
        rw [eg] at hr
        replace hr : RR nf xs d' 10 false 4 (some .int) zt100 (xgu G 3 1 1) r h' N (31, [(0, .ref 0), (1, .int (Int32.ofNat n))], [.int 1], m1, g) := hr
        have k05 : (xgu G 3 1 1).1 0 5 = some P0 := (xgu_oth (by decide)).trans h05
        have k06 : (xgu G 3 1 1).1 0 6 = some P := (xgu_oth (by decide)).trans h06
        have j07 : (xgu (xgu (xgu G 3 1 1) 0 5 P) 0 6 P0).1 0 7 = some 55 := (xgu_oth (by decide)).trans ((xgu_oth (by decide)).trans ((xgu_oth (by decide)).trans h07))
        have j05 : (xgu (xgu (xgu G 3 1 1) 0 5 P) 0 6 P0).1 0 5 = some P := (xgu_oth (by decide)).trans xgu_same
        have i05 : (xgu (xgu (xgu (xgu G 3 1 1) 0 5 P) 0 6 P0) 55 2 P).1 0 5 = some P := (xgu_oth (by decide)).trans j05
        have i13 : (xgu (xgu (xgu (xgu G 3 1 1) 0 5 P) 0 6 P0) 55 2 P).1 0 13 = some 116 := (xgu_oth (by decide)).trans ((xgu_oth (by decide)).trans ((xgu_oth (by decide)).trans ((xgu_oth (by decide)).trans h13)))
        have i14 : (xgu (xgu (xgu (xgu G 3 1 1) 0 5 P) 0 6 P0) 55 2 P).1 0 14 = some 120 := (xgu_oth (by decide)).trans ((xgu_oth (by decide)).trans ((xgu_oth (by decide)).trans ((xgu_oth (by decide)).trans h14)))
        have h8 : ∀ r : Nat, r < (p.1.1 3).length → m1 (P + 8) (r * 2 + 0) = ((p.1.1 3).getD r []).getD 0 0 ∧ m1 (P + 8) (r * 2 + 1) = ((p.1.1 3).getD r []).getD 1 0 := fun r hr2 => by
          have t3 := hA.2.1 3 (by decide)
          exact ⟨t3.2.2.2.2 r hr2 0 (by decide), t3.2.2.2.2 r hr2 1 (by decide)⟩
        have hMR : MR P (p.1.1 3).length m1 := by
          have t1 := hA.2.1 1 (by decide)
          have t3 := hA.2.1 3 (by decide)
          exact ⟨t1.1, t1.2.1, t3.1, t3.2.1, t3.2.2.1, t3.2.2.2.1⟩
        replace hr := hr.go (s_istore_n (ls' := [(2, _), (0, _), (1, _)]) t100_31 rfl)
        replace hr := hr.go (s_aload_n t100_32 rfl)
        replace hr := hr.go (s_k t100_33)
        replace hr := hr.go (s_putf t100_34)
        replace hr := hr.go (s_aload_n t100_37 rfl)
        replace hr := hr.go (s_aload_n t100_38 rfl)
        replace hr := hr.go (s_getr t100_39 (k04))
        replace hr := hr.go (s_getf t100_42)
        replace hr := hr.go (s_putf t100_45)
        replace hr := hr.go (s_aload_n t100_48 rfl)
        replace hr := hr.go (s_aload_n t100_49 rfl)
        replace hr := hr.go (s_getr t100_50 (k04))
        replace hr := hr.go (s_getf t100_53)
        replace hr := hr.go (s_putf t100_56)
        replace hr := hr.go (s_iload_n t100_59 rfl)
        replace hr := hr.bzT t100_60 (by decide)
        replace hr := hr.go (s_aload_n t100_65 rfl)
        replace hr := hr.go (s_getr t100_66 (k05))
        replace hr := hr.go (s_astore_n (ls' := [(3, _), (2, _), (0, _), (1, _)]) t100_69 rfl)
        replace hr := hr.go (s_aload_n t100_70 rfl)
        replace hr := hr.go (s_aload_n t100_71 rfl)
        replace hr := hr.go (s_getr t100_72 ((by first | exact k06 | exact (xgu_oth (by decide)).trans k06)))
        replace hr := hr.putr t100_75
        replace hr := hr.go (s_aload_n t100_78 rfl)
        replace hr := hr.go (s_aload_n t100_79 rfl)
        replace hr := hr.putr t100_80
        replace hr := hr.go (s_aload_n t100_83 rfl)
        replace hr := hr.go (s_getr t100_84 (j07))
        replace hr := hr.go (s_aload_n t100_87 rfl)
        replace hr := hr.go (s_getr t100_88 (j05))
        obtain ⟨_, m2, g2, _, ⟨rfl, rfl, q2, z3, z4, z5, z6, z7⟩, hr⟩ := hr.callvG t100_91 rfl rfl (cg_rbeginX (R := (p.1.1 3).length) (rows := p.1.1 3) (GR_xgu (GR_xgu (GR_xgu (GR_xgu hGR h7 (by decide)) h7 (by decide)) h7 (by decide)) h7 (by decide)) (by unfold MR; rw [xu_row (by omega), xu_row (by omega), xu_row (by omega), xu_row (by omega), xu_row (by omega), xu_row (by omega)]; exact hMR) (fun r hr2 => by rw [xu_row (by omega), xu_row (by omega), xu_row (by omega)]; exact h8 r hr2) rfl)
        replace hr : RR nf xs d' 10 false 4 (some .int) zt100 (xgu (xgu (xgu (xgu G 3 1 1) 0 5 P) 0 6 P0) 55 2 P) r h' N (94, _, [], m2, g2) := hr
        replace hr := hr.go (s_aload_n t100_94 rfl)
        replace hr := hr.go (s_k t100_95)
        replace hr := hr.go (s_putf t100_96)
        replace hr := hr.go (s_aload_n t100_99 rfl)
        replace hr := hr.go (s_getr t100_100 (i13))
        replace hr := hr.cvN t100_103 rfl rfl (ct_uclear)
        replace hr := hr.go (s_aload_n t100_106 rfl)
        replace hr := hr.go (s_getr t100_107 (i14))
        replace hr := hr.cvN t100_110 rfl rfl (ct_nclear)
        replace hr := hr.go (s_aload_n t100_113 rfl)
        replace hr := hr.go (s_getr t100_114 (i05))
        replace hr := hr.go (s_getf t100_117)
        obtain ⟨rfl, hs⟩ := hr.iret t100_120
        refine ⟨_, _, _, hs, Or.inr ⟨n, hxn, hn, f, .inr p, ho, ?_, ?_, ?_, rfl, ⟨?_, ?_, ?_, ?_, ?_, ?_, ?_, ?_, fun i hi => ?_, z7⟩, fun w hw8 => ?_⟩⟩
        · rw [xu_row (by omega), xu_row (by omega), xu_row (by omega), xu_row (by omega), q2 P (by omega), xu_row (by omega), xu_row (by omega), xu_row (by omega), q9]
        · rw [xu_row (by decide), xu_row (by decide), xu_row (by decide), xu_oth (by decide), q2 0 (by decide), xu_oth (by decide), xu_same, xu_oth (by decide)]; exact hA.2.2.2.2.2.2.1
        · rw [xu_row (by decide), xu_row (by decide), xu_row (by decide), xu_oth (by decide), q2 0 (by decide), xu_same, xu_oth (by decide), xu_oth (by decide)]; exact hA.2.2.2.2.2.2.2
        · have t1 := hA.2.1 1 (by decide)
          have tl : (p.1.1 1).length ≤ 6 := t1.2.2.2.1
          have e3 : m1 (P + 3) 3 = Int32.ofNat (p.1.1 1).length := t1.2.2.1
          rw [xu_row (by decide), xu_row (by decide), xu_row (by decide), xu_row (by decide), z3, xu_row (by omega), xu_row (by omega), xu_row (by omega), e3]
          by_cases l6 : (p.1.1 1).length = 6
          · rw [l6]; decide
          · rw [if_pos (by rw [Int32.lt_iff_toInt_lt, xn_int (by omega), show (6 : Int32).toInt = 6 from rfl]; omega)]
        · rw [xu_row (by decide), xu_row (by decide), xu_row (by decide), xu_row (by decide)]; exact z4
        · rw [xu_row (by decide), xu_row (by decide), xu_row (by decide), xu_row (by decide)]; exact z5
        · rw [xu_row (by decide), xu_row (by decide), xu_row (by decide)]; exact xu_same
        · rw [xu_row (by decide), xu_row (by decide)]; exact xu_same
        · rw [xu_oth (by decide)]; exact xu_same
        · exact xu_same
        · rw [xu_row (by omega), xu_row (by omega), xu_row (by omega), xu_row (by omega), q2 P (by omega), xu_row (by omega), xu_row (by omega), xu_row (by omega), q10]
        · have t1 := hA.2.1 1 (by decide)
          have tl : (p.1.1 1).length ≤ 6 := t1.2.2.2.1
          rw [xu_row (by omega), xu_row (by omega), xu_row (by omega), xu_row (by omega), (z6 i (by omega)).1, xu_row (by omega), xu_row (by omega), xu_row (by omega)]
          exact ⟨t1.2.2.2.2 i hi 3 (by decide), (z6 i (by omega)).2⟩
        · refine tbC_row (hA.2.1 w hw8) ?_ ?_
          · rw [xu_row (by omega), xu_row (by omega), xu_row (by omega), xu_row (by omega), q2 _ (by omega), xu_row (by omega), xu_row (by omega), xu_row (by omega)]
          · rw [xu_row (by omega), xu_row (by omega), xu_row (by omega), xu_row (by omega), q2 _ (by omega), xu_row (by omega), xu_row (by omega), xu_row (by omega)]
    · exact bad (Or.inr (by omega)) _ hr
