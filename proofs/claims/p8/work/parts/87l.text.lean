/-! text of both sides, between the passes: the relation behind it. -/
theorem RP.fm {R J n : Nat} {rows : Nat → rRow} {kp nt L : Int32} {m m' : xM} {g g' : xL} (h : RP R J n rows kp nt L m g) (hF : FM m m') (hG : FG g g') : RP R J n rows kp nt L m' g' := by
  obtain ⟨r1, r2, r3, r4, r5, r6, r7⟩ := h
  refine ⟨(hF 130 0 (Or.inl (Or.inl ⟨rfl, by decide⟩))).trans r1, (hF 130 1 (Or.inl (Or.inl ⟨rfl, by decide⟩))).trans r2, (hF 130 2 (Or.inl (Or.inl ⟨rfl, by decide⟩))).trans r3, (hF 128 54 (Or.inr (Or.inr ⟨rfl, by decide⟩))).trans r4, (hF 128 67 (Or.inr (Or.inr ⟨rfl, by decide⟩))).trans r5, (hF 128 53 (Or.inr (Or.inr ⟨rfl, by decide⟩))).trans r6, fun r hr => ?_⟩
  exact (rowOf_eq (hF 150 r (Or.inr (Or.inl (by decide)))) (hF 151 r (Or.inr (Or.inl (by decide)))) (hF 155 r (Or.inr (Or.inl (by decide)))) (fun p _ => hF 156 _ (Or.inr (Or.inl (by decide)))) (fun p _ => hG 164 _ (fun z => absurd z (by decide)))).trans (r7 r hr)
/-- the class's cells behind a bad text -/
theorem CP.cs {P R J n : Nat} {E : Nat → Int32 × Int32 × Int32} {w0 w3 : rRow} {kp nt L : Int32} {m m' : xM} {g g' : xL} {q q' : Nat → Nat → Option Nat} (hR : R ≤ 6) (h : CP P R J n E w0 w3 kp nt L m g q) (hm : ∀ a : Nat, (a = P ∨ a = P + 5 ∨ (55 ≤ a ∧ a < 85) ∨ (116 ≤ a ∧ a ≤ 120)) → m' a = m a ∧ g' a = g a) (h11 : m' 0 11 = m 0 11) (hq : q' 0 5 = q 0 5 ∧ q' 55 2 = q 55 2 ∧ q' 70 2 = q 70 2) : CP P R J n E w0 w3 kp nt L m' g' q' := by
  obtain ⟨c1, c2, c3, c4, c5, c6, c7, c8, c9, c10, c11⟩ := h
  refine ⟨hq.1.trans c1, hq.2.1.trans c2, by rw [(hm P (by omega)).1]; exact c3, by rw [(hm (P + 5) (by omega)).1]; exact c4, by rw [(hm 55 (by omega)).1]; exact c5, by rw [(hm 116 (by omega)).1]; exact c6, by rw [(hm 120 (by omega)).1]; exact c7, h11.trans c8, c9.row hR (fun c d1 d2 => (hm c (by omega)).1) (hm 57 (by omega)).2, ?_, fun k hk => by rw [(hm 117 (by omega)).1, (hm 118 (by omega)).1, (hm 119 (by omega)).1]; exact c11 k hk⟩
  rcases c10 with z | ⟨y1, y2, y3⟩
  · exact Or.inl z
  · exact Or.inr ⟨by rw [(hm 70 (by omega)).1]; exact y1, hq.2.2.trans y2, y3.row hR (fun c d1 d2 => (hm c (by omega)).1) (hm 72 (by omega)).2⟩
theorem csh_B : (List.range 30).all (fun j => csh (55 + j)) = true ∧ (List.range 5).all (fun j => csh (116 + j)) = true := by decide +kernel
/-- miles told from the start: from their table's types -/
def ml60 : Bool := [7, 31].all (fun P => (List.range 8).all (fun r => inW (P + 8) (r * 2 + 1) && decide (apl (afm qW (asrt qW (P + 8))) (r * 2 + 1) = (0, 0, 60))))
theorem ml60_ok : ml60 = true := by decide +kernel
theorem tb3_b {h : zH} {P : Nat} {T : Nat → List (List Int32)} (hH : aH qW qG [0] [] h) (hP : P = 7 ∨ P = 31) (ht : tbC (P + 1 + 2 * 3) (P + 2 + 2 * 3) (cN 3) (mN 3) (T 3) (gi h)) : ∀ r : List Int32, r ∈ T 3 → 0 ≤ (r.getD 1 0).toInt ∧ (r.getD 1 0).toInt ≤ 60 := fun r hr => by
  obtain ⟨-, -, -, t1, t2⟩ := ht
  obtain ⟨i, hi, e⟩ := List.mem_iff_getElem.mp hr
  have t1 : (T 3).length ≤ 8 := t1
  have e2 : (T 3).getD i [] = r := by rw [List.getD_eq_getElem?_getD, List.getElem?_eq_getElem hi, e]; rfl
  have c := t2 i hi 1 (by decide)
  rw [e2] at c
  have q := List.all_eq_true.mp ml60_ok P (by rcases hP with rfl | rfl <;> decide)
  have q := List.all_eq_true.mp q i (List.mem_range.mpr (by omega))
  rw [Bool.and_eq_true] at q
  obtain ⟨x, -, x2, x3, x4⟩ := iv_of hH q.1 (of_decide_eq_true q.2)
  rw [show P + 2 + 2 * 3 = P + 8 by omega, show cN 3 = 2 from rfl] at c
  rw [← c, x2]
  exact ⟨x3, x4⟩
theorem tld_60 {rows : List (List Int32)} {j : Int32} {v : Nat} (h : ∀ r : List Int32, r ∈ rows → 0 ≤ (r.getD 1 0).toInt ∧ (r.getD 1 0).toInt ≤ 60) (hv : 61 ≤ v) (hv2 : v < 64) : tld rows j (Int32.ofNat v) = false := by
  unfold tld
  rw [List.any_eq_false]
  intro r hr q
  rw [Bool.and_eq_true] at q
  have e := of_decide_eq_true q.2
  have b := (h r hr).2
  rw [e, xn_int (by omega)] at b
  omega
theorem text_B {nf : Bool} {xs : List Int32} {d : Nat} {h h1 h2 : zH} {r1 r2 : Option Value} {x : Int32} {M1 M2 : List aD} (hI : lInq h) (e1 : zEv (zXt nf xs) zIT zmcl zMt d 100 [.ref 0, .int x] h r1 h1) (e2 : zEv (zXt nf xs) zIT zmcl zMt d 181 [.ref 128, .int x] h1 r2 h2) (S1 : aSh qW h1) (hJ2 : lJ h2) (hX2 : lX h2) (k1 : KP M1 h h1) (k2 : KP M2 h1 h2) (q1 : txM M1 = true) (q4 : tzM M2 = true) (q3 : kBR M1 = true) (q5 : kBC M2 = true) : lB h2 := by
  obtain ⟨hJ, ⟨-, ⟨x1, x2, ⟨P0, P, x3, x4, x5⟩, x6, x7, x8, x9⟩, y31, Pz, T, hPz, y5, yc, yr⟩, Pb, R, J, nB, E, rows, kp, nt, L, hPb, hR, hJ6, hnB, hC, hRr, hA⟩ := hI
  have hPP : P0 = Pz := by
    rw [x4] at y5
    cases y5
    rfl
  subst hPP
  have hPB : P0 = Pb := by
    have := (gr_of x4).symm.trans hC.1
    cases this
    rfl
  subst hPB
  have hRC : RC (gr h, gs h) P := rc_of hJ.1.1 x1 x2 y31 (by omega)
  have hS := hJ.1.1
  obtain ⟨p, hp, p1, p2⟩ := len_of hJ
  have t1 := zEv_KT _ _ _ _ _ _ e1 x1
  have t2 := zEv_KT _ _ _ _ _ _ e2 t1
  unfold txM at q1
  rw [Bool.and_eq_true, Bool.and_eq_true, Bool.and_eq_true, Bool.and_eq_true] at q1
  have hr1 := k1.rf q1.1 x2
  have hT := tp_eq hS ⟨x1, x2, ⟨P0, P, x3, x4, x5⟩, x6, x7, x8, x9⟩
  have qk := q1.2.1
  unfold xk2 at qk
  rw [Bool.and_eq_true] at qk
  have u2 := tp_keep hS S1 k1 129 50 (Or.inr ⟨rfl, rfl⟩) qk.2
  have hw : WD (gi h 4) := fun i hi => by
    show xi (rd h 4 i) = _
    rw [x6 i hi]
    rfl
  have hP : P = 7 ∨ P = 31 := by omega
  have hG := gc_of hS x2 hP x4 x5
  have hb := fun i hi => byt_of hJ.1 (i := i) hi
  have hTb : ∀ w : Nat, w < 8 → gi h (P + 1 + 2 * w) 0 = Int32.ofNat (cN w) ∧ gi h (P + 1 + 2 * w) 1 = Int32.ofNat (mN w) := fun w hw8 => by
    obtain ⟨-, -, -, i0, i1, a0, a1⟩ := (P_s hP).1 w hw8
    obtain ⟨y0, -, y1, y2, y3⟩ := iv_of hJ.1 i0 a0
    obtain ⟨z0, -, z1, z2, z3⟩ := iv_of hJ.1 i1 a1
    have c1 := cN_b w
    have c2 := mN_b w
    rw [y1, z1]
    exact ⟨ofN_of y2 y3 (by omega), ofN_of z2 z3 (by omega)⟩
  obtain ⟨m1, g1, G1, hs1, c1⟩ := cg_text hG hRC (nsh hJ.1.1 (by decide +kernel)) p1 hp (fun i hi => (hb i hi).1) (fun i hi => (hb i hi).2) hw hTb h r1 h1 (HS_of x1) e1
  have p3 : gi h1 128 2 = Int32.ofNat p := by
    show xi (rd h1 128 2) = _
    rw [k1.pl (by decide +kernel) q1.2.2.1, p2]
    rfl
  have e9 : gi h1 129 = gi h 1 := by rw [u2, hT]
  obtain ⟨m2, g2, hs2, c2⟩ := ct_textR (wd := gi h 4) (gt_of S1 hr1) hw p3 hp (fun i hi => by rw [e9]; exact (hb i hi).1) (fun i hi => by rw [e9]; exact (hb i hi).2) h1 r2 h2 (HS_of t1) e2
  rw [e9] at c2
  have em1 : gi h1 = m1 := hs1.2.1
  have el1 : gl h1 = g1 := hs1.2.2.1
  have er1 : gr h1 = G1.1 := hs1.2.2.2.1
  have em2 : gi h2 = m2 := hs2.2.1
  have el2 : gl h2 = g2 := hs2.2.2.1
  have R1 := hRr.st hnB (k1.br q3)
  rcases c1 with ⟨c1, -, em, eg, eG⟩ | ⟨n, c1, hn, f, o, ho, c1'⟩
  · rcases c2 with ⟨-, -, -, -, cF, cG⟩ | ⟨n, c2, hn, -⟩
    · exact lB_mk (h1 := h1) hPz hR hJ6 hnB (by rw [em1, el1, er1, em, eg, eG]; exact hC) (k2.bc q5) (by rw [em2, el2]; exact R1.fm cF cG) hA
    · rw [c2, xn_int (by omega)] at c1
      omega
  · rcases c2 with ⟨c2, -⟩ | ⟨n', c2, hn', f', o', ho', c2'⟩
    · rw [c1, xn_int (by omega)] at c2
      omega
    · have en : n = n' := xn_inj (by omega) (by omega) (c1.symm.trans c2)
      subst en
      have eo := lns_det ho ho'
      subst eo
      cases o with
      | inl e =>
        obtain ⟨-, -, -, c4, c4g, c4f⟩ := c1'
        obtain ⟨-, -, -, cF, cG⟩ := c2'
        refine lB_mk (h1 := h1) hPz hR hJ6 hnB ?_ (k2.bc q5) (by rw [em2, el2]; exact R1.fm cF cG) hA
        rw [em1, el1, er1, c4]
        refine hC.cs hR (fun a ha => c4f a ?_ (by omega)) c4g ⟨xgu_oth (by decide), xgu_oth (by decide), xgu_oth (by decide)⟩
        rcases ha with z | z | ⟨z1, z2⟩ | ⟨z1, z2⟩
        · exact pl_nRA hS x3 (by omega) (by omega)
        · exact pl_nRA hS x3 (by omega) (by omega)
        · have s := List.all_eq_true.mp csh_B.1 (a - 55) (List.mem_range.mpr (by omega))
          rw [show 55 + (a - 55) = a by omega] at s
          exact nRA hS hP (by omega) s
        · have s := List.all_eq_true.mp csh_B.2 (a - 116) (List.mem_range.mpr (by omega))
          rw [show 116 + (a - 116) = a by omega] at s
          exact nRA hS hP (by omega) s
      | inr q =>
        obtain ⟨-, -, -, c4, ⟨c41, c42, c43, c44, c45, c46, -, c47, c48, c49⟩, c4t⟩ := c1'
        obtain ⟨-, -, -, c5t, ⟨c51, c52, c53, -⟩, s1, s2, s3, s4, s5⟩ := c2'
        have T1 : (q.1.1 1).length ≤ 6 := c5t.1 1 (by decide)
        have T2 : (q.1.1 2).length ≤ 6 := c5t.1 2 (by decide)
        have b60 : ∀ r : List Int32, r ∈ q.1.1 3 → 0 ≤ (r.getD 1 0).toInt ∧ (r.getD 1 0).toInt ≤ 60 := by
          have c3 : ∀ w : Nat, w < 8 → tbC (P + 1 + 2 * w) (P + 2 + 2 * w) (cN w) (mN w) (q.1.1 w) (gi h1) := by rw [em1]; exact c4t
          exact tb3_b hJ2.1 hP (k2.tc hP (xkp_of hP q4) c3 3 (by decide))
        have eqb : ∀ j : Nat, j < (q.1.1 2).length → g1 57 j = g2 164 j := fun j hj => bl_ext (fun v hv => by
          rw [c49 j (by omega), tlF_bits hv _ _ (fun r hr => ⟨(b60 r hr).1, by have := (b60 r hr).2; omega⟩), bl_0, Bool.false_or, s5 j hj v hv])
        have hrow := row_at (m := m2) (g := g2)
        refine lB_mk (h1 := h1) (P := P) (R := (q.1.1 1).length) (J := (q.1.1 2).length) (n := 0) (E := fun _ => (0, 0, 0)) (rows := rowOf m2 g2) (kp := 0) (nt := 0) (L := m2 130 0) hP T1 T2 (by decide) ?_ (k2.bc q5) ?_ ⟨?_, Or.inl rfl, fun k hk => absurd hk (Nat.not_lt_zero k)⟩
        · rw [em1, el1, er1, c4]
          refine ⟨(xgu_oth (by decide)).trans ((xgu_oth (by decide)).trans xgu_same), xgu_same, c47.trans (c5t.2.2.2 0 (Or.inl rfl)).symm, ?_, c41, c45, c46, c44, ⟨c42.trans s1.symm, c43.trans s2.symm, fun p hp => ⟨?_, ?_⟩, fun j hj => ?_⟩, Or.inl rfl, fun k hk => absurd hk (Nat.not_lt_zero k)⟩
          · have z := (c4t 2 (by decide)).2.2.1
            rw [show P + 1 + 2 * 2 = P + 5 by omega] at z
            exact z
          · rw [hrow.2.2.2.1 p (by omega), s4 p hp]
            exact (c48 p hp).1
          · rw [hrow.2.2.1, s3, bj_0]
            exact (c48 p hp).2
          · rw [hrow.2.2.2.2 j (by omega)]
            exact eqb j hj
        · rw [em2, el2]
          exact ⟨rfl, c5t.2.1 1 (by decide) (by decide), c5t.2.1 2 (by decide) (by decide), c52, c53, c51, fun r _ => rfl⟩
        · intro j hj v v1 v2
          rw [hrow.2.2.2.2 j (by omega), s5 j hj v v2]
          exact tld_60 b60 v1 v2
