/-! undo, keep, back of both sides, between the passes. -/
theorem CP.pop {P R J n : Nat} {E : Nat → Int32 × Int32 × Int32} {w0 w3 w : rRow} {kp nt L : Int32} {m m' : xM} {g g' : xL} {q : Nat → Nat → Option Nat} (hP : P = 7 ∨ P = 31) (hR : R ≤ 6) (h : CP P R J (n + 1) E w0 w3 kp nt L m g q) (hm : ∀ c : Nat, ¬ c = 116 → c < 58 ∨ 70 ≤ c → m' c = m c) (h3 : m' 116 3 = Int32.ofNat n) (hg : g' 72 = g 72) (hl : CL R J m' g' 55 w) : CP P R J n E w w3 kp nt L m' g' q := by
  obtain ⟨c1, c2, c3, c4, c5, c6, c7, c8, c9, c10, c11⟩ := h
  refine ⟨c1, c2, by rw [hm P (by omega) (by omega)]; exact c3, by rw [hm (P + 5) (by omega) (by omega)]; exact c4, by rw [hm 55 (by decide) (by decide)]; exact c5, h3, by rw [hm 120 (by decide) (by decide)]; exact c7, by rw [hm 0 (by decide) (by decide)]; exact c8, hl, ?_, fun k hk => by rw [hm 117 (by decide) (by decide), hm 118 (by decide) (by decide), hm 119 (by decide) (by decide)]; exact c11 k (by omega)⟩
  rcases c10 with z | ⟨y1, y2, y3⟩
  · exact Or.inl z
  · exact Or.inr ⟨by rw [hm 70 (by decide) (by decide)]; exact y1, y2, y3.row hR (fun c d1 d2 => hm c (by omega) (by omega)) hg⟩
theorem RP.pop {R J n : Nat} {rows : Nat → rRow} {kp nt L : Int32} {m m' : xM} {g g' : xL} (h : RP R J (n + 1) rows kp nt L m g) (h54 : m' 128 54 = Int32.ofNat n) (hm : ∀ c : Nat, ¬ c = 128 → c < 150 ∨ 163 < c → m' c = m c) (hk : ∀ k : Nat, ¬ k = 0 → ¬ k = 54 → m' 128 k = m 128 k) (h0 : rowOf m' g' 0 = rowOf m g (4 + n)) (hr : ∀ q : Nat, ¬ q = 0 → rowOf m' g' q = rowOf m g q) : RP R J n (uR n rows) kp nt L m' g' := by
  obtain ⟨r1, r2, r3, r4, r5, r6, r7⟩ := h
  have e := hm 130 (by decide) (by decide)
  refine ⟨by rw [e]; exact r1, by rw [e]; exact r2, by rw [e]; exact r3, h54, (hk 67 (by decide) (by decide)).trans r5, (hk 53 (by decide) (by decide)).trans r6, fun r hq => ?_⟩
  unfold uR
  by_cases z : r = 0
  · rw [if_pos z, z, h0]
    exact r7 _ (by omega)
  · rw [if_neg z, hr r z]
    exact r7 r (by omega)
theorem uR0 {n : Nat} {rows : Nat → rRow} : uR n rows 0 = rows (4 + n) := if_pos rfl
theorem uR3 {n : Nat} {rows : Nat → rRow} : uR n rows 3 = rows 3 := if_neg (by decide)
theorem undo_pair {nf : Bool} {xs : List Int32} {d : Nat} {h h1 h2 : zH} {r1 r2 : Option Value} {M1 M2 : List aD} (hI : lInq h) (e1 : zEv (zXt nf xs) zIT zmcl zMt d 117 [.ref 0] h r1 h1) (e2 : zEv (zXt nf xs) zIT zmcl zMt d 257 [.ref 128] h1 r2 h2) (S1 : aSh qW h1) (k1 : KP M1 h h1) (k2 : KP M2 h1 h2) (q1 : xk M1 = true) (q2 : xk M2 = true) (q3 : kBR M1 = true) (q4 : kBC M2 = true) : r1 = r2 ∧ lQ h2 := by
  obtain ⟨hJ, hX, P, R, J, n, E, rows, kp, nt, L, hP, hR, hJ6, hn, hC, hRr, hA⟩ := hI
  have t1 := zEv_KT _ _ _ _ _ _ e1 hX.1
  have t2 := zEv_KT _ _ _ _ _ _ e2 t1
  have y1 := lX_keep hX t1 k1 q1
  have y2 := lX_keep y1 t2 k2 q2
  have x2 := hX.2.1.2.1
  have hr1 := y1.2.1.2.1
  have R1 := hRr.st hn (k1.br q3)
  rcases n with _ | n
  · obtain ⟨n1, g1, hs1, c1, c2, c3⟩ := ct_undoC0 (rf_of x2 (by decide +kernel)) hC.2.2.2.2.2.1 h r1 h1 (HS_of hX.1) e1
    obtain ⟨n2, g2, hs2, c4, c5⟩ := ct_undoR0 R1.2.2.2.1 h1 r2 h2 (HS_of t1) e2
    have em1 : gi h1 = gi h := hs1.2.1.trans c2
    have el1 : gl h1 = gl h := hs1.2.2.1.trans c3
    have er1 : gr h1 = gr h := hs1.2.2.2.1
    have em2 : gi h2 = n2 := hs2.2.1
    have el2 : gl h2 = g2 := hs2.2.2.1
    exact ⟨c1.trans c4.symm, y2, lB_mk (h1 := h1) hP hR hJ6 hn (by rw [em1, el1, er1]; exact hC) (k2.bc q4) (by rw [em2, el2]; exact R1.nw c5) hA⟩
  · have hn1 : n < 20 := by omega
    obtain ⟨hS, hA2⟩ := hA.undo
    have hE := hC.2.2.2.2.2.2.2.2.2.2 n (by omega)
    have hE1 : gi h 117 n = (E n).1 := congrArg (fun z => z.1) hE
    have hE2 : gi h 118 n = (E n).2.1 := congrArg (fun z => z.2.1) hE
    have hE3 : gi h 119 n = (E n).2.2 := congrArg (fun z => z.2.2) hE
    have hL := hC.2.2.2.2.2.2.2.2.1
    obtain ⟨n2, g2, hs2, v1, v2, v3, v4, v5, v6, v7⟩ := ct_undoR (n := n) (gw_of S1 hr1) hn1 R1.2.2.2.1 h1 r2 h2 (HS_of t1) e2
    have R2 := R1.pop v2 v3 v4 v6 v7
    have em2 : gi h2 = n2 := hs2.2.1
    have el2 : gl h2 = g2 := hs2.2.2.1
    have fin : CP P R J n E (rows (4 + n)) (rows 3) kp nt L (gi h1) (gl h1) (gr h1) → lB h2 := fun C => lB_mk (h1 := h1) (rows := uR n rows) hP hR hJ6 (by omega) (by rw [uR0, uR3]; exact C) (k2.bc q4) (by rw [em2, el2]; exact R2) hA2
    have h7 : gr h 0 7 = some 55 := rf_of x2 (by decide +kernel)
    have h13 : gr h 0 13 = some 116 := rf_of x2 (by decide +kernel)
    obtain ⟨s1, s2, s3⟩ := hS
    obtain ⟨l1, l2, l3, l4⟩ := hL
    rcases s3 with ⟨s4, p, hp, s5, s6, s7, s8⟩ | ⟨s4, p, hp, s5, s6, s7, s8⟩ | ⟨s4, j, hj, s5, u, hu, s6, s7, s8, s9⟩
    · obtain ⟨n1, g1, hs1, c1, c2, mp, c3, c4, c5⟩ := ct_undoC1 (p := p) (R := R) (n := n) h7 h13 (gq_of (Or.inl rfl) hJ.1.1 x2) (gu_of hJ.1.1 x2) hn1 hC.2.2.2.2.2.1 (hE1.trans s4) (hE2.trans s5) hC.2.2.2.2.1 hp hR h r1 h1 (HS_of hX.1) e1
      have em1 : gi h1 = n1 := hs1.2.1
      have el1 : gl h1 = gl h := hs1.2.2.1.trans c2
      have er1 : gr h1 = gr h := hs1.2.2.2.1
      refine ⟨c1.trans v1.symm, y2, fin ?_⟩
      rw [em1, el1, er1]
      refine hC.pop hP hR (fun c d1 d2 => by rw [c5, xu_row (by omega)]; exact c4 c d1) (by rw [c5, xu_row (by omega)]; exact c3) rfl ?_
      have f : n1 55 = gi h 55 := by rw [c5, xu_row (by omega)]; exact c4 55 (by decide)
      refine ⟨by rw [f, s1]; exact l1, by rw [f, s2]; exact l2, fun q hq => ?_, fun j hj => by rw [s7]; exact l4 j hj⟩
      have g0 : mp (55 + 3 + 2 * q) = gi h (55 + 3 + 2 * q) := c4 _ (by omega)
      rw [c5]
      refine ⟨by rw [xu_oth (by omega), g0, s6]; exact (l3 q hq).1, ?_⟩
      rw [s8 q hq]
      by_cases e : q = p
      · rw [if_pos e, e, xu_same, hE3]
        by_cases z : (E n).2.2 = 1
        · rw [if_pos z, decide_eq_true z]; rfl
        · rw [if_neg z, decide_eq_false z]; rfl
      · rw [if_neg e, xu_oth (by omega), g0]
        exact (l3 q hq).2
    · obtain ⟨n1, g1, hs1, c1, c2, mp, c3, c4, c5⟩ := ct_undoC2 (p := p) (R := R) (n := n) h7 h13 (gq_of (Or.inl rfl) hJ.1.1 x2) (gu_of hJ.1.1 x2) hn1 hC.2.2.2.2.2.1 (hE1.trans s4) (hE2.trans s5) hC.2.2.2.2.1 hp hR h r1 h1 (HS_of hX.1) e1
      have em1 : gi h1 = n1 := hs1.2.1
      have el1 : gl h1 = gl h := hs1.2.2.1.trans c2
      have er1 : gr h1 = gr h := hs1.2.2.2.1
      refine ⟨c1.trans v1.symm, y2, fin ?_⟩
      rw [em1, el1, er1]
      refine hC.pop hP hR (fun c d1 d2 => by rw [c5, xu_row (by omega)]; exact c4 c d1) (by rw [c5, xu_row (by omega)]; exact c3) rfl ?_
      have f : n1 55 = gi h 55 := by rw [c5, xu_row (by omega)]; exact c4 55 (by decide)
      refine ⟨by rw [f, s1]; exact l1, by rw [f, s2]; exact l2, fun q hq => ?_, fun j hj => by rw [s7]; exact l4 j hj⟩
      have g0 : mp (55 + 3 + 2 * q) = gi h (55 + 3 + 2 * q) := c4 _ (by omega)
      rw [c5]
      refine ⟨?_, by rw [xu_oth (by omega), g0, s6]; exact (l3 q hq).2⟩
      rw [s8]
      show _ = if q = p then (E n).2.2 else (rows 0).2.2.2.1 q
      by_cases e : q = p
      · rw [if_pos e, e, xu_same, hE3]
      · rw [if_neg e, xu_oth (by omega), g0]
        exact (l3 q hq).1
    · have hP2 : gr h P 2 = some (P + 5) := by
        rcases hP with rfl | rfl
        · exact rf_of x2 (by decide +kernel)
        · exact rf_of x2 (by decide +kernel)
      obtain ⟨n1, g1, hs1, c1, c2, c3, c4⟩ := ct_undoC3 (P := P) (j := j) (v := u) (J := J) (n := n) h7 h13 (gq_of (Or.inl rfl) hJ.1.1 x2) (gu_of hJ.1.1 x2) hn1 hC.2.2.2.2.2.1 (hE1.trans s4) hC.1 hP2 (by omega) (hE2.trans s5) (hE3.trans s6) hC.2.2.2.1 hj hJ6 hu h r1 h1 (HS_of hX.1) e1
      have em1 : gi h1 = n1 := hs1.2.1
      have el1 : gl h1 = g1 := hs1.2.2.1
      have er1 : gr h1 = gr h := hs1.2.2.2.1
      refine ⟨c1.trans v1.symm, y2, fin ?_⟩
      rw [em1, el1, er1]
      refine hC.pop hP hR (fun c d1 _ => c4 c d1) c3 (by rw [c2]; exact xu_row (by decide)) ?_
      have l5 : gl h 57 j = (rows 0).2.2.2.2 j := l4 j hj
      refine ⟨by rw [c4 55 (by decide), s1]; exact l1, by rw [c4 55 (by decide), s2]; exact l2, fun q hq => by rw [c4 (55 + 3 + 2 * q) (by omega), s7, s8]; exact l3 q hq, fun q hq => ?_⟩
      rw [s9]
      show g1 57 q = if q = j then flB (Int32.ofNat u) ((rows 0).2.2.2.2 q) else (rows 0).2.2.2.2 q
      rw [c2]
      by_cases e : q = j
      · rw [if_pos e, e, xu_same, l5]
      · rw [if_neg e, xu_oth (by omega)]
        exact l4 q hq
/-- keep: the image is the row that now is -/
def kR (rows : Nat → rRow) (r : Nat) : rRow := if r = 3 then rows 0 else rows r
theorem keep_pairB {nf : Bool} {xs : List Int32} {d : Nat} {h h1 h2 : zH} {r1 r2 : Option Value} {M1 M2 : List aD} (hI : lInq h) (e1 : zEv (zXt nf xs) zIT zmcl zMt d 118 [.ref 0] h r1 h1) (e2 : zEv (zXt nf xs) zIT zmcl zMt d 258 [.ref 128] h1 r2 h2) (S1 : aSh qW h1) (k1 : KP M1 h h1) (k2 : KP M2 h1 h2) (q1 : xk M1 = true) (q2 : xk M2 = true) (q3 : kBR M1 = true) (q4 : kBC M2 = true) : r1 = r2 ∧ lQ h2 := by
  obtain ⟨hJ, hX, P, R, J, n, E, rows, kp, nt, L, hP, hR, hJ6, hn, hC, hRr, hA⟩ := hI
  have t1 := zEv_KT _ _ _ _ _ _ e1 hX.1
  have t2 := zEv_KT _ _ _ _ _ _ e2 t1
  have y1 := lX_keep hX t1 k1 q1
  have y2 := lX_keep y1 t2 k2 q2
  have x2 := hX.2.1.2.1
  have hr1 := y1.2.1.2.1
  have R1 := hRr.st hn (k1.br q3)
  obtain ⟨c1, c2, c3, c4, c5, c6, c7, c8, c9, c10, c11⟩ := hC
  obtain ⟨n1, g1, G1, hs1, a1, a2, m1, ⟨a3, a4, a5, a6, a7⟩, a8⟩ := cg_keep (n := R) (x := P) (rf_of x2 (by decide +kernel)) (rf_of x2 (by decide +kernel)) (gq_of (Or.inl rfl) hJ.1.1 x2) (gq_of (Or.inr rfl) hJ.1.1 x2) hR c5 c2 h r1 h1 (HS_of hX.1) e1
  obtain ⟨n2, g2, hs2, v1, v2, v3, v4, v5, v6, v7⟩ := ct_keepR (gw_of S1 hr1) h1 r2 h2 (HS_of t1) e2
  have em1 : gi h1 = n1 := hs1.2.1
  have el1 : gl h1 = g1 := hs1.2.2.1
  have er1 : gr h1 = (xgu (gr h, gs h) 70 2 P).1 := by rw [← a2]; exact hs1.2.2.2.1
  have em2 : gi h2 = n2 := hs2.2.1
  have el2 : gl h2 = g2 := hs2.2.2.1
  have f : ∀ c : Nat, ¬ c = 0 → c < 70 ∨ 85 ≤ c → n1 c = gi h c := fun c d1 d2 => by rw [a8, xu_row d1]; exact a3 c (by omega)
  have f70 : ∀ c : Nat, 70 ≤ c → n1 c = m1 c := fun c d1 => by rw [a8]; exact xu_row (by omega)
  have C1 : CP P R J n E (rows 0) (rows 0) 1 nt L n1 g1 (xgu (gr h, gs h) 70 2 P).1 := by
    refine ⟨(xgu_oth (by omega)).trans c1, (xgu_oth (by omega)).trans c2, by rw [f P (by omega) (by omega)]; exact c3, by rw [f (P + 5) (by omega) (by omega)]; exact c4, by rw [f 55 (by decide) (by decide)]; exact c5, by rw [f 116 (by decide) (by decide)]; exact c6, by rw [f 120 (by decide) (by decide)]; exact c7, by rw [a8]; exact xu_same, c9.row hR (fun c d1 d2 => f c (by omega) (by omega)) (a6 57 (by decide)), Or.inr ⟨?_, xgu_same, ?_, ?_, fun p hp => ?_, fun j hj => ?_⟩, fun k hk => by rw [f 117 (by decide) (by decide), f 118 (by decide) (by decide), f 119 (by decide) (by decide)]; exact c11 k hk⟩
    · rw [f70 70 (by decide), a4 3 (by decide) (by decide)]; exact c5
    · rw [f70 70 (by decide), a4 4 (by decide) (by decide)]; exact c9.1
    · rw [f70 70 (by decide), a4 5 (by decide) (by decide)]; exact c9.2.1
    · rw [f70 (70 + 3 + 2 * p) (by omega), a5 p hp 2 (by decide), a5 p hp 4 (by decide)]; exact c9.2.2.1 p hp
    · rw [a7 j (by omega)]; exact c9.2.2.2 j hj
  have w0 : (gi h1 150 0) = (rows 0).1 := congrArg (fun w => w.1) (R1.2.2.2.2.2.2 0 (Or.inl rfl))
  have R2 : RP R J n (kR rows) 1 nt L n2 g2 := by
    obtain ⟨r1', r2', r3', r4', r5', r6', r7'⟩ := R1
    have e := v2 130 (by decide) (by decide)
    refine ⟨by rw [e]; exact r1', by rw [e]; exact r2', by rw [e]; exact r3', (v3 54 (by decide) (by decide)).trans r4', (v3 67 (by decide) (by decide)).trans r5', v5, fun r hq => ?_⟩
    unfold kR
    by_cases z : r = 3
    · rw [if_pos z, z, v6]
      exact r7' 0 (Or.inl rfl)
    · rw [if_neg z, v7 r z]
      exact r7' r hq
  have A2 : AB R J n E (kR rows) 1 := by
    have e0 : kR rows 0 = rows 0 := if_neg (by decide)
    refine ⟨by rw [e0]; exact hA.1, Or.inr (by rw [show kR rows 3 = rows 0 from if_pos rfl]; exact hA.1), fun k hk => ?_⟩
    rw [show kR rows (4 + k) = rows (4 + k) from if_neg (by omega)]
    by_cases z : k + 1 < n
    · have s := hA.2.2 k hk
      rw [if_pos z] at s ⊢
      rw [show kR rows (4 + (k + 1)) = rows (4 + (k + 1)) from if_neg (by omega)]
      exact s
    · have s := hA.2.2 k hk
      rw [if_neg z] at s ⊢
      rw [e0]
      exact s
  refine ⟨by rw [a1, v1, w0, c9.1], y2, lB_mk (h1 := h1) (rows := kR rows) hP hR hJ6 hn ?_ (k2.bc q4) (by rw [em2, el2]; exact R2) A2⟩
  rw [em1, el1, er1, show kR rows 0 = rows 0 from if_neg (by decide), show kR rows 3 = rows 0 from if_pos rfl]
  exact C1
/-- back: the row that now is is the image -/
def bR (rows : Nat → rRow) (r : Nat) : rRow := if r = 0 then rows 3 else rows r
theorem back_pairB {nf : Bool} {xs : List Int32} {d : Nat} {h h1 h2 : zH} {r1 r2 : Option Value} {M1 M2 : List aD} (hI : lInq h) (e1 : zEv (zXt nf xs) zIT zmcl zMt d 119 [.ref 0] h r1 h1) (e2 : zEv (zXt nf xs) zIT zmcl zMt d 259 [.ref 128] h1 r2 h2) (S1 : aSh qW h1) (k1 : KP M1 h h1) (k2 : KP M2 h1 h2) (q1 : xk M1 = true) (q2 : xk M2 = true) (q3 : kBR M1 = true) (q4 : kBC M2 = true) : r1 = r2 ∧ lQ h2 := by
  obtain ⟨hJ, hX, P, R, J, n, E, rows, kp, nt, L, hP, hR, hJ6, hn, hC, hRr, hA⟩ := hI
  have t1 := zEv_KT _ _ _ _ _ _ e1 hX.1
  have t2 := zEv_KT _ _ _ _ _ _ e2 t1
  have y1 := lX_keep hX t1 k1 q1
  have y2 := lX_keep y1 t2 k2 q2
  have x2 := hX.2.1.2.1
  have hr1 := y1.2.1.2.1
  have R1 := hRr.st hn (k1.br q3)
  have hC0 := hC
  obtain ⟨c1, c2, c3, c4, c5, c6, c7, c8, c9, c10, c11⟩ := hC
  obtain ⟨i, hi, i3⟩ := nv_of (a := 70) (k := 3) (n := 6) hJ.1 (by decide +kernel) (by decide +kernel)
  obtain ⟨x, hx⟩ := rv_of (a := 70) (k := 2) (s := 7) (s' := 7) hJ.1 (by decide +kernel) (by decide +kernel)
  obtain ⟨n1, g1, G1, hs1, o1⟩ := cg_back (n := i) (x := x) (rf_of x2 (by decide +kernel)) (rf_of x2 (by decide +kernel)) (rf_of x2 (by decide +kernel)) (gq_of (Or.inl rfl) hJ.1.1 x2) (gq_of (Or.inr rfl) hJ.1.1 x2) hi i3 (gr_of hx) h r1 h1 (HS_of hX.1) e1
  obtain ⟨n2, g2, hs2, o2⟩ := ct_backR (gw_of S1 hr1) h1 r2 h2 (HS_of t1) e2
  have em1 : gi h1 = n1 := hs1.2.1
  have el1 : gl h1 = g1 := hs1.2.2.1
  have er1 : gr h1 = G1.1 := hs1.2.2.2.1
  have em2 : gi h2 = n2 := hs2.2.1
  have el2 : gl h2 = g2 := hs2.2.2.1
  have ek : gi h1 128 53 = kp := R1.2.2.2.2.2.1
  rcases o1 with ⟨a0, a1, a2, a3, a4⟩ | ⟨a0, a1, a2, m1, ⟨a3, a4, a5, a6, a7⟩, a8⟩
  · rcases o2 with ⟨b0, b1, b2, b3, b4⟩ | ⟨b0, -⟩
    · exact ⟨a1.trans b1.symm, y2, lB_mk (h1 := h1) hP hR hJ6 hn (by rw [em1, el1, er1, a2, a3, a4]; exact hC0) (k2.bc q4) (by rw [em2, el2]; exact R1.nw ⟨b2, b3, b4⟩) hA⟩
    · exact absurd (ek.trans (c8.symm.trans a0)) b0
  · rcases o2 with ⟨b0, -⟩ | ⟨b0, b1, b2, b3, b4, b5, b6, b7⟩
    · exact absurd (c8.trans (ek.symm.trans b0)) a0
    · rcases c10 with z | ⟨z1, z2, z3⟩
      · exact absurd (c8.trans z) a0
      · have ei : i = R := xn_inj (by omega) (by omega) (i3.symm.trans z1)
        have ex : x = P := by
          have := (gr_of hx).symm.trans z2
          cases this
          rfl
        subst ei
        subst ex
        have f : ∀ c : Nat, ¬ c = 116 → c < 55 ∨ 70 ≤ c → n1 c = gi h c := fun c d1 d2 => by rw [a8, xu_row d1]; exact a3 c (by omega)
        have f55 : ∀ c : Nat, c < 116 → n1 c = m1 c := fun c d1 => by rw [a8]; exact xu_row (by omega)
        have C1 : CP x i J 0 E (rows 3) (rows 3) kp nt L n1 g1 (xgu (gr h, gs h) 55 2 x).1 := by
          refine ⟨(xgu_oth (by omega)).trans c1, xgu_same, by rw [f x (by omega) (by omega)]; exact c3, by rw [f (x + 5) (by omega) (by omega)]; exact c4, ?_, by rw [a8]; exact xu_same, by rw [f 120 (by decide) (by decide)]; exact c7, by rw [f 0 (by decide) (by decide)]; exact c8, ⟨?_, ?_, fun p hp => ?_, fun j hj => ?_⟩, Or.inr ⟨by rw [f 70 (by decide) (by decide)]; exact z1, (xgu_oth (by omega)).trans z2, z3.row hR (fun c d1 d2 => f c (by omega) (by omega)) (a6 72 (by decide))⟩, fun k hk => absurd hk (Nat.not_lt_zero k)⟩
          · rw [f55 55 (by decide), a4 3 (by decide) (by decide)]; exact z1
          · rw [f55 55 (by decide), a4 4 (by decide) (by decide)]; exact z3.1
          · rw [f55 55 (by decide), a4 5 (by decide) (by decide)]; exact z3.2.1
          · rw [f55 (55 + 3 + 2 * p) (by omega), a5 p hp 2 (by decide), a5 p hp 4 (by decide)]; exact z3.2.2.1 p hp
          · rw [a7 j (by omega)]; exact z3.2.2.2 j hj
        have w3 : gi h1 150 3 = (rows 3).1 := congrArg (fun w => w.1) (R1.2.2.2.2.2.2 3 (Or.inr (Or.inl rfl)))
        have R2 : RP i J 0 (bR rows) kp nt L n2 g2 := by
          obtain ⟨r1', r2', r3', r4', r5', r6', r7'⟩ := R1
          have e := b2 130 (by decide) (by decide)
          refine ⟨by rw [e]; exact r1', by rw [e]; exact r2', by rw [e]; exact r3', b5, (b3 67 (by decide) (by decide)).trans r5', (b3 53 (by decide) (by decide)).trans r6', fun r hq => ?_⟩
          unfold bR
          by_cases z : r = 0
          · rw [if_pos z, z, b6]
            exact r7' 3 (Or.inr (Or.inl rfl))
          · rw [if_neg z, b7 r z]
            exact r7' r (by omega)
        have h3 : HB J (rows 3) := by
          rcases hA.2.1 with z | z
          · exact absurd (c8.trans z) a0
          · exact z
        have A2 : AB i J 0 E (bR rows) kp := ⟨by rw [show bR rows 0 = rows 3 from if_pos rfl]; exact h3, Or.inr (by rw [show bR rows 3 = rows 3 from if_neg (by decide)]; exact h3), fun k hk => absurd hk (Nat.not_lt_zero k)⟩
        refine ⟨by rw [a1, b1, w3, z3.1], y2, lB_mk (h1 := h1) (rows := bR rows) hP hR hJ6 (by decide) ?_ (k2.bc q4) (by rw [em2, el2]; exact R2) A2⟩
        rw [em1, el1, er1, a2, show bR rows 0 = rows 3 from if_pos rfl, show bR rows 3 = rows 3 from if_neg (by decide)]
        exact C1
