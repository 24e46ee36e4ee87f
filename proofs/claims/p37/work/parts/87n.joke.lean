/-! joke of both sides, between the passes. -/
theorem JK_eq {x y : Int32} {J : Nat} {a b c a' b' c' : Nat → Int32} {r1 r2 : Option Value} (hJ : J ≤ 6) (hw : ∀ j : Nat, j < J → a j = a' j ∧ b j = b' j ∧ c j = c' j) (h1 : JK x y J a b c r1) (h2 : JK x y J a' b' c' r2) : r1 = r2 := by
  rcases h1 with ⟨a1, a2⟩ | ⟨j, hj, a1, a2⟩
  · rcases h2 with ⟨-, b2⟩ | ⟨j, hj, b1, -⟩
    · exact a2.trans b2.symm
    · rw [b1, rdV_1 hj hJ] at a1
      exact absurd a1 (by decide)
  · rcases h2 with ⟨b1, -⟩ | ⟨j', hj', b1, b2⟩
    · rw [a1, rdV_1 hj hJ] at b1
      exact absurd b1 (by decide)
    · have ej : j' = j := xn_inj (by omega) (by omega) (b1.symm.trans a1)
      obtain ⟨z1, z2, z3⟩ := hw j hj
      rw [a2, b2, ej, z1, z2, z3]
theorem joke_pair {nf : Bool} {xs : List Int32} {d : Nat} {h h1 h2 : zH} {r1 r2 : Option Value} {x y : Int32} {M1 : List aD} (hI : lInq h) (e1 : zEv (zXt nf xs) zIT zmcl zMt d 108 [.ref 0, .int x, .int y] h r1 h1) (e2 : zEv (zXt nf xs) zIT zmcl zMt d 219 [.ref 128, .int x, .int y] h1 r2 h2) (S1 : aSh qW h1) (k1 : KP M1 h h1) (q1 : xk M1 = true) (q3 : kBR M1 = true) : r1 = r2 := by
  obtain ⟨hJ, hX, P, R, J, n, E, rows, kp, nt, L, hP, hR, hJ6, hn, hC, hRr, hA⟩ := hI
  have t1 := zEv_KT _ _ _ _ _ _ e1 hX.1
  have y1 := lX_keep hX t1 k1 q1
  have x2 := hX.2.1.2.1
  have hr1 := y1.2.1.2.1
  have R1 := hRr.st hn (k1.br q3)
  have hL := hC.2.2.2.2.2.2.2.2.1
  obtain ⟨-, Pz, T, -, y5, yc, yr⟩ := hX.2.2
  have yr1 : TB T (gi h1) := yr.of (k1.fm (xkr_of q1))
  have hPP : P = Pz := by
    have := hC.1.symm.trans (gr_of y5)
    cases this
    rfl
  subst hPP
  have hP2 : gr h P 2 = some (P + 5) ∧ gr h (P + 5) 2 = some (P + 6) ∧ gs h (P + 6) = (0, 1, 18) := by
    rcases hP with rfl | rfl
    · exact ⟨rf_of x2 (by decide +kernel), rf_of x2 (by decide +kernel), gsR hJ.1.1 (by decide +kernel)⟩
    · exact ⟨rf_of x2 (by decide +kernel), rf_of x2 (by decide +kernel), gsR hJ.1.1 (by decide +kernel)⟩
  have tb := yc 2 (by decide)
  rw [show P + 1 + 2 * 2 = P + 5 by omega, show P + 2 + 2 * 2 = P + 6 by omega] at tb
  obtain ⟨b0, b1, b2, b3, b4⟩ := tb
  have b3 : (T 2).length ≤ 6 := b3
  have eJ : J = (T 2).length := xn_inj (by omega) (by omega) (hC.2.2.2.1.symm.trans b2)
  have gz : GW (gr h1, gs h1) := gw_of S1 hr1
  have gt := gt_of S1 hr1
  obtain ⟨n1, g1, hs1, c1, -, -⟩ := ct_jokeC (J := J) (rf_of x2 (by decide +kernel)) hC.1 hP2.1 (gq_of (Or.inl rfl) hJ.1.1 x2) hP2.2.1 hP2.2.2 b0 b1 hC.2.2.2.1 hJ6 h r1 h1 (HS_of hX.1) e1
  obtain ⟨n2, g2, hs2, c2, -⟩ := ct_jokeR (J := J) gz (rf_of hr1 (by decide +kernel)) (gsR S1 (by decide +kernel)) (rf_of hr1 (by decide +kernel)) (rf_of hr1 (by decide +kernel)) (gsR (t := 0) (kd := 1) (n := 12) S1 (by decide +kernel)) (gsR (t := 0) (kd := 1) (n := 12) S1 (by decide +kernel)) R1.2.2.1 hJ6 h1 r2 h2 (HS_of t1) e2
  refine JK_eq hJ6 (fun j hj => ⟨?_, ?_, ?_⟩) c1 c2
  · have a : gi h (P + 6) (j * 3 + 1) = ((T 2).getD j []).getD 1 0 := b4 j (by omega) 1 (by decide)
    have b : gi h1 137 j = ((T 2).getD j []).getD 1 0 := yr1.2.2.1 2 (Or.inr (Or.inl rfl)) j (by omega) 1 (by decide)
    exact a.trans b.symm
  · have a : gi h (P + 6) (j * 3 + 2) = ((T 2).getD j []).getD 2 0 := b4 j (by omega) 2 (by decide)
    have b : gi h1 138 j = ((T 2).getD j []).getD 2 0 := yr1.2.2.1 2 (Or.inr (Or.inl rfl)) j (by omega) 2 (by decide)
    exact a.trans b.symm
  · have a : gl h 57 j = (rows 0).2.2.2.2 j := hL.2.2.2 j hj
    have b : gl h1 164 j = (rows 0).2.2.2.2 j := by
      rw [← R1.2.2.2.2.2.2 0 (Or.inl rfl)]
      exact (row_at.2.2.2.2 j (by omega)).symm
    show SW (gl h 57 j) = Int32.ofNat (ctN (uN (gl h1 164 j)) 62)
    rw [SW_ok, a, b, ct_62 (hA.1 j hj)]
