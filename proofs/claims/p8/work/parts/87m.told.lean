/-! told of both sides, between the passes. -/
theorem TLD_eq {x y : Int32} {J : Nat} {w1 w2 : Nat → Int64} {r1 r2 : Option Value} (hJ : J ≤ 6) (hw : ∀ j : Nat, j < J → w1 j = w2 j) (h1 : TLD x y J w1 r1) (h2 : TLD x y J w2 r2) : r1 = r2 := by
  rcases h1 with ⟨a1, a2⟩ | ⟨j, hj, a1, v, hv, a2, a3⟩
  · rcases h2 with ⟨-, b2⟩ | ⟨j, hj, b1, v, hv, b2, -⟩
    · exact a2.trans b2.symm
    · rcases a1 with a1 | a1
      · rw [b1, rdV_1 hj hJ] at a1
        exact absurd a1 (by decide)
      · rw [b2, mlV_1 hv] at a1
        exact absurd a1 (by decide)
  · rcases h2 with ⟨b1, -⟩ | ⟨j', hj', b1, v', hv', b2, b3⟩
    · rcases b1 with b1 | b1
      · rw [a1, rdV_1 hj hJ] at b1
        exact absurd b1 (by decide)
      · rw [a2, mlV_1 hv] at b1
        exact absurd b1 (by decide)
    · have ej : j' = j := xn_inj (by omega) (by omega) (b1.symm.trans a1)
      have ev : v' = v := xn_inj (by omega) (by omega) (b2.symm.trans a2)
      rw [a3, b3, ej, ev, hw j hj]
theorem told_pair {nf : Bool} {xs : List Int32} {d : Nat} {h h1 h2 : zH} {r1 r2 : Option Value} {x y : Int32} {M1 : List aD} (hI : lInq h) (e1 : zEv (zXt nf xs) zIT zmcl zMt d 110 [.ref 0, .int x, .int y] h r1 h1) (e2 : zEv (zXt nf xs) zIT zmcl zMt d 221 [.ref 128, .int x, .int y] h1 r2 h2) (S1 : aSh qW h1) (k1 : KP M1 h h1) (q1 : xk M1 = true) (q3 : kBR M1 = true) : r1 = r2 := by
  obtain ⟨hJ, hX, P, R, J, n, E, rows, kp, nt, L, hP, hR, hJ6, hn, hC, hRr, hA⟩ := hI
  have t1 := zEv_KT _ _ _ _ _ _ e1 hX.1
  have y1 := lX_keep hX t1 k1 q1
  have x2 := hX.2.1.2.1
  have hr1 := y1.2.1.2.1
  have R1 := hRr.st hn (k1.br q3)
  have hL := hC.2.2.2.2.2.2.2.2.1
  have hP2 : gr h P 2 = some (P + 5) := by
    rcases hP with rfl | rfl
    · exact rf_of x2 (by decide +kernel)
    · exact rf_of x2 (by decide +kernel)
  obtain ⟨n1, g1, hs1, c1, -, -⟩ := ct_toldC (J := J) (rf_of x2 (by decide +kernel)) hC.1 hP2 (gq_of (Or.inl rfl) hJ.1.1 x2) hC.2.2.2.1 hJ6 h r1 h1 (HS_of hX.1) e1
  obtain ⟨n2, g2, hs2, c2, -⟩ := ct_toldR (J := J) (gw_of S1 hr1) (rf_of hr1 (by decide +kernel)) (gsR S1 (by decide +kernel)) R1.2.2.1 hJ6 h1 r2 h2 (HS_of t1) e2
  refine TLD_eq hJ6 (fun j hj => ?_) c1 c2
  have a : gl h 57 j = (rows 0).2.2.2.2 j := hL.2.2.2 j hj
  have b : gl h1 164 j = (rows 0).2.2.2.2 j := by
    rw [← R1.2.2.2.2.2.2 0 (Or.inl rfl)]
    exact (row_at.2.2.2.2 j (by omega)).symm
  exact a.trans b.symm
theorem lnz01 (x : Int32) : lnz x = 0 ∨ lnz x = 1 := by
  unfold lnz
  by_cases e : x = 0
  · rw [if_pos e]; exact Or.inl rfl
  · rw [if_neg e]; exact Or.inr rfl
