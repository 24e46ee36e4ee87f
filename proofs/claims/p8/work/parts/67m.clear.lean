/-! References that are written; the class Reader: a whole text. -/
def xgu (G : xG) (a k x : Nat) : xG := (fun b j => if b = a ∧ j = k then some x else G.1 b j, G.2)
theorem xvk3 {v : Value} (h : xvk v = 3) : xi (some v) = 0 ∧ xl (some v) = 0 := by
  cases v <;> first | exact ⟨rfl, rfl⟩ | (exact absurd h (by simp [xvk]))
theorem xset_ref {h : zH} {m : xM} {g : xL} {G : xG} {a t k x : Nat} {fs : List Value} (hs : HS h m g G) (h0 : h[a]? = some (t, .inr (.inr (.inr fs)))) (hk : k < fs.length) (ht : xty (ztyT t k) = 3) : HS (h.set a (t, .inr (.inr (.inr (fs.set k (.ref x)))))) m g (xgu G a k x) := by
  obtain ⟨k1, k2, k3, k4, k5⟩ := hs
  obtain ⟨y, hy, hy3⟩ : ∃ y : Value, fs[k]? = some y ∧ xvk y = 3 := by
    have q := List.getElem?_eq_getElem hk
    exact ⟨_, q, (k1 a t fs k _ h0 q).trans ht⟩
  have rda : ∀ j, rd h a j = fs[j]? := fun j => by unfold rd; rw [h0]
  have rdn : ∀ b j, rd (h.set a (t, .inr (.inr (.inr (fs.set k (.ref x)))))) b j = if b = a ∧ j = k then some (.ref x) else rd h b j := by
    intro b j
    rw [rd_set h0]
    by_cases hb : b = a
    · subst hb
      rw [if_pos rfl]
      show (fs.set k (.ref x))[j]? = _
      by_cases hj : j = k
      · subst hj
        rw [if_pos ⟨rfl, rfl⟩, List.getElem?_set_self hk]
      · rw [if_neg (fun q => hj q.2), List.getElem?_set_ne (fun q => hj q.symm), rda]
    · rw [if_neg hb, if_neg (fun q => hb q.1)]
  refine ⟨?_, ?_, ?_, ?_, ?_⟩
  · intro b t2 fs2 j v hb hv
    rw [xget_set h0] at hb
    split at hb
    · cases hb
      by_cases hj : j = k
      · subst hj
        rw [List.getElem?_set_self hk] at hv
        cases hv
        exact ht.symm
      · rw [List.getElem?_set_ne (fun q => hj q.symm)] at hv
        exact k1 _ _ _ _ _ h0 hv
    · exact k1 _ _ _ _ _ hb hv
  · rw [← k2]
    funext b j
    show xi (rd _ b j) = xi (rd h b j)
    rw [rdn]
    split
    · next q => rw [q.1, q.2, rda, hy, (xvk3 hy3).1]; rfl
    · rfl
  · rw [← k3]
    funext b j
    show xl (rd _ b j) = xl (rd h b j)
    rw [rdn]
    split
    · next q => rw [q.1, q.2, rda, hy, (xvk3 hy3).2]; rfl
    · rfl
  · funext b j
    show xr (rd _ b j) = (if b = a ∧ j = k then some x else G.1 b j)
    rw [rdn]
    split
    · rfl
    · rw [← k4]; rfl
  · show gs _ = G.2
    rw [← k5]
    funext b
    show xsh _ = xsh _
    rw [xget_set h0]
    split
    · next q => subst q; rw [h0]; show (t, 0, _) = (t, 0, _); rw [List.length_set]
    · rfl
section XI
variable {nf : Bool} {xs : List Int32} {d c : Nat} {ini : Bool} {nL : Nat} {rt : Option FieldType} {tab : Nat → Option (Instr × Nat)} {G G' : xG} {r : Option Value} {h' : zH} {pc pc' len q : Nat} {ls ls' : zL} {st : List Value} {m m1 : xM} {g g1 : xL} {N : Nat} {off : Int} {x y : Int32}
theorem RR.putr {j a ci k x : Nat} (hr : RR nf xs d c ini nL rt tab G r h' N (pc, ls, .ref x :: .ref a :: st, m, g)) (t : xtf tab c pc pc' (.putfield j) j ci k 3) : RR nf xs d c ini nL rt tab (xgu G a k x) r h' N (pc', ls, st, m, g) := by
  obtain ⟨t, rfl, e, ty⟩ := t
  obtain ⟨n, hn, h, hs, q2⟩ := hr
  obtain ⟨n', p1, l1, s1, k1, en, z, q⟩ := zinv t rfl rfl rfl q2
  have e' : zfld (zXt nf xs) c j = some (ci, k) := e
  simp only [zstep, zstI, zstL, zstH, e'] at z
  split at z
  · next q1 q2 hh =>
    cases q2
    split at z
    · next qq =>
      obtain ⟨q3, q4, q5⟩ := qq
      subst q3
      cases z
      exact ⟨n', by omega, _, xset_ref hs hh q4 ty, q⟩
    · cases z
  · cases z
/-- what a method does that writes references -/
def CG (nf : Bool) (xs : List Int32) (d mi : Nat) (as : List Value) (m : xM) (g : xL) (G : xG) (P : Option Value → xM → xL → xG → Prop) : Prop := ∀ (h : zH) (r : Option Value) (h' : zH), HS h m g G → zEv (zXt nf xs) zIT zmcl zMt d mi as h r h' → ∃ (m' : xM) (g' : xL) (G' : xG), HS h' m' g' G' ∧ P r m' g' G'
theorem CG.of {mi : Nat} {as : List Value} {P : Option Value → xM → xL → xG → Prop} (mt : zMt mi = some (c, ini, nL, rt, tab)) (hb : ∀ (d' : Nat) (r : Option Value) (h' : zH) (N : Nat), d = d' + 1 → RR nf xs d' c ini nL rt tab G r h' N (0, lv_args 0 as, [], m, g) → ∃ (m' : xM) (g' : xL) (G' : xG), HS h' m' g' G' ∧ P r m' g' G') : CG nf xs d mi as m g G P := by
  intro h r h' hs q
  cases d with
  | zero => exact q.elim
  | succ d =>
    obtain ⟨c1, ini1, nL1, rt1, tab1, n, e, -, q⟩ := q
    rw [mt] at e
    cases e
    exact hb d r h' (n + 1) rfl ⟨n, by omega, h, hs, q⟩
theorem RR.callvG {j mi n b : Nat} {vs rest : List Value} {P : Option Value → xM → xL → xG → Prop} (hr : RR nf xs d c ini nL rt tab G r h' N (pc, ls, st, m, g)) (t : xtc tab c pc pc' (.invokevirtual j) j 1 mi n) (e1 : st.drop n = .ref b :: rest) (e2 : (st.take n).reverse = vs) (hc : CG nf xs d mi (.ref b :: vs) m g G P) : ∃ (r1 : Option Value) (m1 : xM) (g1 : xL) (G1 : xG), P r1 m1 g1 G1 ∧ RR nf xs d c ini nL rt tab G1 r h' N (pc', ls, r1.toList ++ rest, m1, g1) := by
  obtain ⟨t, rfl, e⟩ := t
  obtain ⟨n0, hn, h, hs, q2⟩ := hr
  obtain ⟨n', mi', as, rest', r1, k1, en, z, q3, q⟩ := zinvC t rfl rfl rfl q2
  simp only [zcall, e, e1, e2] at z
  split at z
  · split at z
    · cases z
      obtain ⟨m1, g1, G1, k2, k3⟩ := hc h r1 k1 hs q3
      exact ⟨r1, m1, g1, G1, k3, n', by omega, k1, k2, q⟩
    · cases z
  · cases z
end XI
theorem xgu_oth {G : xG} {a k x b j : Nat} (h : ¬ (b = a ∧ j = k)) : (xgu G a k x).1 b j = G.1 b j := if_neg h
def LK (G : xG) (P : Nat) : Prop := G.1 P 8 = some (P + 17) ∧ G.1 (P + 17) 2 = some (P + 20) ∧ G.1 (P + 17) 3 = some (P + 21)
theorem ct_lclear {nf : Bool} {xs : List Int32} {d : Nat} {m : xM} {g : xL} {G : xG} {P : Nat} (hL : LK G P) : CT nf xs d 1 [.ref (P + 17)] m g G (PF none g (fun m' => m' (P + 17) 4 = 0 ∧ (∀ k : Nat, k < 3 → m' (P + 21) k = -1) ∧ ∀ a : Nat, ¬ a = P + 17 → ¬ a = P + 20 → ¬ a = P + 21 → m' a = m a)) := by
  refine CT.of (c := 0) (ini := false) (nL := 2) (rt := none) (tab := zt1) rfl (fun d' r h' N hd hr => ?_)
  replace hr : RR nf xs d' 0 false 2 (none) zt1 G r h' N (0, [(0, .ref (P + 17))], [], m, g) := hr
  have km1 : (-1 : Int32).toInt = -1 := rfl
  have k2 : (2 : Int32).toInt = 2 := rfl
  replace hr := hr.go (s_aload_n t1_0 rfl)
  replace hr := hr.go (s_k t1_1)
  replace hr := hr.go (s_putf t1_2)
  replace hr := hr.go (s_k t1_5)
  replace hr := hr.go (s_istore_n (ls' := [(1, _), (0, _)]) t1_6 rfl)
  skip
  replace hr := hr.go (s_iload_n t1_7 rfl)
  replace hr := hr.go (s_k t1_8)
  rcases hr.bGt t1_9 with ⟨b9, hr⟩ | ⟨b9, hr⟩
  · exact absurd b9 (by decide)
  · replace hr := hr.go (s_aload_n t1_12 rfl)
    replace hr := hr.go (s_getr t1_13 (hL.2.1))
    replace hr := hr.go (s_iload_n t1_16 rfl)
    replace hr := hr.go (s_k t1_17)
    replace hr := hr.go (s_iastore t1_18)
    replace hr := hr.go (s_aload_n t1_19 rfl)
    replace hr := hr.go (s_getr t1_20 (hL.2.2))
    replace hr := hr.go (s_iload_n t1_23 rfl)
    replace hr := hr.go (s_k t1_24)
    replace hr := hr.go (s_iastore t1_25)
    replace hr := hr.go (s_iinc (ls' := [(1, _), (0, _)]) t1_26 rfl rfl)
    replace hr := hr.go (s_goto t1_29)
    rw [show (0 : Int32) + Int32.ofInt 1 = 1 from rfl] at hr
    replace hr := hr.go (s_iload_n t1_7 rfl)
    replace hr := hr.go (s_k t1_8)
    rcases hr.bGt t1_9 with ⟨b9, hr⟩ | ⟨b9, hr⟩
    · exact absurd b9 (by decide)
    · replace hr := hr.go (s_aload_n t1_12 rfl)
      replace hr := hr.go (s_getr t1_13 (hL.2.1))
      replace hr := hr.go (s_iload_n t1_16 rfl)
      replace hr := hr.go (s_k t1_17)
      replace hr := hr.go (s_iastore t1_18)
      replace hr := hr.go (s_aload_n t1_19 rfl)
      replace hr := hr.go (s_getr t1_20 (hL.2.2))
      replace hr := hr.go (s_iload_n t1_23 rfl)
      replace hr := hr.go (s_k t1_24)
      replace hr := hr.go (s_iastore t1_25)
      replace hr := hr.go (s_iinc (ls' := [(1, _), (0, _)]) t1_26 rfl rfl)
      replace hr := hr.go (s_goto t1_29)
      rw [show (1 : Int32) + Int32.ofInt 1 = 2 from rfl] at hr
      replace hr := hr.go (s_iload_n t1_7 rfl)
      replace hr := hr.go (s_k t1_8)
      rcases hr.bGt t1_9 with ⟨b9, hr⟩ | ⟨b9, hr⟩
      · exact absurd b9 (by decide)
      · replace hr := hr.go (s_aload_n t1_12 rfl)
        replace hr := hr.go (s_getr t1_13 (hL.2.1))
        replace hr := hr.go (s_iload_n t1_16 rfl)
        replace hr := hr.go (s_k t1_17)
        replace hr := hr.go (s_iastore t1_18)
        replace hr := hr.go (s_aload_n t1_19 rfl)
        replace hr := hr.go (s_getr t1_20 (hL.2.2))
        replace hr := hr.go (s_iload_n t1_23 rfl)
        replace hr := hr.go (s_k t1_24)
        replace hr := hr.go (s_iastore t1_25)
        replace hr := hr.go (s_iinc (ls' := [(1, _), (0, _)]) t1_26 rfl rfl)
        replace hr := hr.go (s_goto t1_29)
        rw [show (2 : Int32) + Int32.ofInt 1 = 3 from rfl] at hr
        replace hr := hr.go (s_iload_n t1_7 rfl)
        replace hr := hr.go (s_k t1_8)
        rcases hr.bGt t1_9 with ⟨b9, hr⟩ | ⟨b9, hr⟩
        · obtain ⟨rfl, hs⟩ := hr.ret t1_32
          refine ⟨_, _, hs, rfl, rfl, ?_, fun k hk => ?_, fun a a1 a2 a3 => ?_⟩
          · rw [xu_row (by omega), xu_row (by omega), xu_row (by omega), xu_row (by omega), xu_row (by omega), xu_row (by omega), xu_same]
          · rcases (show k = 0 ∨ k = 1 ∨ k = 2 by omega) with rfl | rfl | rfl
            · rw [xu_oth (k := Int32.toNatClampNeg 2) (fun q => absurd q.2 (by decide)), xu_row (by omega), xu_oth (k := Int32.toNatClampNeg 1) (fun q => absurd q.2 (by decide)), xu_row (by omega)]; exact xu_same
            · rw [xu_oth (k := Int32.toNatClampNeg 2) (fun q => absurd q.2 (by decide)), xu_row (by omega)]; exact xu_same
            · exact xu_same
          · rw [xu_row a3, xu_row a2, xu_row a3, xu_row a2, xu_row a3, xu_row a2, xu_row a1]
        · exact absurd b9 (by decide)

def TK (G : xG) (P : Nat) : Prop := ∀ w : Nat, w < 8 → G.1 P w = some (P + 1 + 2 * w)
theorem ct_table0 {nf : Bool} {xs : List Int32} {d : Nat} {m : xM} {g : xL} {G : xG} {P w : Nat} (hT : TK G P) (hw : w < 8) : CT nf xs d 22 [.ref P, .int (Int32.ofNat (32 + w))] m g G (PE (some (.ref (P + 1 + 2 * w))) m g) := by
  refine CT.of (c := 3) (ini := false) (nL := 2) (rt := some (.object "LaughLine$Table")) (tab := zt22) rfl (fun d' r h' N hd hr => ?_)
  replace hr : RR nf xs d' 3 false 2 (some (.object "LaughLine$Table")) zt22 G r h' N (0, [(0, .ref P), (1, .int (Int32.ofNat (32 + w)))], [], m, g) := hr
  replace hr := hr.go (s_iload_n t22_0 rfl)
  rcases (show w = 0 ∨ w = 1 ∨ w = 2 ∨ w = 3 ∨ w = 4 ∨ w = 5 ∨ w = 6 ∨ w = 7 by omega) with rfl | rfl | rfl | rfl | rfl | rfl | rfl | rfl
  · replace hr := hr.go (s_tswitch (q := 44) t22_1 (by decide) (by decide) rfl rfl)
    replace hr := hr.go (s_aload_n t22_44 rfl)
    replace hr := hr.go (s_getr t22_45 (hT 0 (by decide)))
    obtain ⟨rfl, hs⟩ := hr.aret t22_48
    exact ⟨_, _, hs, rfl, rfl, rfl⟩
  · replace hr := hr.go (s_tswitch (q := 49) t22_1 (by decide) (by decide) rfl rfl)
    replace hr := hr.go (s_aload_n t22_49 rfl)
    replace hr := hr.go (s_getr t22_50 (hT 1 (by decide)))
    obtain ⟨rfl, hs⟩ := hr.aret t22_53
    exact ⟨_, _, hs, rfl, rfl, rfl⟩
  · replace hr := hr.go (s_tswitch (q := 54) t22_1 (by decide) (by decide) rfl rfl)
    replace hr := hr.go (s_aload_n t22_54 rfl)
    replace hr := hr.go (s_getr t22_55 (hT 2 (by decide)))
    obtain ⟨rfl, hs⟩ := hr.aret t22_58
    exact ⟨_, _, hs, rfl, rfl, rfl⟩
  · replace hr := hr.go (s_tswitch (q := 59) t22_1 (by decide) (by decide) rfl rfl)
    replace hr := hr.go (s_aload_n t22_59 rfl)
    replace hr := hr.go (s_getr t22_60 (hT 3 (by decide)))
    obtain ⟨rfl, hs⟩ := hr.aret t22_63
    exact ⟨_, _, hs, rfl, rfl, rfl⟩
  · replace hr := hr.go (s_tswitch (q := 64) t22_1 (by decide) (by decide) rfl rfl)
    replace hr := hr.go (s_aload_n t22_64 rfl)
    replace hr := hr.go (s_getr t22_65 (hT 4 (by decide)))
    obtain ⟨rfl, hs⟩ := hr.aret t22_68
    exact ⟨_, _, hs, rfl, rfl, rfl⟩
  · replace hr := hr.go (s_tswitch (q := 69) t22_1 (by decide) (by decide) rfl rfl)
    replace hr := hr.go (s_aload_n t22_69 rfl)
    replace hr := hr.go (s_getr t22_70 (hT 5 (by decide)))
    obtain ⟨rfl, hs⟩ := hr.aret t22_73
    exact ⟨_, _, hs, rfl, rfl, rfl⟩
  · replace hr := hr.go (s_tswitch (q := 74) t22_1 (by decide) (by decide) rfl rfl)
    replace hr := hr.go (s_aload_n t22_74 rfl)
    replace hr := hr.go (s_getr t22_75 (hT 6 (by decide)))
    obtain ⟨rfl, hs⟩ := hr.aret t22_78
    exact ⟨_, _, hs, rfl, rfl, rfl⟩
  · replace hr := hr.go (s_tswitchD (q := 79) t22_1 (by right; decide) rfl)
    replace hr := hr.go (s_aload_n t22_79 rfl)
    replace hr := hr.go (s_getr t22_80 (hT 7 (by decide)))
    obtain ⟨rfl, hs⟩ := hr.aret t22_83
    exact ⟨_, _, hs, rfl, rfl, rfl⟩
theorem ct_pclear {nf : Bool} {xs : List Int32} {d : Nat} {m : xM} {g : xL} {G : xG} {P : Nat} (h7 : 7 ≤ P) (hT : TK G P) (hL : LK G P) : CT nf xs d 21 [.ref P] m g G (PF none g (fun m' => m' (P + 17) 4 = 0 ∧ (∀ k : Nat, k < 3 → m' (P + 21) k = -1) ∧ (∀ w : Nat, w < 8 → m' (P + 1 + 2 * w) 3 = 0 ∧ ∀ j : Nat, ¬ j = 3 → m' (P + 1 + 2 * w) j = m (P + 1 + 2 * w) j) ∧ m' P 9 = 0 ∧ ∀ a : Nat, a < 7 → m' a = m a)) := by
  refine CT.of (c := 3) (ini := false) (nL := 2) (rt := none) (tab := zt21) rfl (fun d' r h' N hd hr => ?_)
  replace hr : RR nf xs d' 3 false 2 (none) zt21 G r h' N (0, [(0, .ref P)], [], m, g) := hr
  have k32 : (32 : Int32).toInt = 32 := rfl
  have k40 : (40 : Int32).toInt = 40 := rfl
  replace hr := hr.go (s_k t21_0)
  replace hr := hr.go (s_istore_n (ls' := [(1, _), (0, _)]) t21_2 rfl)
  skip
  replace hr := hr.go (s_iload_n t21_3 rfl)
  replace hr := hr.go (s_k t21_4)
  rcases hr.bGe t21_6 with ⟨b6, hr⟩ | ⟨b6, hr⟩
  · exact absurd b6 (by decide)
  · replace hr := hr.go (s_aload_n t21_9 rfl)
    replace hr := hr.go (s_iload_n t21_10 rfl)
    replace hr := hr.cvI t21_11 rfl rfl (ct_table0 (w := 0) hT (by decide))
    replace hr := hr.go (s_k t21_14)
    replace hr := hr.go (s_putf t21_15)
    replace hr := hr.go (s_iinc (ls' := [(1, _), (0, _)]) t21_18 rfl rfl)
    replace hr := hr.go (s_goto t21_21)
    rw [show (32 : Int32) + Int32.ofInt 1 = 33 from rfl] at hr
    replace hr := hr.go (s_iload_n t21_3 rfl)
    replace hr := hr.go (s_k t21_4)
    rcases hr.bGe t21_6 with ⟨b6, hr⟩ | ⟨b6, hr⟩
    · exact absurd b6 (by decide)
    · replace hr := hr.go (s_aload_n t21_9 rfl)
      replace hr := hr.go (s_iload_n t21_10 rfl)
      replace hr := hr.cvI t21_11 rfl rfl (ct_table0 (w := 1) hT (by decide))
      replace hr := hr.go (s_k t21_14)
      replace hr := hr.go (s_putf t21_15)
      replace hr := hr.go (s_iinc (ls' := [(1, _), (0, _)]) t21_18 rfl rfl)
      replace hr := hr.go (s_goto t21_21)
      rw [show (33 : Int32) + Int32.ofInt 1 = 34 from rfl] at hr
      replace hr := hr.go (s_iload_n t21_3 rfl)
      replace hr := hr.go (s_k t21_4)
      rcases hr.bGe t21_6 with ⟨b6, hr⟩ | ⟨b6, hr⟩
      · exact absurd b6 (by decide)
      · replace hr := hr.go (s_aload_n t21_9 rfl)
        replace hr := hr.go (s_iload_n t21_10 rfl)
        replace hr := hr.cvI t21_11 rfl rfl (ct_table0 (w := 2) hT (by decide))
        replace hr := hr.go (s_k t21_14)
        replace hr := hr.go (s_putf t21_15)
        replace hr := hr.go (s_iinc (ls' := [(1, _), (0, _)]) t21_18 rfl rfl)
        replace hr := hr.go (s_goto t21_21)
        rw [show (34 : Int32) + Int32.ofInt 1 = 35 from rfl] at hr
        replace hr := hr.go (s_iload_n t21_3 rfl)
        replace hr := hr.go (s_k t21_4)
        rcases hr.bGe t21_6 with ⟨b6, hr⟩ | ⟨b6, hr⟩
        · exact absurd b6 (by decide)
        · replace hr := hr.go (s_aload_n t21_9 rfl)
          replace hr := hr.go (s_iload_n t21_10 rfl)
          replace hr := hr.cvI t21_11 rfl rfl (ct_table0 (w := 3) hT (by decide))
          replace hr := hr.go (s_k t21_14)
          replace hr := hr.go (s_putf t21_15)
          replace hr := hr.go (s_iinc (ls' := [(1, _), (0, _)]) t21_18 rfl rfl)
          replace hr := hr.go (s_goto t21_21)
          rw [show (35 : Int32) + Int32.ofInt 1 = 36 from rfl] at hr
          replace hr := hr.go (s_iload_n t21_3 rfl)
          replace hr := hr.go (s_k t21_4)
          rcases hr.bGe t21_6 with ⟨b6, hr⟩ | ⟨b6, hr⟩
          · exact absurd b6 (by decide)
          · replace hr := hr.go (s_aload_n t21_9 rfl)
            replace hr := hr.go (s_iload_n t21_10 rfl)
            replace hr := hr.cvI t21_11 rfl rfl (ct_table0 (w := 4) hT (by decide))
            replace hr := hr.go (s_k t21_14)
            replace hr := hr.go (s_putf t21_15)
            replace hr := hr.go (s_iinc (ls' := [(1, _), (0, _)]) t21_18 rfl rfl)
            replace hr := hr.go (s_goto t21_21)
            rw [show (36 : Int32) + Int32.ofInt 1 = 37 from rfl] at hr
            replace hr := hr.go (s_iload_n t21_3 rfl)
            replace hr := hr.go (s_k t21_4)
            rcases hr.bGe t21_6 with ⟨b6, hr⟩ | ⟨b6, hr⟩
            · exact absurd b6 (by decide)
            · replace hr := hr.go (s_aload_n t21_9 rfl)
              replace hr := hr.go (s_iload_n t21_10 rfl)
              replace hr := hr.cvI t21_11 rfl rfl (ct_table0 (w := 5) hT (by decide))
              replace hr := hr.go (s_k t21_14)
              replace hr := hr.go (s_putf t21_15)
              replace hr := hr.go (s_iinc (ls' := [(1, _), (0, _)]) t21_18 rfl rfl)
              replace hr := hr.go (s_goto t21_21)
              rw [show (37 : Int32) + Int32.ofInt 1 = 38 from rfl] at hr
              replace hr := hr.go (s_iload_n t21_3 rfl)
              replace hr := hr.go (s_k t21_4)
              rcases hr.bGe t21_6 with ⟨b6, hr⟩ | ⟨b6, hr⟩
              · exact absurd b6 (by decide)
              · replace hr := hr.go (s_aload_n t21_9 rfl)
                replace hr := hr.go (s_iload_n t21_10 rfl)
                replace hr := hr.cvI t21_11 rfl rfl (ct_table0 (w := 6) hT (by decide))
                replace hr := hr.go (s_k t21_14)
                replace hr := hr.go (s_putf t21_15)
                replace hr := hr.go (s_iinc (ls' := [(1, _), (0, _)]) t21_18 rfl rfl)
                replace hr := hr.go (s_goto t21_21)
                rw [show (38 : Int32) + Int32.ofInt 1 = 39 from rfl] at hr
                replace hr := hr.go (s_iload_n t21_3 rfl)
                replace hr := hr.go (s_k t21_4)
                rcases hr.bGe t21_6 with ⟨b6, hr⟩ | ⟨b6, hr⟩
                · exact absurd b6 (by decide)
                · replace hr := hr.go (s_aload_n t21_9 rfl)
                  replace hr := hr.go (s_iload_n t21_10 rfl)
                  replace hr := hr.cvI t21_11 rfl rfl (ct_table0 (w := 7) hT (by decide))
                  replace hr := hr.go (s_k t21_14)
                  replace hr := hr.go (s_putf t21_15)
                  replace hr := hr.go (s_iinc (ls' := [(1, _), (0, _)]) t21_18 rfl rfl)
                  replace hr := hr.go (s_goto t21_21)
                  rw [show (39 : Int32) + Int32.ofInt 1 = 40 from rfl] at hr
                  replace hr := hr.go (s_iload_n t21_3 rfl)
                  replace hr := hr.go (s_k t21_4)
                  rcases hr.bGe t21_6 with ⟨b6, hr⟩ | ⟨b6, hr⟩
                  · replace hr := hr.go (s_aload_n t21_24 rfl)
                    replace hr := hr.go (s_getr t21_25 (hL.1))
                    obtain ⟨m2, ⟨hz2, he2, hf2⟩, hr⟩ := hr.fvN t21_28 rfl rfl (ct_lclear hL)
                    replace hr := hr.go (s_aload_n t21_31 rfl)
                    replace hr := hr.go (s_k t21_32)
                    replace hr := hr.go (s_putf t21_33)
                    obtain ⟨rfl, hs⟩ := hr.ret t21_36
                    refine ⟨_, _, hs, rfl, rfl, ?_, fun k hk => ?_, fun w hw => ⟨?_, fun j hj => ?_⟩, xu_same, fun a ha => ?_⟩
                    · rw [xu_row (by omega)]; exact hz2
                    · rw [xu_row (by omega)]; exact he2 k hk
                    · rw [xu_row (by omega), hf2 _ (by omega) (by omega) (by omega)]
                      rcases (show w = 0 ∨ w = 1 ∨ w = 2 ∨ w = 3 ∨ w = 4 ∨ w = 5 ∨ w = 6 ∨ w = 7 by omega) with rfl | rfl | rfl | rfl | rfl | rfl | rfl | rfl
                      · rw [xu_row (by omega), xu_row (by omega), xu_row (by omega), xu_row (by omega), xu_row (by omega), xu_row (by omega), xu_row (by omega)]; exact xu_same
                      · rw [xu_row (by omega), xu_row (by omega), xu_row (by omega), xu_row (by omega), xu_row (by omega), xu_row (by omega)]; exact xu_same
                      · rw [xu_row (by omega), xu_row (by omega), xu_row (by omega), xu_row (by omega), xu_row (by omega)]; exact xu_same
                      · rw [xu_row (by omega), xu_row (by omega), xu_row (by omega), xu_row (by omega)]; exact xu_same
                      · rw [xu_row (by omega), xu_row (by omega), xu_row (by omega)]; exact xu_same
                      · rw [xu_row (by omega), xu_row (by omega)]; exact xu_same
                      · rw [xu_row (by omega)]; exact xu_same
                      · exact xu_same
                    · rw [xu_row (by omega), hf2 _ (by omega) (by omega) (by omega), xu_oth (by omega), xu_oth (by omega), xu_oth (by omega), xu_oth (by omega), xu_oth (by omega), xu_oth (by omega), xu_oth (by omega), xu_oth (by omega)]
                    · rw [xu_row (by omega), hf2 a (by omega) (by omega) (by omega), xu_row (by omega), xu_row (by omega), xu_row (by omega), xu_row (by omega), xu_row (by omega), xu_row (by omega), xu_row (by omega), xu_row (by omega)]
                  · exact absurd b6 (by decide)

