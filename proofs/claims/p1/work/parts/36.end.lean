/-! rider: behind the law's own method. -/
def yi0 (z : Int32) (r : Option Value) : Bool := match r with
  | some (.int x) => decide (x = z)
  | _ => false
theorem yi0_ok {ρ : yR} {z : Int32} {a r : Option Value} (h : yi0 z a = true) (hr : yrv ρ a r) : r = some (.int z) := by
  cases a with
  | none => cases h
  | some v =>
    cases v with
    | int x =>
      have hx : x = z := of_decide_eq_true h
      subst hx
      exact yrv_some hr rfl
    | _ => cases h
def yob (c : Option zE) : Bool := match c with
  | some (t, .inr (.inr (.inr _))) => Nat.beq t 11
  | _ => false
noncomputable def yrk (n : Nat) (t : t8) : Bool := match fev (yX0 none) zIT zmcl zMt fB 20 nX11_rider ([(-2147483648, 2147483647), (-2147483648, 2147483647)], 0) [.ref 128, .float 0, .float 1] (n, t) with
  | none => false
  | some os => os.all (fun o => yi0 0 o.2.1 && (Nat.beq o.2.2.1 n && (yob (hget o.2.2 128) && (match fev (yX0 none) zIT zmcl zMt fB 20 nX11_thrown o.1 [.ref 128] o.2.2 with
    | none => false
    | some ps => ps.all (fun q => yi0 1 q.2.1 && Nat.beq q.2.2.1 n)))))
theorem yrk0 : yrk 176 yTm = true := by decide +kernel
theorem yrk1 : yrk 177 yTr = true := by decide +kernel
theorem yrm_ok {n : Nat} {t : t8} (hn : n ≤ 256) (hc : yrk n t = true) (nf : Bool) (xs : List Int32) (x1 x2 : Int32) {ch cs : zH} (hh : yhs ([x1, x2], [], cs) (hL (n, t)) ch) :
    ∃ (h1 h2 : zH) (fs : List Value), zEv (zXt nf xs) zIT zmcl zMt 20 nX11_rider [.ref 128, .int x1, .int x2] ch (some (.int 0)) h1 ∧ h1[128]? = some (11, zobj fs) ∧ zEv (zXt nf xs) zIT zmcl zMt 20 nX11_thrown [.ref 128] h1 (some (.int 1)) h2 ∧ h1.length = n ∧ h2.length = n := by
  unfold yrk at hc
  split at hc
  · cases hc
  · next os ho =>
    have hX := yX0_ok nf xs (o := none) (Or.inl rfl)
    obtain ⟨o, m, ρ1, r, h1, a1, a2, a3, a0, a4, a5⟩ := fev_ok fB_ok hX ymcl 20 nX11_rider ([(-2147483648, 2147483647), (-2147483648, 2147483647)], 0) _ _ _ ho hn ([x1, x2], [], cs) [.ref 128, .int x1, .int x2] ch (yG0 (vals := [x1, x2]) rfl rfl (yfull (n := 2))) (y0 (yv_r rfl) (y0 ⟨x1, rfl, rfl⟩ (y0 ⟨x2, rfl, rfl⟩ rfl))) hh
    have c1 := List.all_eq_true.mp hc o m
    rw [Bool.and_eq_true, Bool.and_eq_true, Bool.and_eq_true] at c1
    obtain ⟨c1, c2, c3, c4⟩ := c1
    have e1 := yi0_ok c1 a3
    subst e1
    split at c4
    · cases c4
    · next ps hps =>
      obtain ⟨o2, m2, ρ2, r2, h2, b1, b2, b3, b0, b4, b5⟩ := fev_ok fB_ok hX ymcl 20 nX11_thrown o.1 _ _ _ hps a0 ρ1 [.ref 128] h1 a2 (y0 (yv_r rfl) rfl) a4
      have c5 := List.all_eq_true.mp c4 o2 m2
      rw [Bool.and_eq_true] at c5
      have e2 := yi0_ok c5.1 b3
      subst e2
      have l1 : h1.length = n := by rw [yA.len a4, hlen_ok a0]; exact Nat.eq_of_beq_eq_true c2
      have l2 : h2.length = n := by rw [yA.len b4, hlen_ok b0]; exact Nat.eq_of_beq_eq_true c5.2
      rw [hget_ok a0] at c3
      unfold yob at c3
      split at c3
      · next t9 fs hfs =>
        have ht := Nat.eq_of_beq_eq_true c3
        subst ht
        obtain ⟨b, g1, g2⟩ := yA.get a4 hfs
        obtain ⟨gs, rfl, -⟩ := yce_obj g2 (by decide)
        exact ⟨h1, h2, gs, a5, g1, b5, l1, l2⟩
      · cases c3
theorem yTr_eq : hL (177, yTr) = yVars 128 ++ yHo ++ [yVr 128] := yeqH_ok (by decide +kernel)
theorem yhs_vars2 {ρ : yR} {n : Nat} {cs : zH} (hl : cs.length = n) (h : ∀ k : Nat, k < n → ρ.2.2[k]? = cs[k]?) : yhs ρ (yVars n) cs := yA_of (by rw [yVars_len, hl]) (fun i a b h1 h2 => by
  obtain ⟨hi, rfl⟩ := yVars_get h1
  exact yce_var.mpr ((h i hi).trans h2))
theorem yafter (nf : Bool) (xs : List Int32) (x1 x2 : Int32) (k : Nat) (hk : k ≤ 1) :
    ∃ (h1 h2 : zH) (fs : List Value), zEv (zXt nf xs) zIT zmcl zMt 20 nX11_rider [.ref 128, .int x1, .int x2] (yHx ++ yHo ++ List.replicate k zjunk) (some (.int 0)) h1 ∧ h1[128]? = some (11, zobj fs) ∧ zEv (zXt nf xs) zIT zmcl zMt 20 nX11_thrown [.ref 128] h1 (some (.int 1)) h2 ∧ h1.length = 176 + k ∧ h2.length = 176 + k := by
  rcases (show k = 0 ∨ k = 1 by omega) with rfl | rfl
  · refine yrm_ok (cs := yHx) (by decide) yrk0 nf xs x1 x2 ?_
    rw [yTm_eq, List.replicate_zero, List.append_nil]
    exact yA.app (yhs_plain yHo_plain) (yhs_vars (ρ := ([x1, x2], [], yHx)) yHx_len)
  · refine yrm_ok (cs := yHx ++ [zjunk]) (by decide) yrk1 nf xs x1 x2 ?_
    rw [yTr_eq]
    refine yA.app ?_ (yA.app (yhs_plain yHo_plain) (yhs_vars2 yHx_len (fun k hk => ?_)))
    · refine ⟨zjunk, [], rfl, yce_var.mpr ?_, rfl⟩
      show (yHx ++ [zjunk])[128]? = some zjunk
      rw [List.getElem?_append_right (by rw [yHx_len]; decide), yHx_len]
      rfl
    · show (yHx ++ [zjunk])[k]? = yHx[k]?
      rw [List.getElem?_append_left (by rw [yHx_len]; exact hk)]
theorem lplain {ρ : yR} : ∀ {ls : zL}, ls.all (fun q => !ysym q.2) = true → yls ρ ls ls
  | [], _ => rfl
  | q :: r, h => by
    rw [List.all_cons, Bool.and_eq_true] at h
    exact ⟨q, r, rfl, ⟨rfl, yv_r (by simpa using h.1)⟩, lplain h.2⟩
theorem lplain_eq {ρ : yR} : ∀ {ls cl : zL}, ls.all (fun q => !ysym q.2) = true → yls ρ ls cl → cl = ls
  | [], _, _, h => h
  | q :: r, _, hp, ⟨b, bs, e, hr, h⟩ => by
    rw [List.all_cons, Bool.and_eq_true] at hp
    rw [e, lplain_eq hp.2 h, Prod.ext_iff.mpr ⟨hr.1, yv_c hr.2 (by simpa using hp.1)⟩]
/-- a stretch with any locals -/
theorem lstr2 {n pc pc' : Nat} {ls ls' : zL} {st st' : List Value} (hg : lgo n pc ls st = some (pc', ls', st')) (h1 : yok6 st = true) (h2 : yok6 st' = true) (p1 : ls.all (fun q => !ysym q.2) = true) (p2 : ls'.all (fun q => !ysym q.2) = true) (nf : Bool) (x0 x1 x2 x3 x4 x5 : Int32) (h : zH) : zLaw nf [x0, x1, x2, x3, x4, x5] n (pc, ls, st.map (ycn [x0, x1, x2, x3, x4, x5, 0] 0), h) (pc', ls', st'.map (ycn [x0, x1, x2, x3, x4, x5, 0] 0), h) := by
  obtain ⟨cl', cst', g1, g2, g3⟩ := lgo_ok (nf := nf) (xs := [x0, x1, x2, x3, x4, x5]) (ys := [0]) (ρ := ([x0, x1, x2, x3, x4, x5, 0], [0], [])) rfl rfl n pc pc' ls ls' ls st st' _ hg (lplain p1) (ycn_in (xs := [x0, x1, x2, x3, x4, x5, 0]) rfl h1)
  have e1 : cst' = st'.map (ycn [x0, x1, x2, x3, x4, x5, 0] 0) := ycn_ok rfl rfl h2 g2
  have := g3 h
  rw [e1, lplain_eq p2 g1] at this
  exact this
def yL1 : zL := (5, .int 1) :: yLS 0
def yL2 : zL := (6, .int 0) :: (5, .int 1) :: yLS 0
def yL3 : zL := [(4, .int 6), (6, .int 0), (5, .int 1), (3, .ref 175), (2, .ref 128), (1, .ref 0), (0, .retAddr 6)]
theorem ybehind (nf : Bool) (x0 x1 x2 x3 x4 x5 : Int32) (k : Nat) (hk : k ≤ 1) : ∃ (n : Nat) (h : zH), h.length = 176 + k ∧ zLaw nf [x0, x1, x2, x3, x4, x5] n (381, yLS 0, [.int 1], yHx ++ yHo ++ List.replicate k zjunk) (1528, yL3, [.int 1], h) := by
  obtain ⟨h1, h2, fs, e1, e2, e3, l1, l2⟩ := yafter nf [x0, x1, x2, x3, x4, x5] x1 x2 k hk
  have hd : (yHx ++ yHo ++ List.replicate k zjunk)[128]? = some (11, zobj (match yHm with | (_, .inr (.inr (.inr fs))) :: _ => fs | _ => [])) := by
    rw [List.getElem?_append_left (by rw [yH_len]; decide)]
    exact yhead yHx_len
  have s1 := lstr2 (n := 12) (pc := 381) (pc' := 396) (ls := yLS 0) (ls' := yL1) (st := [.int 1]) (st' := [.float 2, .float 1, .ref 128]) (by decide +kernel) rfl rfl rfl rfl nf x0 x1 x2 x3 x4 x5 (yHx ++ yHo ++ List.replicate k zjunk)
  have c2 : zcall (zXt nf [x0, x1, x2, x3, x4, x5]) zIT zmcl 19 (.invokevirtual 44) [.int x2, .int x1, .ref 128] (yHx ++ yHo ++ List.replicate k zjunk) = some (nX11_rider, [.ref 128, .int x1, .int x2], []) := by
    have hI : zIT 19 44 = some (1, nX11_rider, 2) := rfl
    simp only [zcall, hI, List.drop, hd, zobj]
    rfl
  have s2 : zLaw nf [x0, x1, x2, x3, x4, x5] 1 (396, yL1, [.int x2, .int x1, .ref 128], yHx ++ yHo ++ List.replicate k zjunk) (399, yL1, [.int 0], h1) := zGo_call (a := (396, yL1, [.int x2, .int x1, .ref 128], yHx ++ yHo ++ List.replicate k zjunk)) (i := .invokevirtual 44) (len := 3) rfl c2 e1
  have s3 := lstr2 (n := 2) (pc := 399) (pc' := 402) (ls := yL1) (ls' := yL2) (st := [.int 0]) (st' := [.ref 128]) (by decide +kernel) rfl rfl rfl rfl nf x0 x1 x2 x3 x4 x5 h1
  have c4 : zcall (zXt nf [x0, x1, x2, x3, x4, x5]) zIT zmcl 19 (.invokevirtual 45) [.ref 128] h1 = some (nX11_thrown, [.ref 128], []) := by
    have hI : zIT 19 45 = some (1, nX11_thrown, 0) := rfl
    simp only [zcall, hI, List.drop, e2, zobj]
    rfl
  have s4 : zLaw nf [x0, x1, x2, x3, x4, x5] 1 (402, yL2, [.ref 128], h1) (405, yL2, [.int 1], h2) := zGo_call (a := (402, yL2, [.ref 128], h1)) (i := .invokevirtual 45) (len := 3) rfl c4 e3
  have s5 := lstr2 (n := 14) (pc := 405) (pc' := 1528) (ls := yL2) (ls' := yL3) (st := [.int 1]) (st' := [.int 1]) (by decide +kernel) rfl rfl rfl rfl nf x0 x1 x2 x3 x4 x5 h2
  exact ⟨_, h2, l2, zLaw_trans s1 (zLaw_trans s2 (zLaw_trans s3 (zLaw_trans s4 s5)))⟩
theorem W_size {p : Program} {l : Launch} {e : Env} {R : Room} {s : State} {m : MethodId} {args : Array Value} {below : List Frame} {meth : Method} {c : Code} {H : Heap} {locs : List Loc} {cells slots : Nat} {Q : State → Prop} {g : JFrame} (h : H.size ≤ s.heap.size + cells → W p l e R s m args below meth c H locs cells slots Q g) : W p l e R s m args below meth c H locs cells slots Q g := fun T hT X => h (by
  have h1 := X.same.2.2.1
  rw [← hT]
  exact h1) T hT X
