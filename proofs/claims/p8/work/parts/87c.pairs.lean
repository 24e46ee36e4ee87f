/-! feed and text, of both sides, between the passes. -/
theorem xsh_of {f : aT} {e : zE} (h : ash f e) : xsh (some e) = (f.1, [0, 1, 1, 2, 3].getD f.2.1 9, f.2.2.1) := by
  obtain ⟨f1, f2, f3, f4⟩ := f
  obtain ⟨t, v⟩ := e
  obtain ⟨h1, h2⟩ := h
  have h1 : t = f1 := h1
  subst h1
  rcases f2 with _ | _ | _ | _ | _ | f2 <;> rcases v with l | l | l | fs
  all_goals first
    | exact h2.elim
    | (have h2 : _ = f3 := h2; subst h2; rfl)
theorem gs_of {h : zH} {a : Nat} (hS : aSh qW h) (ha : a < qW.1.length) : gs h a = ((afm qW (asrt qW a)).1, [0, 1, 1, 2, 3].getD (afm qW (asrt qW a)).2.1 9, (afm qW (asrt qW a)).2.2.1) := by
  obtain ⟨e, h1, h2⟩ := hS a ha
  show xsh h[a]? = _
  rw [h1]
  exact xsh_of h2
/-- an int within its type -/
theorem iv_of {h : zH} {a k : Nat} {l u : Int} (hH : aH qW qG [0] [] h) (hi : inW a k = true) (ht : apl (afm qW (asrt qW a)) k = (0, l, u)) : ∃ x : Int32, rd h a k = some (.int x) ∧ gi h a k = x ∧ l ≤ x.toInt ∧ x.toInt ≤ u := by
  obtain ⟨h1, h2⟩ := inW_ok hi
  obtain ⟨v, g1, g2⟩ := hH.2.1 a k h1 (Nat.lt_of_lt_of_le h2 (apn_le _))
  rw [qrdx (qG_real h1 h2)] at g1
  rcases g2 with g2 | ⟨e, he, -⟩
  · rw [ht] at g2
    obtain ⟨x, rfl, q1, q2⟩ := g2
    refine ⟨x, g1, ?_, q1, q2⟩
    show xi (rd h a k) = x
    rw [g1]
    rfl
  · cases he
theorem gr_of {h : zH} {a k b : Nat} (e : rd h a k = some (.ref b)) : gr h a k = some b := by
  show xr (rd h a k) = some b
  rw [e]
  rfl
theorem rd_of {h : zH} {a k b : Nat} (e : gr h a k = some b) : rd h a k = some (.ref b) := by
  have e : xr (rd h a k) = some b := e
  unfold xr at e
  split at e
  · next x hx => rw [hx, Option.some.inj e]
  · cases e
theorem rf_of {h : zH} (hr : ∀ t ∈ rfs, rd h t.1 t.2.1 = some (.ref t.2.2)) {a k b : Nat} (hm : (a, k, b) ∈ rfs) : gr h a k = some b := gr_of (hr _ hm)
/-- the row of a whole array stays -/
theorem row_eq {h h0 : zH} {a b L t t' : Nat} (e1 : gs h a = (t, 1, L)) (e2 : gs h0 b = (t', 1, L)) (h1 : ∀ i : Nat, i < L → gi h a i = gi h0 b i) : gi h a = gi h0 b := by
  have z : ∀ (h : zH) (a t : Nat), gs h a = (t, 1, L) → ∀ i : Nat, L ≤ i → gi h a i = 0 := by
    intro h a t e i hi
    show xi (rd h a i) = 0
    have e : xsh h[a]? = (t, 1, L) := e
    unfold rd
    cases hq : h[a]? with
    | none => rfl
    | some w =>
      obtain ⟨t, v⟩ := w
      rw [hq] at e
      rcases v with l | l | l | fs
      · cases e
        show xi (l[i]?.map Value.int) = 0
        rw [List.getElem?_eq_none hi]
        rfl
      · cases e
      · cases e
      · cases e
  funext i
  rcases Nat.lt_or_ge i L with q | q
  · exact h1 i q
  · rw [z h a t e1 i q, z h0 b t' e2 i q]
theorem gs_tp {h : zH} (hS : aSh qW h) : gs h 1 = (0, 1, 700) ∧ gs h 129 = (0, 1, 700) := ⟨(gs_of hS (by decide +kernel)).trans (by decide +kernel), (gs_of hS (by decide +kernel)).trans (by decide +kernel)⟩
theorem tp_eq {h : zH} (hS : aSh qW h) (hX : lXb h) : gi h 1 = gi h 129 := row_eq (gs_tp hS).1 (gs_tp hS).2 hX.2.2.2.2.1
theorem tp_keep {M : List aD} {h0 h : zH} (hS0 : aSh qW h0) (hS : aSh qW h) (hp : KP M h0 h) (a s : Nat) (ha : a = 1 ∧ s = 1 ∨ a = 129 ∧ s = 50) (hk : ks M s = true) : gi h a = gi h0 a := by
  rcases ha with ⟨rfl, rfl⟩ | ⟨rfl, rfl⟩
  · exact row_eq (gs_tp hS).1 (gs_tp hS0).1 (fun i hi => gi_rd (hp.pl (inW_dn row_in.2.2.2.1 (by omega)) (ks_kf hk (by decide +kernel))))
  · exact row_eq (gs_tp hS).2 (gs_tp hS0).2 (fun i hi => gi_rd (hp.pl (inW_dn row_in.2.2.2.2 (by omega)) (ks_kf hk (by decide +kernel))))
/-- the tape's length -/
theorem len_of {h : zH} (hJ : lJ h) : ∃ p : Nat, p ≤ 700 ∧ gi h 0 1 = Int32.ofNat p ∧ rd h 128 2 = some (.int (Int32.ofNat p)) := by
  obtain ⟨hH, v, v1, v2⟩ := hJ
  obtain ⟨x, g1, g2, g3, g4⟩ := iv_of (a := 0) (k := 1) (l := 0) (u := 700) hH (by decide +kernel) (by decide +kernel)
  rw [v1] at g1
  cases g1
  have e := xn_of g3
  refine ⟨v.toNatClampNeg, by rw [Int32.toNatClampNeg]; omega, by rw [g2]; exact e, by rw [v2, ← e]⟩
def fdM (M : List aD) : Bool := xk0 M && (xk1 M && kf M 128 2)
/-- feed -/
theorem feed_pair {nf : Bool} {xs : List Int32} {d : Nat} {h h1 h2 : zH} {r1 r2 : Option Value} {a b c e f : Int32} {M1 M2 : List aD} (hI : lInvX h) (e1 : zEv (zXt nf xs) zIT zmcl zMt d 98 [.ref 0, .int a, .int b, .int c, .int e, .int f] h r1 h1) (e2 : zEv (zXt nf xs) zIT zmcl zMt d 150 [.ref 128, .int a, .int b, .int c, .int e, .int f] h1 r2 h2) (S1 : aSh qW h1) (S2 : aSh qW h2) (k1 : KP M1 h h1) (k2 : KP M2 h1 h2) (q1 : fdM M1 = true) (q2 : xk0 M2 = true) (q3 : xk1 M2 = true) (q4 : ks M1 50 = true) (q5 : ks M2 1 = true) (q6 : xk3 M1 = true) (q7 : xk3 M2 = true) (q8 : xkt M1 = true) (q9 : xkt M2 = true) : lX h2 := by
  obtain ⟨hJ, -, hX, hT0⟩ := hI
  have hS := hJ.1.1
  obtain ⟨p, hp, p1, p2⟩ := len_of hJ
  have t1 := zEv_KT _ _ _ _ _ _ e1 hX.1
  have t2 := zEv_KT _ _ _ _ _ _ e2 t1
  unfold fdM at q1
  rw [Bool.and_eq_true, Bool.and_eq_true] at q1
  obtain ⟨x1, x2, ⟨P, S, x3, x4, x5⟩, x6, x7, x8, x9⟩ := hX
  have hr1 := k1.rf q1.1 x2
  have hT := tp_eq hS ⟨x1, x2, ⟨P, S, x3, x4, x5⟩, x6, x7, x8, x9⟩
  obtain ⟨f1, f2, f3, f4⟩ := k1.ft q6
  obtain ⟨f5, f6, f7, f8⟩ := k2.ft q7
  obtain ⟨m1, g1, hs1, c1⟩ := ct_feedC (rf_of x2 (by decide +kernel)) p1 hp h r1 h1 (HS_of x1) e1
  have em1 : gi h1 = m1 := hs1.2.1
  have p3 : gi h1 128 2 = Int32.ofNat p := by
    show xi (rd h1 128 2) = _
    rw [k1.pl (by decide +kernel) q1.2.2, p2]
    rfl
  obtain ⟨m2, g2, hs2, c2⟩ := ct_feedR (rf_of hr1 (by decide +kernel)) p3 hp h1 r2 h2 (HS_of t1) e2
  have em2 : gi h2 = m2 := hs2.2.1
  have u1 := tp_keep hS S1 k1 129 50 (Or.inr ⟨rfl, rfl⟩) q4
  have u2 := tp_keep S1 S2 k2 1 1 (Or.inl ⟨rfl, rfl⟩) q5
  have ht : gi h2 1 = gi h2 129 := by
    rw [u2, em1, em2]
    rcases c1 with ⟨c1, c1'⟩ | ⟨c1, c1'⟩
    · rcases c2 with ⟨c2, c2'⟩ | ⟨c2, c2'⟩
      · rw [c1', c2', u1, hT]
      · omega
    · rcases c2 with ⟨c2, c2'⟩ | ⟨c2, c2'⟩
      · omega
      · rw [c1', c2', u1, hT]
        exact fdN_eq 20 0 _ (fun j _ hj => by_same j (by omega))
  refine ⟨t2, ⟨t2, k2.rf q2 hr1, ⟨P, S, x3, ?_, ?_⟩, k2.wd q2 (k1.wd q1.1 x6), fun i _ => by rw [ht], by rw [f5, f7, f1, f3]; exact x8, by rw [f6, f8, f2, f4]; exact x9⟩, lT_keep (lT_keep hT0 k1 q8) k2 q9⟩
  · rw [(k2.ps q3).1, (k1.ps q1.2.1).1]; exact x4
  · rw [(k2.ps q3).2, (k1.ps q1.2.1).2]; exact x5
/-! text -/
theorem P_m1 {P : Nat} (hP : P = 7 ∨ P = 31) : ∀ w : Nat, w < 8 → (P, w, P + 1 + 2 * w) ∈ rfs := by
  rcases hP with rfl | rfl <;> decide +kernel
theorem P_m2 {P : Nat} (hP : P = 7 ∨ P = 31) : ∀ w : Nat, w < 8 → (P + 1 + 2 * w, 2, P + 2 + 2 * w) ∈ rfs := by
  rcases hP with rfl | rfl <;> decide +kernel
theorem P_m3 {P : Nat} (hP : P = 7 ∨ P = 31) : (P, 8, P + 17) ∈ rfs := by
  rcases hP with rfl | rfl <;> decide +kernel
theorem P_m4 {P : Nat} (hP : P = 7 ∨ P = 31) : ∀ w : Nat, w < 4 → (P + 17, w, P + 18 + w) ∈ rfs := by
  rcases hP with rfl | rfl <;> decide +kernel
theorem P_m {P : Nat} (hP : P = 7 ∨ P = 31) : (∀ w : Nat, w < 8 → (P, w, P + 1 + 2 * w) ∈ rfs ∧ (P + 1 + 2 * w, 2, P + 2 + 2 * w) ∈ rfs) ∧ (P, 8, P + 17) ∈ rfs ∧ (P + 17, 0, P + 18) ∈ rfs ∧ (P + 17, 1, P + 19) ∈ rfs ∧ (P + 17, 2, P + 20) ∈ rfs ∧ (P + 17, 3, P + 21) ∈ rfs := ⟨fun w hw => ⟨P_m1 hP w hw, P_m2 hP w hw⟩, P_m3 hP, P_m4 hP 0 (by decide), P_m4 hP 1 (by decide), P_m4 hP 2 (by decide), P_m4 hP 3 (by decide)⟩
def psB (P w : Nat) : Bool := Nat.blt (P + 2 + 2 * w) qW.1.length && (Nat.beq (afm qW (asrt qW (P + 2 + 2 * w))).1 0 && (Nat.beq (afm qW (asrt qW (P + 2 + 2 * w))).2.1 1 && (inW (P + 1 + 2 * w) 0 && (inW (P + 1 + 2 * w) 1 && (decide (apl (afm qW (asrt qW (P + 1 + 2 * w))) 0 = (0, (cN w : Int), (cN w : Int))) && decide (apl (afm qW (asrt qW (P + 1 + 2 * w))) 1 = (0, (mN w : Int), (mN w : Int))))))))
theorem psB_ok : (List.range 8).all (psB 7) = true ∧ (List.range 8).all (psB 31) = true := ⟨by decide +kernel, by decide +kernel⟩
theorem P_s {P : Nat} (hP : P = 7 ∨ P = 31) : (∀ w : Nat, w < 8 → P + 2 + 2 * w < qW.1.length ∧ (afm qW (asrt qW (P + 2 + 2 * w))).1 = 0 ∧ (afm qW (asrt qW (P + 2 + 2 * w))).2.1 = 1 ∧ inW (P + 1 + 2 * w) 0 = true ∧ inW (P + 1 + 2 * w) 1 = true ∧ apl (afm qW (asrt qW (P + 1 + 2 * w))) 0 = (0, (cN w : Int), (cN w : Int)) ∧ apl (afm qW (asrt qW (P + 1 + 2 * w))) 1 = (0, (mN w : Int), (mN w : Int))) ∧ P + 21 < qW.1.length ∧ afm qW (asrt qW (P + 21)) = (0, 1, 3, [(0, -1, 64)]) := by
  refine ⟨fun w hw => ?_, by rcases hP with rfl | rfl <;> decide +kernel, by rcases hP with rfl | rfl <;> decide +kernel⟩
  have h1 : psB P w = true := by
    rcases hP with rfl | rfl
    · exact List.all_eq_true.mp psB_ok.1 w (List.mem_range.mpr hw)
    · exact List.all_eq_true.mp psB_ok.2 w (List.mem_range.mpr hw)
  unfold psB at h1
  simp only [Bool.and_eq_true] at h1
  obtain ⟨a1, a2, a3, a4, a5, a6, a7⟩ := h1
  exact ⟨Nat.le_of_ble_eq_true a1, Nat.eq_of_beq_eq_true a2, Nat.eq_of_beq_eq_true a3, a4, a5, of_decide_eq_true a6, of_decide_eq_true a7⟩
theorem gc_of {h : zH} {P S : Nat} (hS : aSh qW h) (hr : ∀ t ∈ rfs, rd h t.1 t.2.1 = some (.ref t.2.2)) (hP : P = 7 ∨ P = 31) (h5 : rd h 0 5 = some (.ref S)) (h6 : rd h 0 6 = some (.ref P)) : GC (gr h, gs h) P S := by
  have hb : 7 ≤ P ∧ P ≤ 31 := by omega
  obtain ⟨m1, m2, m3, m4, m5, m6⟩ := P_m hP
  obtain ⟨s1, s2, s3⟩ := P_s hP
  have sh : ∀ w : Nat, w < 8 → ∃ len : Nat, gs h (P + 2 + 2 * w) = (0, 1, len) := fun w hw => by
    obtain ⟨a1, a2, a3, -⟩ := s1 w hw
    exact ⟨_, by rw [gs_of hS a1, a2, a3]; rfl⟩
  have o : ∀ {a k b : Nat}, (a, k, b) ∈ rfs → ¬ a = 3 → (xgu (gr h, gs h) 3 1 1).1 a k = some b := fun hm ha => (xgu_oth (fun q => ha q.1)).trans (rf_of hr hm)
  refine ⟨⟨⟨?_, xgu_same, (gs_tp hS).1, ?_⟩, o (by decide +kernel) (by decide), o (by decide +kernel) (by decide), ?_, hb.1, fun w hw => ⟨o (m1 w hw).1 (by omega), o (m1 w hw).2 (by omega), sh w hw⟩, o m2 (by omega), o m3 (by omega), o m4 (by omega), o m5 (by omega), o m6 (by omega), ?_⟩, ⟨rf_of hr (by decide +kernel), rf_of hr (by decide +kernel), fun k hk => ⟨rf_of hr ?_, rf_of hr ?_⟩, rf_of hr (m1 1 (by decide)).1, rf_of hr (m1 3 (by decide)).1, rf_of hr (m1 1 (by decide)).2, rf_of hr (m1 3 (by decide)).2, sh 1 (by decide), sh 3 (by decide), hb.2⟩, rf_of hr (by decide +kernel), rf_of hr (by decide +kernel), gr_of h5, gr_of h6, rf_of hr (by decide +kernel), rf_of hr (by decide +kernel), rf_of hr (by decide +kernel)⟩
  · exact (xgu_oth (by decide)).trans (rf_of hr (by decide +kernel))
  · exact (gs_of hS (by decide +kernel)).trans (by decide +kernel)
  · exact (gs_of hS (by decide +kernel)).trans (by decide +kernel)
  · exact (gs_of hS s2).trans (by rw [s3]; rfl)
  · exact (by decide +kernel : ∀ k : Nat, k < 6 → (56, k, 58 + 2 * k) ∈ rfs) k hk
  · exact (by decide +kernel : ∀ k : Nat, k < 6 → (58 + 2 * k, 9, 58 + 2 * k + 1) ∈ rfs) k hk
/-- refs come only from places that hold refs -/
theorem ref_at {h : zH} {a k b t n : Nat} {kd : Nat} (hK : KT h) (hs : gs h a = (t, kd, n)) (hr : gr h a k = some b) : kd = 3 ∨ (kd = 0 ∧ k < n ∧ xty (ztyT t k) = 3) := by
  have hr := rd_of hr
  have hs : xsh h[a]? = (t, kd, n) := hs
  unfold rd at hr
  cases hq : h[a]? with
  | none => rw [hq] at hr; cases hr
  | some w =>
    obtain ⟨t', v⟩ := w
    rw [hq] at hr hs
    rcases v with l | l | l | fs
    · have hr : l[k]?.map Value.int = some (.ref b) := hr
      cases hz : l[k]? <;> (rw [hz] at hr; cases hr)
    · have hr : l[k]?.map Value.long = some (.ref b) := hr
      cases hz : l[k]? <;> (rw [hz] at hr; cases hr)
    · cases hs; exact Or.inl rfl
    · cases hs
      refine Or.inr ⟨rfl, (List.getElem?_eq_some_iff.mp hr).1, ?_⟩
      rw [← hK _ _ _ _ _ hq hr]
      rfl
theorem no_at {h : zH} {a k b : Nat} (hs : gs h a = (0, 9, 0)) (hr : gr h a k = some b) : False := by
  have hr := rd_of hr
  have hs : xsh h[a]? = (0, 9, 0) := hs
  unfold rd at hr
  cases hq : h[a]? with
  | none => rw [hq] at hr; cases hr
  | some w =>
    obtain ⟨t', v⟩ := w
    rw [hq] at hs
    rcases v with l | l | l | fs <;> cases hs
/-- shapes of the cells that reading reaches: class, kind (0 an object), length -/
def shL : List (Nat × Nat × Nat) := [(4, 0, 7), (6, 0, 7)]
def shB (P : Nat) (a : Nat) : Nat × Nat × Nat := ((afm qW (asrt qW a)).1, [0, 1, 1, 2, 3].getD (afm qW (asrt qW a)).2.1 9, (afm qW (asrt qW a)).2.2.1)
/-- every place of a cell that can hold a reference is known -/
def rcB (P a : Nat) : Bool := Nat.blt a qW.1.length && (!(Nat.beq (shB P a).2.1 3) && (!(Nat.beq (shB P a).2.1 0) || (List.range (shB P a).2.2).all (fun k => !(Nat.beq (xty (ztyT (shB P a).1 k)) 3) || ((Nat.beq a 3 && Nat.beq k 1) || rfs.any (fun t => Nat.beq t.1 a && (Nat.beq t.2.1 k && ((Nat.ble 1 t.2.2 && Nat.ble t.2.2 6) || (Nat.ble P t.2.2 && Nat.blt t.2.2 (P + 24)))))))))
theorem rcB_ok : ((List.range 6).all (fun a => rcB 7 (a + 1) && rcB 31 (a + 1)) && ((List.range 24).all (fun j => rcB 7 (7 + j)) && (List.range 24).all (fun j => rcB 31 (31 + j)))) = true := by decide +kernel
theorem rc_of {h : zH} {P : Nat} (hS : aSh qW h) (hK : KT h) (hr : ∀ t ∈ rfs, rd h t.1 t.2.1 = some (.ref t.2.2)) (h31 : rd h 3 1 = some (.ref 1) ∨ rd h 3 1 = some (.ref 5)) (hP : P = 7 ∨ P = 31) : RC (gr h, gs h) P := by
  have ok := rcB_ok
  rw [Bool.and_eq_true, Bool.and_eq_true] at ok
  have cell : ∀ a : Nat, (1 ≤ a ∧ a ≤ 6) ∨ (P ≤ a ∧ a < P + 24) → rcB P a = true := by
    intro a ha
    rcases ha with ⟨a1, a2⟩ | ⟨a1, a2⟩
    · have q := List.all_eq_true.mp ok.1 (a - 1) (List.mem_range.mpr (by omega))
      rw [Bool.and_eq_true, show a - 1 + 1 = a by omega] at q
      rcases hP with rfl | rfl
      · exact q.1
      · exact q.2
    · rcases hP with rfl | rfl
      · have q := List.all_eq_true.mp ok.2.1 (a - 7) (List.mem_range.mpr (by omega))
        rwa [show 7 + (a - 7) = a by omega] at q
      · have q := List.all_eq_true.mp ok.2.2 (a - 31) (List.mem_range.mpr (by omega))
        rwa [show 31 + (a - 31) = a by omega] at q
  intro a k b ha hb
  have hb : gr h a k = some b := hb
  have main : rcB P a = true → RA (gr h, gs h) P b := by
    intro q
    unfold rcB at q
    rw [Bool.and_eq_true, Bool.and_eq_true] at q
    obtain ⟨q1, q2, q3⟩ := q
    have hs := gs_of hS (Nat.le_of_ble_eq_true q1 : a < qW.1.length)
    rcases ref_at hK hs hb with e | ⟨e1, e2, e3⟩
    · have q2 : (!(Nat.beq ([0, 1, 1, 2, 3].getD (afm qW (asrt qW a)).2.1 9) 3)) = true := q2
      rw [e] at q2
      exact absurd q2 (by decide)
    · have q3 : (!(Nat.beq ([0, 1, 1, 2, 3].getD (afm qW (asrt qW a)).2.1 9) 0) || (List.range (afm qW (asrt qW a)).2.2.1).all (fun k => !(Nat.beq (xty (ztyT (afm qW (asrt qW a)).1 k)) 3) || ((Nat.beq a 3 && Nat.beq k 1) || rfs.any (fun t => Nat.beq t.1 a && (Nat.beq t.2.1 k && ((Nat.ble 1 t.2.2 && Nat.ble t.2.2 6) || (Nat.ble P t.2.2 && Nat.blt t.2.2 (P + 24)))))))) = true := q3
      rw [e1] at q3
      have q4 := List.all_eq_true.mp q3 k (List.mem_range.mpr e2)

      rw [e3] at q4
      have q4 : ((Nat.beq a 3 && Nat.beq k 1) || rfs.any (fun t => Nat.beq t.1 a && (Nat.beq t.2.1 k && ((Nat.ble 1 t.2.2 && Nat.ble t.2.2 6) || (Nat.ble P t.2.2 && Nat.blt t.2.2 (P + 24)))))) = true := q4
      rw [Bool.or_eq_true] at q4
      rcases q4 with q4 | q4
      · rw [Bool.and_eq_true] at q4
        have ea := Nat.eq_of_beq_eq_true q4.1
        have ek := Nat.eq_of_beq_eq_true q4.2
        subst ea
        subst ek
        rcases h31 with z | z
        · rw [gr_of z] at hb
          cases hb
          exact Or.inl ⟨by decide, by decide⟩
        · rw [gr_of z] at hb
          cases hb
          exact Or.inl ⟨by decide, by decide⟩
      · obtain ⟨t, ht, q5⟩ := List.any_eq_true.mp q4
        rw [Bool.and_eq_true, Bool.and_eq_true, Bool.or_eq_true, Bool.and_eq_true, Bool.and_eq_true] at q5
        have ea := Nat.eq_of_beq_eq_true q5.1
        have ek := Nat.eq_of_beq_eq_true q5.2.1
        have ht2 := hr t ht
        rw [ea, ek] at ht2
        rw [gr_of ht2] at hb
        cases hb
        rcases q5.2.2 with ⟨u1, u2⟩ | ⟨u1, u2⟩
        · exact Or.inl ⟨Nat.le_of_ble_eq_true u1, Nat.le_of_ble_eq_true u2⟩
        · exact Or.inr (Or.inl ⟨Nat.le_of_ble_eq_true u1, Nat.le_of_ble_eq_true u2⟩)
  rcases ha with ha | ha | ha
  · exact main (cell a (Or.inl ha))
  · exact main (cell a (Or.inr ha))
  · exact (no_at ha hb).elim
/-- cells of a plan are there -/
theorem pl_there : (List.range 24).all (fun j => !(Nat.beq (shB 7 (7 + j)).2.1 9) && (Nat.blt (7 + j) qW.1.length && (!(Nat.beq (shB 7 (31 + j)).2.1 9) && Nat.blt (31 + j) qW.1.length))) = true := by decide +kernel
theorem pl_nRA {h : zH} {P P0 a : Nat} (hS : aSh qW h) (hP : P0 = 7 ∧ P = 31 ∨ P0 = 31 ∧ P = 7) (ha : P0 ≤ a) (ha2 : a < P0 + 24) : ¬ RA (gr h, gs h) P a := by
  have q := List.all_eq_true.mp pl_there (a - P0) (List.mem_range.mpr (by omega))
  rw [Bool.and_eq_true, Bool.and_eq_true, Bool.and_eq_true] at q
  have hz : ¬ gs h a = (0, 9, 0) := by
    intro z
    rcases hP with ⟨rfl, rfl⟩ | ⟨rfl, rfl⟩
    · rw [show 7 + (a - 7) = a by omega] at q
      have z2 := (gs_of hS (Nat.le_of_ble_eq_true q.2.1 : a < qW.1.length)).symm.trans z
      have z3 : (shB 7 a).2.1 = 9 := congrArg (fun w : Nat × Nat × Nat => w.2.1) z2
      rw [z3] at q
      exact absurd q.1 (by decide)
    · rw [show 31 + (a - 31) = a by omega] at q
      have z2 := (gs_of hS (Nat.le_of_ble_eq_true q.2.2.2 : a < qW.1.length)).symm.trans z
      have z3 : (shB 7 a).2.1 = 9 := congrArg (fun w : Nat × Nat × Nat => w.2.1) z2
      rw [z3] at q
      exact absurd q.2.2.1 (by decide)
  rintro (u | u | u)
  · omega
  · omega
  · exact hz u
theorem gt_of {h : zH} (hS : aSh qW h) (hr : ∀ t ∈ rfs, rd h t.1 t.2.1 = some (.ref t.2.2)) : GT (gr h, gs h) := by
  have s : ∀ a L : Nat, (a, L) ∈ ([(130, 18), (131, 12), (132, 12), (133, 12), (134, 12), (135, 12), (136, 12), (137, 12), (138, 12), (140, 10), (141, 10), (142, 6), (143, 6), (144, 6), (145, 6), (146, 128), (147, 128)] : List (Nat × Nat)) → gs h a = (0, 1, L) := by
    intro a L hm
    have hc : ([(130, 18), (131, 12), (132, 12), (133, 12), (134, 12), (135, 12), (136, 12), (137, 12), (138, 12), (140, 10), (141, 10), (142, 6), (143, 6), (144, 6), (145, 6), (146, 128), (147, 128)] : List (Nat × Nat)).all (fun q => Nat.blt q.1 qW.1.length && decide (((afm qW (asrt qW q.1)).1, [0, 1, 1, 2, 3].getD (afm qW (asrt qW q.1)).2.1 9, (afm qW (asrt qW q.1)).2.2.1) = (0, 1, q.2))) = true := by decide +kernel
    have h1 := List.all_eq_true.mp hc _ hm
    dsimp only at h1
    rw [Bool.and_eq_true] at h1
    obtain ⟨h2, h3⟩ := h1
    have h4 : a < qW.1.length := Nat.le_of_ble_eq_true h2
    rw [gs_of hS h4]
    exact of_decide_eq_true h3
  have k4 : ∀ k : Nat, 4 ≤ k → k ≤ 20 → gr h 128 k = some (127 + k) := fun k k1 k2 => by
    have := (by decide +kernel : ∀ j : Nat, j < 18 → (128, 3 + j, 130 + j) ∈ rfs) (k - 3) (by omega)
    rw [show 3 + (k - 3) = k by omega, show 130 + (k - 3) = 127 + k by omega] at this
    exact rf_of hr this
  have k37 : ∀ k : Nat, 37 ≤ k → k ≤ 51 → gr h 128 k = some (113 + k) := fun k k1 k2 => by
    have := (by decide +kernel : ∀ j : Nat, j < 15 → (128, 37 + j, 150 + j) ∈ rfs) (k - 37) (by omega)
    rw [show 37 + (k - 37) = k by omega, show 150 + (k - 37) = 113 + k by omega] at this
    exact rf_of hr this
  exact ⟨⟨⟨rf_of hr (by decide +kernel), (gs_tp hS).2⟩, ⟨rf_of hr (by decide +kernel), s 130 18 (by decide), k4 19 (by decide) (by decide), k4 20 (by decide) (by decide)⟩, k4, s 131 12 (by decide), s 136 12 (by decide), s 142 6 (by decide)⟩, k37, s, rf_of hr (by decide +kernel)⟩
theorem ofN_of {x : Int32} {c : Nat} (h1 : (c : Int) ≤ x.toInt) (h2 : x.toInt ≤ (c : Int)) (hc : c < 2147483648) : x = Int32.ofNat c := Int32.toInt_inj.mp (by rw [xn_int hc]; omega)
theorem byt_of {h : zH} (hH : aH qW qG [0] [] h) {i : Nat} (hi : i < 700) : 0 ≤ (gi h 1 i).toInt ∧ (gi h 1 i).toInt < 256 := by
  have e : afm qW (asrt qW 1) = (0, 1, 700, [(0, 0, 255)]) := by decide +kernel
  obtain ⟨x, -, g2, g3, g4⟩ := iv_of (a := 1) (k := i) (l := 0) (u := 255) hH (inW_dn row_in.2.2.2.1 (by omega)) (by rw [e]; rfl)
  rw [g2]
  omega
def txM (M : List aD) : Bool := xk0 M && (xk2 M && (kf M 128 2 && (kf M 128 30 && kf M 128 31)))
def tyM (M : List aD) : Bool := xk0 M && (xk1 M && (xk2 M && (kf M 0 2 && kf M 0 3)))
def tzM (M : List aD) : Bool := xkc M
/-- sizes, how many notes, the image's size where one is kept: the same on both sides -/
def lNs (h : zH) : Prop := gi h 55 3 = gi h 130 1 ∧ (gi h 0 11 = 0 ∨ gi h 70 3 = gi h 55 3) ∧ gi h 120 5 = gi h 128 67
def nkR (M : List aD) : Bool := kf M 130 1 && kf M 128 67
def nkC (M : List aD) : Bool := kf M 55 3 && (kf M 0 11 && (kf M 70 3 && kf M 120 5))
theorem nk_in : inW 130 1 = true ∧ inW 128 67 = true ∧ inW 55 3 = true ∧ inW 0 11 = true ∧ inW 70 3 = true ∧ inW 120 5 = true := by decide +kernel
theorem KP.nr {M : List aD} {h0 h : zH} (hp : KP M h0 h) (hk : nkR M = true) : gi h 130 1 = gi h0 130 1 ∧ gi h 128 67 = gi h0 128 67 := by
  unfold nkR at hk
  rw [Bool.and_eq_true] at hk
  exact ⟨gi_rd (hp.pl nk_in.1 hk.1), gi_rd (hp.pl nk_in.2.1 hk.2)⟩
theorem KP.nc {M : List aD} {h0 h : zH} (hp : KP M h0 h) (hk : nkC M = true) : gi h 55 3 = gi h0 55 3 ∧ gi h 0 11 = gi h0 0 11 ∧ gi h 70 3 = gi h0 70 3 ∧ gi h 120 5 = gi h0 120 5 := by
  unfold nkC at hk
  simp only [Bool.and_eq_true] at hk
  obtain ⟨z1, z2, z3, z4, z5, z6⟩ := nk_in
  exact ⟨gi_rd (hp.pl z3 hk.1), gi_rd (hp.pl z4 hk.2.1), gi_rd (hp.pl z5 hk.2.2.1), gi_rd (hp.pl z6 hk.2.2.2)⟩
theorem lNs_keep {M : List aD} {h0 h : zH} (hN : lNs h0) (hp : KP M h0 h) (hk : (nkR M && nkC M) = true) : lNs h := by
  rw [Bool.and_eq_true] at hk
  obtain ⟨a1, a2⟩ := hp.nr hk.1
  obtain ⟨b1, b2, b3, b4⟩ := hp.nc hk.2
  exact ⟨by rw [b1, a1]; exact hN.1, by rw [b2, b3, b1]; exact hN.2.1, by rw [b4, a2]; exact hN.2.2⟩
/-- a cell that is there -/
def csh (a : Nat) : Bool := Nat.blt a qW.1.length && !(Nat.beq (shB 7 a).2.1 9)
theorem nsh {h : zH} {a : Nat} (hS : aSh qW h) (hc : csh a = true) : ¬ gs h a = (0, 9, 0) := fun z => by
  unfold csh at hc
  rw [Bool.and_eq_true] at hc
  have z2 := (gs_of hS (Nat.le_of_ble_eq_true hc.1 : a < qW.1.length)).symm.trans z
  have z3 : (shB 7 a).2.1 = 9 := congrArg (fun w : Nat × Nat × Nat => w.2.1) z2
  rw [z3] at hc
  exact absurd hc.2 (by decide)
theorem nRA {h : zH} {P a : Nat} (hS : aSh qW h) (hP : P = 7 ∨ P = 31) (ha : 55 ≤ a) (hc : csh a = true) : ¬ RA (gr h, gs h) P a := by
  rintro (u | u | u)
  · omega
  · omega
  · exact nsh hS hc u
theorem text_pair {nf : Bool} {xs : List Int32} {d : Nat} {h h1 h2 : zH} {r1 r2 : Option Value} {x : Int32} {M1 M2 : List aD} (hI : lInvX h) (e1 : zEv (zXt nf xs) zIT zmcl zMt d 100 [.ref 0, .int x] h r1 h1) (e2 : zEv (zXt nf xs) zIT zmcl zMt d 181 [.ref 128, .int x] h1 r2 h2) (S1 : aSh qW h1) (S2 : aSh qW h2) (k1 : KP M1 h h1) (k2 : KP M2 h1 h2) (q1 : txM M1 = true) (q2 : tyM M2 = true) (q3 : xkr M1 = true) (q4 : tzM M2 = true) (hN : lNs h) (q5 : nkR M1 = true) (q6 : nkC M2 = true) : r1 = r2 ∧ lX h2 ∧ lNs h2 := by
  obtain ⟨hJ, -, ⟨x1, x2, ⟨P0, P, x3, x4, x5⟩, x6, x7, x8, x9⟩, y31, Pz, T, hPz, y5, yc, yr⟩ := hI
  obtain ⟨n1, n2⟩ := k1.nr q5
  have hn2 := k2.nc q6
  have fin : gi h1 55 3 = gi h2 130 1 → (gi h1 0 11 = 0 ∨ gi h1 70 3 = gi h1 55 3) → gi h1 120 5 = gi h2 128 67 → lNs h2 := fun y1 y2 y3 => ⟨by rw [hn2.1]; exact y1, by rw [hn2.2.1, hn2.2.2.1, hn2.1]; exact y2, by rw [hn2.2.2.2]; exact y3⟩
  have hPP : P0 = Pz := by
    rw [x4] at y5
    cases y5
    rfl
  subst hPP
  have hRC : RC (gr h, gs h) P := rc_of hJ.1.1 x1 x2 y31 (by omega)
  have yr1 : TB T (gi h1) := yr.of (k1.fm q3)
  have hS := hJ.1.1
  obtain ⟨p, hp, p1, p2⟩ := len_of hJ
  have t1 := zEv_KT _ _ _ _ _ _ e1 x1
  have t2 := zEv_KT _ _ _ _ _ _ e2 t1
  unfold txM at q1
  rw [Bool.and_eq_true, Bool.and_eq_true, Bool.and_eq_true, Bool.and_eq_true] at q1
  unfold tyM at q2
  rw [Bool.and_eq_true, Bool.and_eq_true, Bool.and_eq_true, Bool.and_eq_true] at q2
  have w1 : gi h2 0 2 = gi h1 0 2 := gi_rd (k2.pl flt_in.1 q2.2.2.2.1)
  have w2 : gi h2 0 3 = gi h1 0 3 := gi_rd (k2.pl flt_in.2.1 q2.2.2.2.2)
  have w3 : gi h1 128 30 = gi h 128 30 := gi_rd (k1.pl flt_in.2.2.1 q1.2.2.2.1)
  have w4 : gi h1 128 31 = gi h 128 31 := gi_rd (k1.pl flt_in.2.2.2 q1.2.2.2.2)
  have hr1 := k1.rf q1.1 x2
  have hT := tp_eq hS ⟨x1, x2, ⟨P0, P, x3, x4, x5⟩, x6, x7, x8, x9⟩
  have qk := q1.2.1
  unfold xk2 at qk
  rw [Bool.and_eq_true] at qk
  have u1 := tp_keep hS S1 k1 1 1 (Or.inl ⟨rfl, rfl⟩) qk.1
  have u2 := tp_keep hS S1 k1 129 50 (Or.inr ⟨rfl, rfl⟩) qk.2
  have hw : WD (gi h 4) := fun i hi => by
    show xi (rd h 4 i) = _
    rw [x6 i hi]
    rfl
  have hP : P = 7 ∨ P = 31 := by omega
  have hG := gc_of hS x2 hP x4 x5
  have hb := fun i hi => byt_of hJ.1 (i := i) hi
  have hTb : ∀ w : Nat, w < 8 → gi h (P + 1 + 2 * w) 0 = Int32.ofNat (cN w) ∧ gi h (P + 1 + 2 * w) 1 = Int32.ofNat (mN w) := fun w hw8 => by
    obtain ⟨-, -, -, i0, i1, a0, a1⟩ := (P_s hP).1 w hw8
    obtain ⟨y0, -, y1, y2, y3⟩ := iv_of hJ.1 i0 a0
    obtain ⟨z0, -, z1, z2, z3⟩ := iv_of hJ.1 i1 a1
    have c1 := cN_b w
    have c2 := mN_b w
    rw [y1, z1]
    exact ⟨ofN_of y2 y3 (by omega), ofN_of z2 z3 (by omega)⟩
  obtain ⟨m1, g1, G1, hs1, c1⟩ := cg_text hG hRC (nsh hJ.1.1 (by decide +kernel)) p1 hp (fun i hi => (hb i hi).1) (fun i hi => (hb i hi).2) hw hTb h r1 h1 (HS_of x1) e1
  have p3 : gi h1 128 2 = Int32.ofNat p := by
    show xi (rd h1 128 2) = _
    rw [k1.pl (by decide +kernel) q1.2.2.1, p2]
    rfl
  have e9 : gi h1 129 = gi h 1 := by rw [u2, hT]
  obtain ⟨m2, g2, hs2, c2⟩ := ct_textR (wd := gi h 4) (gt_of S1 hr1) hw p3 hp (fun i hi => by rw [e9]; exact (hb i hi).1) (fun i hi => by rw [e9]; exact (hb i hi).2) h1 r2 h2 (HS_of t1) e2
  rw [e9] at c2
  have hx2 : ∀ P' S' : Nat, (P' = 7 ∧ S' = 31 ∨ P' = 31 ∧ S' = 7) → rd h1 0 5 = some (.ref P') → rd h1 0 6 = some (.ref S') → gi h1 0 2 = gi h2 128 30 → gi h1 0 3 = gi h2 128 31 → (rd h1 3 1 = some (.ref 1) ∨ rd h1 3 1 = some (.ref 5)) → (∃ T : Nat → List (List Int32), (∀ w : Nat, w < 8 → tbC (P' + 1 + 2 * w) (P' + 2 + 2 * w) (cN w) (mN w) (T w) (gi h1)) ∧ TB T (gi h2)) → lX h2 := fun P' S' y3 y4 y5 y6 y7 z31 zT => by
    have zt : lT h2 := by
      obtain ⟨T', zc, zr⟩ := zT
      have q5 := q4
      unfold tzM xkc at q5
      rw [Bool.and_eq_true, Bool.and_eq_true] at q5
      refine ⟨?_, P', T', by omega, ?_, k2.tc (by omega) (xkp_of (by omega) q4) zc, zr⟩
      · rw [k2.pl p31_in q5.2.1]; exact z31
      · rw [(k2.ps q2.2.1).1]; exact y4
    refine ⟨t2, ?_, zt⟩
    refine ⟨t2, k2.rf q2.1 hr1, ⟨P', S', y3, ?_, ?_⟩, k2.wd q2.1 (k1.wd q1.1 x6), fun i hi => ?_, by rw [w1]; exact y6, by rw [w2]; exact y7⟩
    · rw [(k2.ps q2.2.1).1]; exact y4
    · rw [(k2.ps q2.2.1).2]; exact y5
    · rw [(k2.tp q2.2.2.1 hi).1, (k2.tp q2.2.2.1 hi).2, u1, e9]
  have eg : ∀ a k b : Nat, G1.1 a k = some b → rd h1 a k = some (.ref b) := fun a k b q => rd_of (by have := hs1.2.2.2.1; rw [this]; exact q)
  have g5 : (gr h, gs h).1 0 5 = some P0 := gr_of x4
  have g6 : (gr h, gs h).1 0 6 = some P := gr_of x5
  have em1 : gi h1 = m1 := hs1.2.1
  have em2 : gi h2 = m2 := hs2.2.1
  rcases c1 with ⟨c1, rfl, em, -, rfl⟩ | ⟨n, c1, hn, f, o, ho, c1'⟩
  · rcases c2 with ⟨-, rfl, c3, c4, cF, -⟩ | ⟨n, c2, hn, -⟩
    · refine ⟨rfl, hx2 _ P x3 (eg _ _ _ g5) (eg _ _ _ g6) ?_ ?_ ?_ ?_, fin ?_ ?_ ?_⟩
      · rw [em2, c3, w3, em1, em]; exact x8
      · rw [em2, c4, w4, em1, em]; exact x9
      · have z := y31; rw [show rd h1 3 1 = rd h 3 1 from by rcases y31 with z | z <;> (rw [z]; exact eg _ _ _ (gr_of z))]; exact y31
      · exact ⟨T, fun w hw8 => by rw [em1, em]; exact yc w hw8, by rw [em2]; exact yr1.of cF.to0⟩
      · rw [em2, cF 130 1 (Or.inl (Or.inl ⟨rfl, by decide⟩)), n1, em1, em]; exact hN.1
      · rw [em1, em]; exact hN.2.1
      · rw [em2, cF 128 67 (Or.inr (Or.inr ⟨rfl, by decide⟩)), n2, em1, em]; exact hN.2.2
    · rw [c2, xn_int (by omega)] at c1
      omega
  · rcases c2 with ⟨c2, -⟩ | ⟨n', c2, hn', f', o', ho', c2'⟩
    · rw [c1, xn_int (by omega)] at c2
      omega
    · have en : n = n' := xn_inj (by omega) (by omega) (c1.symm.trans c2)
      subst en
      have eo := lns_det ho ho'
      subst eo
      cases o with
      | inl e =>
        obtain ⟨c3, c3a, c3b, c4, c4g, c4x⟩ := c1'
        have c4f : ∀ a : Nat, ¬ RA (gr h, gs h) P a → ¬ a = 0 → m1 a = gi h a := fun a z1 z2 => (c4x a z1 z2).1
        obtain ⟨c5, c5a, c5b, c5f, -⟩ := c2'
        subst c4
        refine ⟨c3.trans c5.symm, hx2 _ P x3 (eg _ _ _ ((xgu_oth (by decide)).trans g5)) (eg _ _ _ ((xgu_oth (by decide)).trans g6)) (by rw [em1, em2, c3a, c5a]) (by rw [em1, em2, c3b, c5b]) (Or.inl (eg _ _ _ xgu_same)) ⟨T, fun w hw8 => ?_, by rw [em2]; exact yr1.of c5f.to0⟩, fin ?_ ?_ ?_⟩
        · have zz : ∀ a : Nat, P0 ≤ a → a < P0 + 24 → gi h1 a = gi h a := fun a a1 a2 => by
            rw [em1]
            exact c4f a (pl_nRA hS x3 a1 a2) (by omega)
          exact tbC_row (yc w hw8) (zz _ (by omega) (by omega)) (zz _ (by omega) (by omega))
        · rw [em2, c5f 130 1 (Or.inl (Or.inl ⟨rfl, by decide⟩)), n1, em1, c4f 55 (nRA hS hP (by decide) (by decide +kernel)) (by decide)]; exact hN.1
        · rw [em1, c4g, c4f 55 (nRA hS hP (by decide) (by decide +kernel)) (by decide), c4f 70 (nRA hS hP (by decide) (by decide +kernel)) (by decide)]; exact hN.2.1
        · rw [em2, c5f 128 67 (Or.inr (Or.inr ⟨rfl, by decide⟩)), n2, em1, c4f 120 (nRA hS hP (by decide) (by decide +kernel)) (by decide)]; exact hN.2.2
      | inr q =>
        obtain ⟨c3, c3a, c3b, c4, ⟨c41, -, -, c44, -, c46, -⟩, c4t⟩ := c1'
        obtain ⟨c5, c5a, c5b, c5t, ⟨-, -, c53, -⟩, -⟩ := c2'
        subst c4
        refine ⟨c3.trans c5.symm, hx2 P P0 (by omega) (eg _ _ _ ?_) (eg _ _ _ ?_) (by rw [em1, em2, c3a, c5a]) (by rw [em1, em2, c3b, c5b]) (Or.inl (eg _ _ _ ?_)) ⟨q.1.1, by rw [em1]; exact c4t, by rw [em2]; exact c5t⟩, fin (by rw [em1, em2, c41, c5t.2.1 1 (by decide) (by decide)]) (Or.inl (by rw [em1]; exact c44)) (by rw [em1, em2, c46, c53])⟩
        · exact (xgu_oth (by decide)).trans ((xgu_oth (by decide)).trans xgu_same)
        · exact (xgu_oth (by decide)).trans xgu_same
        · exact (xgu_oth (by decide)).trans ((xgu_oth (by decide)).trans ((xgu_oth (by decide)).trans xgu_same))
