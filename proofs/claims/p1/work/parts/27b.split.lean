/-! The same in three checks, each with less memory: the class's ends and the reference's ends lie in written lists, and the lists agree. -/
abbrev yK : Type := List (List (Int × Int) × Value)
def ieq (a b : Int) : Bool := match a with
  | .ofNat m => match b with
    | .ofNat n => Nat.beq m n
    | .negSucc _ => false
  | .negSucc m => match b with
    | .ofNat _ => false
    | .negSucc n => Nat.beq m n
theorem ieq_ok {a b : Int} (h : ieq a b = true) : a = b := by
  cases a with
  | ofNat m =>
    cases b with
    | ofNat n => rw [Nat.eq_of_beq_eq_true (show Nat.beq m n = true from h)]
    | negSucc n => cases h
  | negSucc m =>
    cases b with
    | ofNat n => cases h
    | negSucc n => rw [Nat.eq_of_beq_eq_true (show Nat.beq m n = true from h)]
/-- the written intervals stand first -/
def ykeq : List (Int × Int) → List (Int × Int) → Bool
  | _, [] => true
  | p :: ps, q :: qs => ieq p.1 q.1 && (ieq p.2 q.2 && ykeq ps qs)
  | [], _ :: _ => false
theorem ykeq_ok : ∀ {ps qs : List (Int × Int)} {k : Nat} {q : Int × Int}, ykeq ps qs = true → qs[k]? = some q → ps[k]? = some q
  | _, [], _, _, _, h => by simp at h
  | [], q :: qs, _, _, h, _ => by cases h
  | p :: ps, q :: qs, 0, z, h, hz => by
    have h' : (ieq p.1 q.1 && (ieq p.2 q.2 && ykeq ps qs)) = true := h
    rw [Bool.and_eq_true, Bool.and_eq_true] at h'
    simp at hz
    subst hz
    show some p = some q
    rw [Prod.ext_iff.mpr ⟨ieq_ok h'.1, ieq_ok h'.2.1⟩]
  | p :: ps, q :: qs, k + 1, z, h, hz => by
    have h' : (ieq p.1 q.1 && (ieq p.2 q.2 && ykeq ps qs)) = true := h
    rw [Bool.and_eq_true, Bool.and_eq_true] at h'
    have hz' : qs[k]? = some z := by simpa using hz
    have := ykeq_ok h'.2.2 hz'
    simpa using this
def yfits (L : yK) (o : fO) : Bool := match o.2.1 with
  | some v => !ysym v && L.any (fun q => ykeq o.1.1 q.1 && decide (v = q.2))
  | none => false
noncomputable def yq1 (d mi : Nat) (E : yE) (n : Nat) (L : yK) : Bool := match fev (yX0 none) zIT zmcl zMt fB d mi E (.ref 0 :: ysyms n) (176, yTx) with
  | none => false
  | some os => os.all (fun o => yfits L o && yokx o)
noncomputable def yq2 (d mi : Nat) (E : yE) (n : Nat) (L : yK) : Bool := match fev (yX0 none) zIT zmcl zMt fB d mi E (.ref 128 :: ysyms n) (176, yTm) with
  | none => false
  | some os => os.all (fun o => yfits L o && yokm o)
def ydl : List (Int × Int) → List (Int × Int) → Bool
  | p :: ps, q :: qs => ilt p.2 q.1 || (ilt q.2 p.1 || ydl ps qs)
  | _, _ => false
def yq3 (L1 L2 : yK) : Bool := L1.all (fun a => L2.all (fun b => ydl a.1 b.1 || decide (a.2 = b.2)))
theorem ydl_no : ∀ {ps qs : List (Int × Int)} {vals : List Int32}, (∀ (k : Nat) (q : Int × Int) (x : Int32), ps[k]? = some q → vals[k]? = some x → q.1 ≤ x.toInt ∧ x.toInt ≤ q.2) → (∀ (k : Nat) (q : Int × Int) (x : Int32), qs[k]? = some q → vals[k]? = some x → q.1 ≤ x.toInt ∧ x.toInt ≤ q.2) → ps.length ≤ vals.length → ydl ps qs = false
  | [], _, _, _, _, _ => by unfold ydl; rfl
  | p :: ps, [], _, _, _, _ => by unfold ydl; rfl
  | p :: ps, q :: qs, [], _, _, hl => by simp at hl
  | p :: ps, q :: qs, x :: vals, h1, h2, hl => by
    have i1 := h1 0 p x rfl rfl
    have i2 := h2 0 q x rfl rfl
    have ih := ydl_no (ps := ps) (qs := qs) (vals := vals) (fun k q x hq hx => h1 (k + 1) q x (by simpa using hq) (by simpa using hx)) (fun k q x hq hx => h2 (k + 1) q x (by simpa using hq) (by simpa using hx)) (by simpa using hl)
    show (ilt p.2 q.1 || (ilt q.2 p.1 || ydl ps qs)) = false
    rw [ih, Bool.or_false, Bool.or_eq_false_iff]
    constructor
    · cases hb : ilt p.2 q.1 with
      | false => rfl
      | true => have := ilt_ok hb; omega
    · cases hb : ilt q.2 p.1 with
      | false => rfl
      | true => have := ilt_ok hb; omega
set_option maxHeartbeats 1000000 in
theorem ypair2 {d mi1 mi2 n : Nat} {E : yE} {L1 L2 : yK} (hc1 : yq1 d mi1 E n L1 = true) (hc2 : yq2 d mi2 E n L2 = true) (hc3 : yq3 L1 L2 = true) (hL1 : L1.all (fun q => Nat.ble q.1.length n) = true) (nf : Bool) (xs vals : List Int32) (hn : vals.length = n) (hn2 : n ≤ 100) (hE1 : E.1.length = n) (hE2 : E.2 = 0) (hv : ∀ (k : Nat) (q : Int × Int) (x : Int32), E.1[k]? = some q → vals[k]? = some x → q.1 ≤ x.toInt ∧ x.toInt ≤ q.2) :
    ∃ (v : Value) (hx hm : zH), hx.length = 128 ∧ hm.length = 48 ∧ zEv (zXt nf xs) zIT zmcl zMt d mi1 (.ref 0 :: vals.map Value.int) (yHx ++ yHo) (some v) (hx ++ yHo) ∧ zEv (zXt nf xs) zIT zmcl zMt d mi2 (.ref 128 :: vals.map Value.int) (hx ++ yHo) (some v) (hx ++ hm) := by
  unfold yq1 at hc1
  split at hc1
  · cases hc1
  · next os1 ho1 =>
    unfold yq2 at hc2
    split at hc2
    · cases hc2
    · next os2 ho2 =>
      have hX := yX0_ok nf xs (o := none) (Or.inl rfl)
      obtain ⟨o1, m1, ρ1, r1, h1, a1, a2, a3, a0, a4, a5⟩ := fev_ok fB_ok hX ymcl d mi1 E _ _ _ ho1 (hok176 _) (vals, [], yHo) (.ref 0 :: vals.map Value.int) (yHx ++ yHo) (yG0 (hE1.trans hn.symm) hE2 hv) (y0 (yv_r rfl) (yvs_syms hn hn2 rfl)) (by rw [yTx_eq]; exact yA.app (yhs_vars (ρ := (vals, [], yHo)) yHo_len) (yhs_plain yHx_plain))
      have c1 := List.all_eq_true.mp hc1 o1 m1
      rw [Bool.and_eq_true] at c1
      have k1 := c1.2
      unfold yokx at k1
      rw [Bool.and_eq_true] at k1
      have k2 : (hL o1.2.2).length = 176 := by rw [hlen_ok a0]; exact Nat.eq_of_beq_eq_true k1.1
      have k3 : yvok 0 ((hL o1.2.2).drop 128) = true := by rw [hL_d (Nat.eq_of_beq_eq_true k1.1)]; exact k1.2
      have hl1 : h1.length = 176 := by rw [yA.len a4, k2]
      have hd1 : h1.drop 128 = yHo := by
        have h9 := yA.drop 128 a4
        have h8 := yhs_vok (n := 48) (by rw [a1.2.2]; exact yHo_len) (by rw [List.length_drop, k2]) k3 h9
        rw [h8, a1.2.2]
      have ht1 : h1 = h1.take 128 ++ yHo := by rw [← hd1, List.take_append_drop]
      have hl9 : (h1.take 128).length = 128 := by rw [List.length_take, hl1]; rfl
      obtain ⟨o2, m2, ρ2, r2, h2, b1, b2, b3, b0, b4, b5⟩ := fev_ok fB_ok hX ymcl d mi2 E _ _ _ ho2 (hok176 _) (vals, [], h1.take 128) (.ref 128 :: vals.map Value.int) (h1.take 128 ++ yHo) (yG0 (hE1.trans hn.symm) hE2 hv) (y0 (yv_r rfl) (yvs_syms hn hn2 rfl)) (by rw [yTm_eq]; exact yA.app (yhs_plain yHo_plain) (yhs_vars (ρ := (vals, [], h1.take 128)) hl9))
      have c2 := List.all_eq_true.mp hc2 o2 m2
      rw [Bool.and_eq_true] at c2
      have k4 := c2.2
      unfold yokm at k4
      rw [Bool.and_eq_true] at k4
      have k5 : (hL o2.2.2).length = 176 := by rw [hlen_ok b0]; exact Nat.eq_of_beq_eq_true k4.1
      have k6 : yvok 0 ((hL o2.2.2).take 128) = true := by rw [hL_t (Nat.eq_of_beq_eq_true k4.1)]; exact k4.2
      have hl2 : h2.length = 176 := by rw [yA.len b4, k5]
      have hd2 : h2.take 128 = h1.take 128 := by
        have h9 := yA.take 128 b4
        have h8 := yhs_vok (n := 128) (by rw [b1.2.2]; exact hl9) (by rw [List.length_take, k5]; rfl) k6 h9
        rw [h8, b1.2.2]
      have ht2 : h2 = h1.take 128 ++ h2.drop 128 := by rw [← hd2, List.take_append_drop]
      have f1 := c1.1
      unfold yfits at f1
      split at f1
      · next v hv1 =>
        rw [Bool.and_eq_true] at f1
        obtain ⟨q1, n1, g1⟩ := List.any_eq_true.mp f1.2
        rw [Bool.and_eq_true] at g1
        have f2 := c2.1
        unfold yfits at f2
        split at f2
        · next v2 hv2 =>
          rw [Bool.and_eq_true] at f2
          obtain ⟨q2, n2, g2⟩ := List.any_eq_true.mp f2.2
          rw [Bool.and_eq_true] at g2
          have c3 := List.all_eq_true.mp (List.all_eq_true.mp hc3 q1 n1) q2 n2
          have hle : q1.1.length ≤ vals.length := by rw [hn]; exact Nat.le_of_ble_eq_true (List.all_eq_true.mp hL1 q1 n1)
          rw [ydl_no (vals := vals) (fun k q x hq hx => yin (ρ := (vals, [], yHo)) rfl a1 a2 (ykeq_ok g1.1 hq) hx) (fun k q x hq hx => yin (ρ := (vals, [], h1.take 128)) rfl b1 b2 (ykeq_ok g2.1 hq) hx) hle, Bool.false_or] at c3
          have e9 : v = v2 := by rw [of_decide_eq_true g1.2, of_decide_eq_true g2.2, of_decide_eq_true c3]
          have c4 : ysym v = false := by simpa using f1.1
          rw [hv1] at a3
          rw [hv2, ← e9] at b3
          have e1 := yrv_some a3 c4
          have e2 := yrv_some b3 c4
          subst e1 e2
          refine ⟨v, h1.take 128, h2.drop 128, hl9, by rw [List.length_drop, hl2], ?_, ?_⟩
          · rw [← ht1]; exact a5
          · rw [← ht2]; exact b5
        · cases f2
      · cases f1
