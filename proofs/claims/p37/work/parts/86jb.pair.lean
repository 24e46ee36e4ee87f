/-! Joined: 86jb.pair, 86k.init, 86l.init0. -/
section
/-! A call on the class and the same on the reference, both on fresh objects: all ends of both, held against each other. -/
def yVars (n : Nat) : zH := (List.range n).map (fun k => (1000 + k, .inr (.inr (.inl []))))
def yHo : zH := yHm ++ [(1, .inr (.inl [0]))]
def ysyms (n : Nat) : List Value := (List.range n).map (fun k => .float (UInt32.ofNat k))
/-- less, in few steps -/
def ilt (a b : Int) : Bool := match a with
  | .ofNat m => match b with
    | .ofNat n => Nat.ble (Nat.succ m) n
    | .negSucc _ => false
  | .negSucc m => match b with
    | .ofNat _ => true
    | .negSucc n => Nat.ble (Nat.succ n) m
theorem ilt_ok {a b : Int} (h : ilt a b = true) : a < b := by
  cases a with
  | ofNat m =>
    cases b with
    | ofNat n =>
      have := Nat.le_of_ble_eq_true (show Nat.ble (Nat.succ m) n = true from h)
      show (m : Int) < (n : Int)
      omega
    | negSucc n => cases h
  | negSucc m =>
    cases b with
    | ofNat n =>
      show Int.negSucc m < (n : Int)
      omega
    | negSucc n => have := Nat.le_of_ble_eq_true (show Nat.ble (Nat.succ n) m = true from h); omega
def ydisj (n : Nat) (a b : fO) : Bool := (List.range n).any (fun k => match a.1.1[k]?, b.1.1[k]? with
  | some p, some q => ilt p.2 q.1 || ilt q.2 p.1
  | _, _ => false)
def ysame (a b : fO) : Bool := match a.2.1 with
  | some v => !ysym v && decide (b.2.1 = some v)
  | none => false
def ycross (n : Nat) (os1 os2 : List fO) : Bool := os1.all (fun a => os2.all (fun b => ydisj n a b || ysame a b))
def yvok : Nat → zH → Bool
  | _, [] => true
  | k, (t, .inr (.inr (.inl []))) :: r => Nat.beq t (1000 + k) && yvok (k + 1) r
  | _, _ :: _ => false
def yokx (o : fO) : Bool := Nat.beq o.2.2.1 176 && yvok 0 ((tl7 o.2.2.2.2).take 48)
def yokm (o : fO) : Bool := Nat.beq o.2.2.1 176 && yvok 0 (tl7 o.2.2.2.1)
theorem hL_d {h : fH} (e : h.1 = 176) : (hL h).drop 128 = (tl7 h.2.2).take 48 := by
  unfold hL tl8
  rw [e, List.take_append, tn7, List.take_of_length_le (by rw [tn7]; decide), List.drop_append, tn7, List.drop_of_length_le (by rw [tn7]; decide)]
  rfl
theorem hL_t {h : fH} (e : h.1 = 176) : (hL h).take 128 = tl7 h.2.1 := by
  unfold hL tl8
  rw [e, List.take_take, List.take_append_of_le_length (by rw [tn7]; decide), List.take_of_length_le (by rw [tn7]; decide)]
def yeqE (a b : zE) : Bool := decide (a.1 = b.1) && (match a.2, b.2 with
  | .inl l, .inl m => decide (l = m)
  | .inr (.inl l), .inr (.inl m) => decide (l = m)
  | .inr (.inr (.inl l)), .inr (.inr (.inl m)) => decide (l = m)
  | .inr (.inr (.inr l)), .inr (.inr (.inr m)) => decide (l = m)
  | _, _ => false)
def yeqH : zH → zH → Bool
  | [], [] => true
  | a :: as, b :: bs => yeqE a b && yeqH as bs
  | _, _ => false
theorem yeqE_ok {a b : zE} (h : yeqE a b = true) : a = b := by
  obtain ⟨t, a⟩ := a
  obtain ⟨u, b⟩ := b
  unfold yeqE at h
  rw [Bool.and_eq_true] at h
  obtain ⟨h1, h2⟩ := h
  have h3 : t = u := of_decide_eq_true h1
  subst h3
  rcases a with l | l | l | l <;> rcases b with m | m | m | m <;> first | cases h2 | (rw [of_decide_eq_true (p := l = m) h2])
theorem yeqH_ok : ∀ {a b : zH}, yeqH a b = true → a = b
  | [], [], _ => rfl
  | [], b :: bs, h => by cases h
  | a :: as, [], h => by cases h
  | a :: as, b :: bs, h => by
    have h' : (yeqE a b && yeqH as bs) = true := h
    rw [Bool.and_eq_true] at h'
    rw [yeqE_ok h'.1, yeqH_ok h'.2]
theorem yvok_get : ∀ {h : zH} {k j : Nat} {a : zE}, yvok k h = true → h[j]? = some a → a = (1000 + (k + j), .inr (.inr (.inl [])))
  | [], _, _, _, _, h => by simp at h
  | (t, .inr (.inr (.inl []))) :: r, k, 0, a, hk, h => by
    have hk' : (Nat.beq t (1000 + k) && yvok (k + 1) r) = true := hk
    rw [Bool.and_eq_true] at hk'
    have e := Nat.eq_of_beq_eq_true hk'.1
    simp at h
    rw [← h, e]
    rfl
  | (t, .inr (.inr (.inl []))) :: r, k, j + 1, a, hk, h => by
    have hk' : (Nat.beq t (1000 + k) && yvok (k + 1) r) = true := hk
    rw [Bool.and_eq_true] at hk'
    have h1 : r[j]? = some a := by simpa using h
    have := yvok_get hk'.2 h1
    rw [this, show k + 1 + j = k + (j + 1) by omega]
  | (t, .inr (.inr (.inl (x :: l)))) :: r, k, j, a, hk, h => by cases hk
  | (t, .inr (.inr (.inr l))) :: r, k, j, a, hk, h => by cases hk
  | (t, .inr (.inl l)) :: r, k, j, a, hk, h => by cases hk
  | (t, .inl l) :: r, k, j, a, hk, h => by cases hk
noncomputable def yck (d mi1 mi2 : Nat) (E : yE) (n : Nat) : Bool := match fev (yX0 none) zIT zmcl zMt fB d mi1 E (.ref 0 :: ysyms n) (176, yTx) with
  | none => false
  | some os1 => match fev (yX0 none) zIT zmcl zMt fB d mi2 E (.ref 128 :: ysyms n) (176, yTm) with
    | none => false
    | some os2 => ycross n os1 os2 && (os1.all yokx && os2.all yokm)
noncomputable def yall (d mi : Nat) (E : yE) (n : Nat) (P : Value → Bool) : Bool := match fev (yX0 none) zIT zmcl zMt fB d mi E (.ref 0 :: ysyms n) (176, yTx) with
  | none => false
  | some os => os.all (fun o => match o.2.1 with
    | some v => P v
    | none => false)
def yplain (a : zE) : Bool := match a with
  | (t, .inr (.inr (.inr fs))) => decide (t < 100) && fs.all (fun v => !ysym v)
  | (t, .inr (.inr (.inl _))) => decide (t < 1000)
  | _ => true
theorem yce_plain {ρ : yR} {a : zE} (h : yplain a = true) : yce ρ a a := by
  obtain ⟨t, a⟩ := a
  rcases a with l | l | l | fs
  · exact rfl
  · exact rfl
  · exact yce_rm (of_decide_eq_true h)
  · have h' : (decide (t < 100) && fs.all (fun v => !ysym v)) = true := h
    rw [Bool.and_eq_true] at h'
    exact yce_mk (of_decide_eq_true h'.1) (yvs_r (fun v hv => by have := List.all_eq_true.mp h'.2 v hv; simpa using this))
theorem yA_of {α β : Type} {R : α → β → Prop} : ∀ {as : List α} {bs : List β}, as.length = bs.length → (∀ (i : Nat) (a : α) (b : β), as[i]? = some a → bs[i]? = some b → R a b) → yA R as bs
  | [], [], _, _ => rfl
  | [], b :: bs, h, _ => by simp at h
  | a :: as, [], h, _ => by simp at h
  | a :: as, b :: bs, h, hp => ⟨b, bs, rfl, hp 0 a b rfl rfl, yA_of (by simpa using h) (fun i x y h1 h2 => hp (i + 1) x y (by simpa using h1) (by simpa using h2))⟩
theorem yhs_plain {ρ : yR} {h : zH} (hp : h.all yplain = true) : yhs ρ h h := yA_of rfl (fun i a b h1 h2 => by
  rw [h1] at h2
  cases h2
  exact yce_plain (List.all_eq_true.mp hp a (List.mem_of_getElem? h1)))
theorem yVars_len (n : Nat) : (yVars n).length = n := by simp [yVars]
theorem yVars_get {n k : Nat} {a : zE} (h : (yVars n)[k]? = some a) : k < n ∧ a = (1000 + k, .inr (.inr (.inl []))) := by
  have h0 := h
  unfold yVars at h
  rw [List.getElem?_map] at h
  obtain ⟨j, hj, e⟩ := Option.map_eq_some_iff.mp h
  rw [List.getElem?_range (by
    have := (List.getElem?_eq_some_iff.mp hj).1
    rwa [List.length_range] at this)] at hj
  cases hj
  have : k < n := by
    have := (List.getElem?_eq_some_iff.mp h0).1
    rwa [yVars_len] at this
  exact ⟨this, e.symm⟩
theorem yhs_vars {ρ : yR} {n : Nat} (hn : ρ.2.2.length = n) : yhs ρ (yVars n) ρ.2.2 := yA_of (by rw [yVars_len, hn]) (fun i a b h1 h2 => by
  obtain ⟨-, rfl⟩ := yVars_get h1
  exact yce_var.mpr h2)
theorem yhs_vok {ρ : yR} {n : Nat} {ah cs : zH} (hn : ρ.2.2.length = n) (hl : ah.length = n) (hk : yvok 0 ah = true) (h : yhs ρ ah cs) : cs = ρ.2.2 := by
  have hl2 := yA.len h
  refine List.ext_getElem? (fun i => ?_)
  by_cases hi : i < n
  · have h1 : ah[i]? = some (ah[i]'(by omega)) := List.getElem?_eq_getElem (by omega)
    obtain ⟨b, g1, g2⟩ := yA.get h h1
    rw [yvok_get hk h1, Nat.zero_add] at g2
    rw [g1, yce_var.mp g2]
  · rw [List.getElem?_eq_none_iff.mpr (by omega), List.getElem?_eq_none_iff.mpr (by omega)]
theorem yvs_syms {ρ : yR} {vals : List Int32} {n : Nat} (hn : vals.length = n) (hs : n ≤ 100) (hv : ρ.1 = vals) : yvs ρ (ysyms n) (vals.map Value.int) := yA_of (by simp [ysyms, hn]) (fun i a b h1 h2 => by
  unfold ysyms at h1
  rw [List.getElem?_map] at h1 h2
  obtain ⟨j, hj, e⟩ := Option.map_eq_some_iff.mp h1
  obtain ⟨x, hx, e2⟩ := Option.map_eq_some_iff.mp h2
  have hi : i < vals.length := (List.getElem?_eq_some_iff.mp hx).1
  rw [List.getElem?_range (by omega)] at hj
  cases hj
  subst e e2
  refine ⟨x, ?_, rfl⟩
  rw [UInt32.toNat_ofNat_of_lt' (show i < 4294967296 by omega), hv]
  exact hx)
theorem yHx_plain : yHx.all yplain = true := by decide +kernel
theorem yHo_plain : yHo.all yplain = true := by decide +kernel
theorem yHx_len : yHx.length = 128 := by decide +kernel
theorem yHo_len : yHo.length = 48 := by decide +kernel
theorem yTx_eq : hL (176, yTx) = yHx ++ yVars 48 := yeqH_ok (by decide +kernel)
theorem yTm_eq : hL (176, yTm) = yVars 128 ++ yHo := yeqH_ok (by decide +kernel)
theorem hok176 (t : t8) : hok (176, t) := show 176 ≤ 256 by decide
theorem yrv_some {ρ : yR} {v : Value} {r : Option Value} (h : yrv ρ (some v) r) (hs : ysym v = false) : r = some v := by
  obtain ⟨w, e, hw⟩ := h
  rw [e, yv_c hw hs]
theorem yG0 {E : yE} {vals : List Int32} {cs : zH} (hE1 : E.1.length = vals.length) (hE2 : E.2 = 0) (hv : ∀ (k : Nat) (q : Int × Int) (x : Int32), E.1[k]? = some q → vals[k]? = some x → q.1 ≤ x.toInt ∧ x.toInt ≤ q.2) : yG E (vals, [], cs) := ⟨hE1.symm, by rw [hE2]; rfl, hv⟩
theorem yin {E : yE} {ρ ρ' : yR} {vals : List Int32} {k : Nat} {q : Int × Int} {x : Int32} (h0 : ρ.1 = vals) (hx : yext ρ ρ') (hG : yG E ρ') (hq : E.1[k]? = some q) (hk : vals[k]? = some x) : q.1 ≤ x.toInt ∧ x.toInt ≤ q.2 := by
  obtain ⟨⟨a, ha⟩, -, -⟩ := hx
  exact hG.2.2 k q x hq (by rw [ha, h0]; exact ylook hk)
theorem ydisj_no {n : Nat} {a b : fO} {vals : List Int32} {ρ1 ρ1' ρ2 ρ2' : yR} (hn : vals.length = n) (h1 : ρ1.1 = vals) (h2 : ρ2.1 = vals) (x1 : yext ρ1 ρ1') (x2 : yext ρ2 ρ2') (g1 : yG a.1 ρ1') (g2 : yG b.1 ρ2') : ydisj n a b = false := by
  unfold ydisj
  rw [List.any_eq_false]
  intro k hk
  have hkn := List.mem_range.mp hk
  have hx : vals[k]? = some (vals[k]'(by omega)) := List.getElem?_eq_getElem (by omega)
  split
  · next p q hp hq =>
    have i1 := yin h1 x1 g1 hp hx
    have i2 := yin h2 x2 g2 hq hx
    intro hb
    rw [Bool.or_eq_true] at hb
    rcases hb with hb | hb
    · have := ilt_ok hb; omega
    · have := ilt_ok hb; omega
  · simp
set_option maxHeartbeats 1000000 in
theorem ypair {d mi1 mi2 n : Nat} {E : yE} (hck : yck d mi1 mi2 E n = true) (nf : Bool) (xs vals : List Int32) (hn : vals.length = n) (hn2 : n ≤ 100) (hE1 : E.1.length = n) (hE2 : E.2 = 0) (hv : ∀ (k : Nat) (q : Int × Int) (x : Int32), E.1[k]? = some q → vals[k]? = some x → q.1 ≤ x.toInt ∧ x.toInt ≤ q.2) :
    ∃ (v : Value) (hx hm : zH), hx.length = 128 ∧ hm.length = 48 ∧ zEv (zXt nf xs) zIT zmcl zMt d mi1 (.ref 0 :: vals.map Value.int) (yHx ++ yHo) (some v) (hx ++ yHo) ∧ zEv (zXt nf xs) zIT zmcl zMt d mi2 (.ref 128 :: vals.map Value.int) (hx ++ yHo) (some v) (hx ++ hm) ∧ ∀ P : Value → Bool, yall d mi1 E n P = true → P v = true := by
  unfold yck at hck
  split at hck
  · cases hck
  · next os1 ho1 =>
    split at hck
    · cases hck
    · next os2 ho2 =>
      rw [Bool.and_eq_true, Bool.and_eq_true] at hck
      obtain ⟨hc, hok1, hok2⟩ := hck
      have hX := yX0_ok nf xs (o := none) (Or.inl rfl)
      obtain ⟨o1, m1, ρ1, r1, h1, a1, a2, a3, a0, a4, a5⟩ := fev_ok fB_ok hX ymcl d mi1 E _ _ _ ho1 (hok176 _) (vals, [], yHo) (.ref 0 :: vals.map Value.int) (yHx ++ yHo) (yG0 (hE1.trans hn.symm) hE2 hv) (y0 (yv_r rfl) (yvs_syms hn hn2 rfl)) (by rw [yTx_eq]; exact yA.app (yhs_vars (ρ := (vals, [], yHo)) yHo_len) (yhs_plain yHx_plain))
      have k1 := List.all_eq_true.mp hok1 o1 m1
      unfold yokx at k1
      rw [Bool.and_eq_true] at k1
      have k2 : (hL o1.2.2).length = 176 := by rw [hlen_ok a0]; exact Nat.eq_of_beq_eq_true k1.1
      have k3 : yvok 0 ((hL o1.2.2).drop 128) = true := by rw [hL_d (Nat.eq_of_beq_eq_true k1.1)]; exact k1.2
      have hl1 : h1.length = 176 := by rw [yA.len a4, k2]
      have hd1 : h1.drop 128 = yHo := by
        have h9 := yA.drop 128 a4
        have h8 := yhs_vok (n := 48) (by rw [a1.2.2]; exact yHo_len) (by rw [List.length_drop, k2]) k3 h9
        rw [h8, a1.2.2]
      have ht1 : h1 = h1.take 128 ++ yHo := by rw [← hd1, List.take_append_drop]
      have hl9 : (h1.take 128).length = 128 := by rw [List.length_take, hl1]; rfl
      obtain ⟨o2, m2, ρ2, r2, h2, b1, b2, b3, b0, b4, b5⟩ := fev_ok fB_ok hX ymcl d mi2 E _ _ _ ho2 (hok176 _) (vals, [], h1.take 128) (.ref 128 :: vals.map Value.int) (h1.take 128 ++ yHo) (yG0 (hE1.trans hn.symm) hE2 hv) (y0 (yv_r rfl) (yvs_syms hn hn2 rfl)) (by rw [yTm_eq]; exact yA.app (yhs_plain yHo_plain) (yhs_vars (ρ := (vals, [], h1.take 128)) hl9))
      have k4 := List.all_eq_true.mp hok2 o2 m2
      unfold yokm at k4
      rw [Bool.and_eq_true] at k4
      have k5 : (hL o2.2.2).length = 176 := by rw [hlen_ok b0]; exact Nat.eq_of_beq_eq_true k4.1
      have k6 : yvok 0 ((hL o2.2.2).take 128) = true := by rw [hL_t (Nat.eq_of_beq_eq_true k4.1)]; exact k4.2
      have hl2 : h2.length = 176 := by rw [yA.len b4, k5]
      have hd2 : h2.take 128 = h1.take 128 := by
        have h9 := yA.take 128 b4
        have h8 := yhs_vok (n := 128) (by rw [b1.2.2]; exact hl9) (by rw [List.length_take, k5]; rfl) k6 h9
        rw [h8, b1.2.2]
      have ht2 : h2 = h1.take 128 ++ h2.drop 128 := by rw [← hd2, List.take_append_drop]
      have c1 := List.all_eq_true.mp (List.all_eq_true.mp hc o1 m1) o2 m2
      rw [ydisj_no hn (ρ1 := (vals, [], yHo)) (ρ2 := (vals, [], h1.take 128)) rfl rfl a1 b1 a2 b2, Bool.false_or] at c1
      unfold ysame at c1
      split at c1
      · next v hv1 =>
        rw [Bool.and_eq_true] at c1
        have c2 : ysym v = false := by simpa using c1.1
        have c3 := of_decide_eq_true c1.2
        rw [hv1] at a3
        rw [c3] at b3
        have e1 := yrv_some a3 c2
        have e2 := yrv_some b3 c2
        subst e1 e2
        refine ⟨v, h1.take 128, h2.drop 128, hl9, by rw [List.length_drop, hl2], ?_, ?_, fun P hP => ?_⟩
        · rw [← ht1]; exact a5
        · rw [← ht2]; exact b5
        · unfold yall at hP
          rw [ho1] at hP
          have h9 := List.all_eq_true.mp hP o1 m1
          rw [hv1] at h9
          exact h9
      · cases c1
end
section
/-! What is checked of the class's constructor. -/
noncomputable def yin1 (nf : Bool) : Bool := match fev (yX0 (some nf)) zIT zmcl zMt fB 20 nX10_init ([], 0) [.ref 0] (1, yTi) with
  | none => false
  | some os => os.all (fun o => (match o.2.1 with
    | none => true
    | some _ => false) && yeqH (hL o.2.2) yHx)
end
section
theorem yin1_f : yin1 false = true := by decide +kernel
end
