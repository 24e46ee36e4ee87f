/-! Joined: 70.qbase, 71.qghost, 72.qdep, 73.qlook, 74.qrule1, 75.qrule2, 76.qrule3, 77.qrule4, 78.qgok, 79.adepth, 80.qhand. -/
section
/-! The machine's tables are the engine's. -/
theorem qXX (nf : Bool) (xs : List Int32) : aXX qY (zXt nf xs) := by
  refine ⟨fun c j => rfl, fun c j => rfl, fun c j e => rfl, fun e q h => ?_, fun c j => rfl, fun c j => rfl, fun c j v h => ?_, fun e => rfl⟩
  · have h0 : (bif Nat.beq e 6 then none else zxaT [] e) = some q := h
    show zxaT xs e = some q
    cases hb : Nat.beq e 6 with
    | true => rw [hb] at h0; cases h0
    | false =>
      rw [hb] at h0
      have h1 : zxaT [] e = some q := h0
      unfold zxaT at h1 ⊢
      rw [hb] at h1 ⊢
      exact h1
  · have h0 : (bif Nat.beq c 15 && Nat.beq j 1053 then some (.retAddr 999) else zstaT true c j) = some v := h
    cases hb : (Nat.beq c 15 && Nat.beq j 1053) with
    | true =>
      rw [hb] at h0
      rw [Bool.and_eq_true] at hb
      have e1 := Nat.eq_of_beq_eq_true hb.1
      have e2 := Nat.eq_of_beq_eq_true hb.2
      subst e1 e2
      refine Or.inl ⟨(Option.some.inj h0).symm, ?_⟩
      show ∃ w : Value, zstaT nf 15 1053 = some w ∧ (w = .null ∨ ∃ n : Nat, w = .retAddr n)
      cases nf
      · exact ⟨_, rfl, by first | exact Or.inl rfl | exact Or.inr ⟨_, rfl⟩⟩
      · exact ⟨_, rfl, by first | exact Or.inl rfl | exact Or.inr ⟨_, rfl⟩⟩
    | false =>
      rw [hb] at h0
      have h1 : zstaT true c j = some v := h0
      refine Or.inr ?_
      show zstaT nf c j = some v
      unfold zstaT at h1 ⊢
      rw [hb] at h1 ⊢
      exact h1
theorem qL_chk : qW.2.all (fun t => Nat.ble t.2.2.1 999999) = true := by decide +kernel
theorem qL (s : Nat) : (afm qW s).2.2.1 < 1000000 := by
  unfold afm
  rw [List.getD_eq_getElem?_getD]
  cases hq : qW.2[s]? with
  | none => show 0 < 1000000; decide
  | some t =>
    have := able (List.all_eq_true.mp qL_chk t (List.mem_of_getElem? hq))
    show t.2.2.1 < 1000000
    omega
/-- the check of a contract out of its pieces -/
theorem ackq_of {Y : zX} {I : zI} {mcl : Nat → Nat} {W : aW} {Pt : aPt} {mt : zM} {K Kn : Nat → List aQ} {q : aQ} {NS : List aN} {d n : Nat} (h0 : ack0 Y I mcl W Pt mt K Kn q NS d n = true) (hN : NS.all (ackN Y I mcl W Pt mt K Kn q NS d n) = true) : ackq Y I mcl W Pt mt K Kn q NS d n = true := by
  unfold ackq
  rw [h0, hN]
  rfl
end
section
/-! The places that are worked out of the heap, by what stands in the protected places alone (qv), so that a write elsewhere leaves them. -/
abbrev qF : Type := Nat → Nat → Int
def qi (h : zH) (a k : Nat) : Int := match rd h a k with
  | some (.int x) => x.toInt
  | _ => 0
/-- the protected places -/
def qpr (a k : Nat) : Bool := (Nat.beq a 2 && (Nat.beq k 2 || Nat.beq k 4)) || ((Nat.beq a 6 && Nat.ble k 71) || ((Nat.beq a 128 && (Nat.beq k 33 || (Nat.beq k 26 || Nat.beq k 27))) || ((Nat.beq a 130 && Nat.beq k 17) || ((Nat.beq a 144 && Nat.ble k 5) || ((Nat.beq a 145 && Nat.ble k 5) || ((Nat.beq a 146 && Nat.ble k 127) || (Nat.beq a 147 && Nat.ble k 127)))))))
def qv (h : zH) : qF := fun a k => bif qpr a k then qi h a k else 0
def qud (F : qF) (a k : Nat) (z : Int) : qF := fun b j => if b = a ∧ j = k then z else F b j
/-- no sign -/
def qns (t : Int) : Bool := !((ile 10 t && ile t 19) || (ile 44 t && ile t 46))
def qgc (F : qF) : Nat := (List.range (F 2 2).toNat).countP (fun i => qns (F 6 i))
/-- one knot: height behind it -/
def qst (s v : Int) (H : Nat) : Option Nat := bif ieq s 0 then some (H + 1) else (bif ieq s 1 then (bif ile 0 v && ile v 6 then some (H + 1) else none) else (bif ieq s 2 then (bif ieq v 260 then (bif Nat.ble 1 H then some H else none) else (bif Nat.ble 2 H then some (H - 1) else none)) else none))
/-- height of n knots from b on, in the half that begins at o -/
def qhn (F : qF) (o b : Nat) : Nat → Option Nat
  | 0 => some 0
  | n + 1 => match qhn F o b n with
    | some H => qst (F 146 (o + (b + n))) (F 147 (o + (b + n))) H
    | none => none
def qba (F : qF) : Int := max (F 144 3) (max (F 144 4) (F 144 5))
/-- a law from f to t, in the half that begins at o, is whole (or isn't there); m: as far as knots go -/
def qlw (F : qF) (o : Nat) (f t m : Int) : Prop := 0 ≤ f ∧ f ≤ m ∧ t ≤ m ∧ (f < t → qhn F o f.toNat (t - f).toNat = some 1)
def qp2 (F : qF) : Prop := F 130 17 ≤ 64 ∧ qlw F 64 (F 144 3) (F 145 3) (F 130 17) ∧ qlw F 64 (F 144 4) (F 145 4) (F 130 17) ∧ qlw F 64 (F 144 5) (F 145 5) (F 130 17)
def qp1 (F : qF) : Prop := qlw F 0 (F 144 0) (F 145 0) 64 ∧ qlw F 0 (F 144 1) (F 145 1) 64 ∧ qlw F 0 (F 144 2) (F 145 2) 64
/-- how many leading places of the first half are as in the second -/
def qpe (F : qF) (a n : Nat) : Nat → Nat
  | 0 => 0
  | k + 1 => if qpe F a n k = k ∧ F a k = F a (n + k) then k + 1 else qpe F a n k
noncomputable def qbo (p : Prop) : Int := @ite Int p (Classical.propDecidable p) 1 0
theorem qbo_t {p : Prop} (h : p) : qbo p = 1 := if_pos h
theorem qbo_f {p : Prop} (h : ¬ p) : qbo p = 0 := if_neg h
theorem qbo_1 {p : Prop} (h : qbo p = 1) : p := by
  by_cases q : p
  · exact q
  · rw [qbo_f q] at h
    cases h
theorem qbo_01 (p : Prop) : 0 ≤ qbo p ∧ qbo p ≤ 1 := by
  by_cases q : p
  · rw [qbo_t q]; decide
  · rw [qbo_f q]; decide
noncomputable def qgF (F : qF) (a k : Nat) : Option Int := if a = 2 then (if k = 7 then some (qgc F) else if k = 8 then some (F 2 4 - (F 2 2).toNat + qgc F) else if k = 9 then some (72 - F 2 2) else none)
  else if a = 128 then (if k = 74 then some (F 128 33 - (F 130 17).toNat) else if k = 75 then some (match qhn F 64 (qba F).toNat ((F 130 17).toNat - (qba F).toNat) with
    | some H => (H : Int)
    | none => -1) else if k = 76 then some (qba F) else if k = 77 then some (qbo (qp2 F)) else if k = 78 then some (qbo (qp1 F)) else if k = 79 then some (qpe F 144 3 3) else if k = 80 then some (qpe F 145 3 3) else if k = 81 then some (qpe F 146 64 64) else if k = 82 then some (qpe F 147 64 64) else if k = 83 then some (if F 128 26 = 0 then F 128 27 else 0) else none) else none
noncomputable def qG : aG := fun a k h => (qgF (qv h) a k).map Int32.ofInt
/-! What a write does to what stands in the protected places. -/
theorem qi_int {h : zH} {a k : Nat} {x : Int32} (q : rd h a k = some (.int x)) : qi h a k = x.toInt := by
  unfold qi
  rw [q]
theorem qv_on {h : zH} {a k : Nat} (q : qpr a k = true) : qv h a k = qi h a k := by
  unfold qv
  rw [q]
  rfl
theorem qv_wr {h h' : zH} {a k : Nat} (hp : qpr a k = true) (hr : ∀ b j : Nat, ¬ (b = a ∧ j = k) → rd h' b j = rd h b j) : qv h' = qud (qv h) a k (qi h' a k) := by
  funext b j
  unfold qud
  by_cases e : b = a ∧ j = k
  · rw [if_pos e, e.1, e.2, qv_on hp]
  · rw [if_neg e]
    unfold qv
    have : qi h' b j = qi h b j := by unfold qi; rw [hr b j e]
    rw [this]
theorem qv_no {h h' : zH} {a k : Nat} (hp : qpr a k = false) (hr : ∀ b j : Nat, ¬ (b = a ∧ j = k) → rd h' b j = rd h b j) : qv h' = qv h := by
  funext b j
  unfold qv
  by_cases e : b = a ∧ j = k
  · rw [e.1, e.2, hp]
    rfl
  · have : qi h' b j = qi h b j := by unfold qi; rw [hr b j e]
    rw [this]
theorem qud_same (F : qF) (a k : Nat) (z : Int) : qud F a k z a k = z := by simp [qud]
theorem qud_a {F : qF} {a k b : Nat} {z : Int} (h : ¬ b = a) (j : Nat) : qud F a k z b j = F b j := by simp [qud, h]
theorem qud_k {F : qF} {a k b j : Nat} {z : Int} (h : ¬ j = k) : qud F a k z b j = F b j := by simp [qud, h]
/-- a protected place is one by the list, too -/
theorem qpr_prt {a k : Nat} (h : aprt qPt.1 (asrt qW a) k k = true) : qpr a k = false := by
  cases hq : qpr a k with
  | false => rfl
  | true =>
    exfalso
    unfold aprt at h
    rw [List.all_eq_true] at h
    have key : ∀ p ∈ qPt.1, ieq (asrt qW a) p.1 = true → p.2.1 ≤ (k : Int) → (k : Int) ≤ p.2.2 → False := fun p hp h1 h2 h3 => by
      have := h p hp
      rw [h1, ile_iff.mpr h2, ile_iff.mpr h3] at this
      cases this
    unfold qpr at hq
    simp only [Bool.or_eq_true, Bool.and_eq_true] at hq
    rcases hq with ⟨q1, q2 | q2⟩ | ⟨q1, q2⟩ | ⟨q1, q2⟩ | ⟨q1, q2⟩ | ⟨q1, q2⟩ | ⟨q1, q2⟩ | ⟨q1, q2⟩ | ⟨q1, q2⟩
    · have e1 := Nat.eq_of_beq_eq_true q1; have e2 := Nat.eq_of_beq_eq_true q2; subst e1 e2
      exact key (2, 2, 2) (by decide) (by decide +kernel) (by decide) (by decide)
    · have e1 := Nat.eq_of_beq_eq_true q1; have e2 := Nat.eq_of_beq_eq_true q2; subst e1 e2
      exact key (2, 4, 4) (by decide) (by decide +kernel) (by decide) (by decide)
    · have e1 := Nat.eq_of_beq_eq_true q1; have e2 := Nat.le_of_ble_eq_true q2; subst e1
      exact key (6, 0, 71) (by decide) (by decide +kernel) (by show (0 : Int) ≤ k; omega) (by show (k : Int) ≤ 71; omega)
    · have e1 := Nat.eq_of_beq_eq_true q1; subst e1
      rcases q2 with q2 | q2 | q2
      · have e2 := Nat.eq_of_beq_eq_true q2; subst e2
        exact key (49, 33, 33) (by decide) (by decide +kernel) (by decide) (by decide)
      · have e2 := Nat.eq_of_beq_eq_true q2; subst e2
        exact key (49, 26, 26) (by decide) (by decide +kernel) (by decide) (by decide)
      · have e2 := Nat.eq_of_beq_eq_true q2; subst e2
        exact key (49, 27, 27) (by decide) (by decide +kernel) (by decide) (by decide)
    · have e1 := Nat.eq_of_beq_eq_true q1; have e2 := Nat.eq_of_beq_eq_true q2; subst e1 e2
      exact key (51, 17, 17) (by decide) (by decide +kernel) (by decide) (by decide)
    · have e1 := Nat.eq_of_beq_eq_true q1; have e2 := Nat.le_of_ble_eq_true q2; subst e1
      exact key (65, 0, 5) (by decide) (by decide +kernel) (by show (0 : Int) ≤ k; omega) (by show (k : Int) ≤ 5; omega)
    · have e1 := Nat.eq_of_beq_eq_true q1; have e2 := Nat.le_of_ble_eq_true q2; subst e1
      exact key (66, 0, 5) (by decide) (by decide +kernel) (by show (0 : Int) ≤ k; omega) (by show (k : Int) ≤ 5; omega)
    · have e1 := Nat.eq_of_beq_eq_true q1; have e2 := Nat.le_of_ble_eq_true q2; subst e1
      exact key (67, 0, 127) (by decide) (by decide +kernel) (by show (0 : Int) ≤ k; omega) (by show (k : Int) ≤ 127; omega)
    · have e1 := Nat.eq_of_beq_eq_true q1; have e2 := Nat.le_of_ble_eq_true q2; subst e1
      exact key (68, 0, 127) (by decide) (by decide +kernel) (by show (0 : Int) ≤ k; omega) (by show (k : Int) ≤ 127; omega)
/-- beside the real places -/
theorem qG_real {a k : Nat} {h : zH} (ha : a < qW.1.length) (hk : k < (afm qW (asrt qW a)).2.2.1) : qG a k h = none := by
  have h2 : (afm qW (asrt qW 2)).2.2.1 = 7 := by decide +kernel
  have h3 : (afm qW (asrt qW 128)).2.2.1 = 74 := by decide +kernel
  show (qgF (qv h) a k).map Int32.ofInt = none
  unfold qgF
  by_cases e : a = 2
  · subst e
    rw [h2] at hk
    rw [if_pos rfl, if_neg (by omega), if_neg (by omega), if_neg (by omega)]
    rfl
  · rw [if_neg e]
    by_cases e : a = 128
    · subst e
      rw [h3] at hk
      rw [if_pos rfl, if_neg (by omega), if_neg (by omega), if_neg (by omega), if_neg (by omega), if_neg (by omega), if_neg (by omega), if_neg (by omega), if_neg (by omega), if_neg (by omega), if_neg (by omega)]
      rfl
    · rw [if_neg e]
      rfl
theorem qG_plain {h h' : zH} {a k : Nat} (hp : aprt qPt.1 (asrt qW a) k k = true) (hr : ∀ b j : Nat, ¬ (b = a ∧ j = k) → rd h' b j = rd h b j) (b j : Nat) : qG b j h' = qG b j h := by
  show (qgF (qv h') b j).map Int32.ofInt = (qgF (qv h) b j).map Int32.ofInt
  rw [qv_no (qpr_prt hp) hr]
end
section
/-! What the worked-out places depend on. -/
theorem qgF_congr {F F' : qF} {a k : Nat} (h7 : a = 2 → k = 7 → qgc F' = qgc F) (h8 : a = 2 → k = 8 → F' 2 4 - (F' 2 2).toNat + qgc F' = F 2 4 - (F 2 2).toNat + qgc F) (h9 : a = 2 → k = 9 → F' 2 2 = F 2 2) (h74 : a = 128 → k = 74 → F' 128 33 - (F' 130 17).toNat = F 128 33 - (F 130 17).toNat) (h75 : a = 128 → k = 75 → qhn F' 64 (qba F').toNat ((F' 130 17).toNat - (qba F').toNat) = qhn F 64 (qba F).toNat ((F 130 17).toNat - (qba F).toNat)) (h76 : a = 128 → k = 76 → qba F' = qba F) (h77 : a = 128 → k = 77 → (qp2 F' ↔ qp2 F)) (h78 : a = 128 → k = 78 → (qp1 F' ↔ qp1 F)) (h79 : a = 128 → k = 79 → qpe F' 144 3 3 = qpe F 144 3 3) (h80 : a = 128 → k = 80 → qpe F' 145 3 3 = qpe F 145 3 3) (h81 : a = 128 → k = 81 → qpe F' 146 64 64 = qpe F 146 64 64) (h82 : a = 128 → k = 82 → qpe F' 147 64 64 = qpe F 147 64 64) (h83 : a = 128 → k = 83 → F' 128 26 = F 128 26 ∧ F' 128 27 = F 128 27) : qgF F' a k = qgF F a k := by
  unfold qgF
  by_cases e : a = 2
  · rw [if_pos e, if_pos e]
    by_cases e7 : k = 7
    · rw [if_pos e7, if_pos e7, h7 e e7]
    · rw [if_neg e7, if_neg e7]
      by_cases e8 : k = 8
      · rw [if_pos e8, if_pos e8, h8 e e8]
      · rw [if_neg e8, if_neg e8]
        by_cases e9 : k = 9
        · rw [if_pos e9, if_pos e9, h9 e e9]
        · rw [if_neg e9, if_neg e9]
  · rw [if_neg e, if_neg e]
    by_cases e : a = 128
    · rw [if_pos e, if_pos e]
      by_cases g : k = 74
      · rw [if_pos g, if_pos g, h74 e g]
      · rw [if_neg g, if_neg g]
        by_cases g : k = 75
        · rw [if_pos g, if_pos g, h75 e g]
        · rw [if_neg g, if_neg g]
          by_cases g : k = 76
          · rw [if_pos g, if_pos g, h76 e g]
          · rw [if_neg g, if_neg g]
            by_cases g : k = 77
            · rw [if_pos g, if_pos g, propext (h77 e g)]
            · rw [if_neg g, if_neg g]
              by_cases g : k = 78
              · rw [if_pos g, if_pos g, propext (h78 e g)]
              · rw [if_neg g, if_neg g]
                by_cases g : k = 79
                · rw [if_pos g, if_pos g, h79 e g]
                · rw [if_neg g, if_neg g]
                  by_cases g : k = 80
                  · rw [if_pos g, if_pos g, h80 e g]
                  · rw [if_neg g, if_neg g]
                    by_cases g : k = 81
                    · rw [if_pos g, if_pos g, h81 e g]
                    · rw [if_neg g, if_neg g]
                      by_cases g : k = 82
                      · rw [if_pos g, if_pos g, h82 e g]
                      · rw [if_neg g, if_neg g]
                        by_cases g : k = 83
                        · rw [if_pos g, if_pos g, (h83 e g).1, (h83 e g).2]
                        · rw [if_neg g, if_neg g]
    · rw [if_neg e, if_neg e]
theorem qgc_c {F F' : qF} (h2 : F' 2 2 = F 2 2) (h6 : ∀ i : Nat, i < (F 2 2).toNat → F' 6 i = F 6 i) : qgc F' = qgc F := by
  unfold qgc
  rw [h2]
  refine List.countP_congr (fun i hi => ?_)
  rw [h6 i (List.mem_range.mp hi)]
theorem qgc_le (F : qF) : qgc F ≤ (F 2 2).toNat := by
  have := List.countP_le_length (p := fun i => qns (F 6 i)) (l := List.range (F 2 2).toNat)
  rw [List.length_range] at this
  exact this
theorem qhn_c {F F' : qF} {o o' b : Nat} : ∀ (n : Nat), (∀ i : Nat, i < n → F' 146 (o' + (b + i)) = F 146 (o + (b + i)) ∧ F' 147 (o' + (b + i)) = F 147 (o + (b + i))) → qhn F' o' b n = qhn F o b n
  | 0, _ => rfl
  | n + 1, h => by
    have ih := qhn_c n (fun i hi => h i (by omega))
    have hn := h n (by omega)
    unfold qhn
    rw [ih, hn.1, hn.2]
theorem qlw_m {F F' : qF} {o o' : Nat} {f t m m' : Int} (hm : m ≤ m') (he : ∀ i : Nat, f ≤ i → (i : Int) < t → F' 146 (o' + i) = F 146 (o + i) ∧ F' 147 (o' + i) = F 147 (o + i)) : qlw F o f t m → qlw F' o' f t m' := fun h => by
  refine ⟨h.1, by have := h.2.1; omega, by have := h.2.2.1; omega, fun hl => ?_⟩
  rw [← h.2.2.2 hl]
  have h0 := h.1
  exact qhn_c _ (fun i hi => he (f.toNat + i) (by omega) (by omega))
theorem qp2_m {F F' : qF} (hN : F 130 17 ≤ F' 130 17) (h64 : F' 130 17 ≤ 64) (hs : ∀ k : Nat, 3 ≤ k → k < 6 → F' 144 k = F 144 k ∧ F' 145 k = F 145 k) (hk : ∀ i : Nat, (i : Int) < F 130 17 → F' 146 (64 + i) = F 146 (64 + i) ∧ F' 147 (64 + i) = F 147 (64 + i)) : qp2 F → qp2 F' := fun h => by
  unfold qp2 at h ⊢
  obtain ⟨-, h1, h2, h3⟩ := h
  rw [(hs 3 (by omega) (by omega)).1, (hs 3 (by omega) (by omega)).2, (hs 4 (by omega) (by omega)).1, (hs 4 (by omega) (by omega)).2, (hs 5 (by omega) (by omega)).1, (hs 5 (by omega) (by omega)).2]
  refine ⟨h64, qlw_m hN (fun i _ hi => hk i ?_) h1, qlw_m hN (fun i _ hi => hk i ?_) h2, qlw_m hN (fun i _ hi => hk i ?_) h3⟩
  · have := h1.2.2.1; omega
  · have := h2.2.2.1; omega
  · have := h3.2.2.1; omega
theorem qp2_c {F F' : qF} (hN : F' 130 17 = F 130 17) (hs : ∀ k : Nat, 3 ≤ k → k < 6 → F' 144 k = F 144 k ∧ F' 145 k = F 145 k) (hk : ∀ i : Nat, (i : Int) < F 130 17 → F' 146 (64 + i) = F 146 (64 + i) ∧ F' 147 (64 + i) = F 147 (64 + i)) : qp2 F' ↔ qp2 F :=
  ⟨fun h => qp2_m (by omega) (by have := h.1; omega) (fun k h1 h2 => ⟨(hs k h1 h2).1.symm, (hs k h1 h2).2.symm⟩) (fun i hi => ⟨(hk i (by omega)).1.symm, (hk i (by omega)).2.symm⟩) h, fun h => qp2_m (by omega) (by have := h.1; omega) hs hk h⟩
theorem qp1_m {F F' : qF} (hs : ∀ k : Nat, k < 3 → F' 144 k = F 144 k ∧ F' 145 k = F 145 k) (hk : ∀ i : Nat, i < 64 → F' 146 i = F 146 i ∧ F' 147 i = F 147 i) : qp1 F → qp1 F' := fun h => by
  unfold qp1 at h ⊢
  obtain ⟨h1, h2, h3⟩ := h
  have g : ∀ i : Nat, i < 64 → F' 146 (0 + i) = F 146 (0 + i) ∧ F' 147 (0 + i) = F 147 (0 + i) := fun i hi => by
    rw [Nat.zero_add]
    exact hk i hi
  rw [(hs 0 (by omega)).1, (hs 0 (by omega)).2, (hs 1 (by omega)).1, (hs 1 (by omega)).2, (hs 2 (by omega)).1, (hs 2 (by omega)).2]
  refine ⟨qlw_m (Int.le_refl _) (fun i _ hi => g i ?_) h1, qlw_m (Int.le_refl _) (fun i _ hi => g i ?_) h2, qlw_m (Int.le_refl _) (fun i _ hi => g i ?_) h3⟩
  · have := h1.2.2.1; omega
  · have := h2.2.2.1; omega
  · have := h3.2.2.1; omega
theorem qp1_c {F F' : qF} (hs : ∀ k : Nat, k < 3 → F' 144 k = F 144 k ∧ F' 145 k = F 145 k) (hk : ∀ i : Nat, i < 64 → F' 146 i = F 146 i ∧ F' 147 i = F 147 i) : qp1 F' ↔ qp1 F :=
  ⟨fun h => qp1_m (fun k h1 => ⟨(hs k h1).1.symm, (hs k h1).2.symm⟩) (fun i hi => ⟨(hk i hi).1.symm, (hk i hi).2.symm⟩) h, fun h => qp1_m hs hk h⟩
theorem qba_c {F F' : qF} (hs : ∀ k : Nat, 3 ≤ k → k < 6 → F' 144 k = F 144 k) : qba F' = qba F := by
  unfold qba
  rw [hs 3 (by omega) (by omega), hs 4 (by omega) (by omega), hs 5 (by omega) (by omega)]
theorem qpe_c {F F' : qF} {a n : Nat} : ∀ (k : Nat), (∀ i : Nat, i < k → F' a i = F a i ∧ F' a (n + i) = F a (n + i)) → qpe F' a n k = qpe F a n k
  | 0, _ => rfl
  | k + 1, h => by
    have ih := qpe_c k (fun i hi => h i (by omega))
    have hn := h k (by omega)
    unfold qpe
    rw [ih, hn.1, hn.2]
theorem qpe_le (F : qF) (a n : Nat) : ∀ k : Nat, qpe F a n k ≤ k
  | 0 => Nat.le_refl _
  | k + 1 => by
    have ih := qpe_le F a n k
    unfold qpe
    split <;> omega
theorem qpe_pre {F : qF} {a n : Nat} : ∀ (k j : Nat), j ≤ qpe F a n k → ∀ i : Nat, i < j → F a i = F a (n + i)
  | 0, j, h, i, hi => by
    have h : j ≤ 0 := h
    omega
  | k + 1, j, h, i, hi => by
    unfold qpe at h
    split at h
    · next q =>
      by_cases e : i = k
      · rw [e]; exact q.2
      · exact qpe_pre k k (by rw [q.1]; exact Nat.le_refl _) i (by omega)
    · exact qpe_pre k j h i hi
theorem qpe_ge {F : qF} {a n : Nat} : ∀ (k j : Nat), j ≤ k → (∀ i : Nat, i < j → F a i = F a (n + i)) → j ≤ qpe F a n k
  | 0, j, h, _ => by omega
  | k + 1, j, h, he => by
    by_cases e : j = k + 1
    · subst e
      have ih := qpe_ge k k (Nat.le_refl _) (fun i hi => he i (by omega))
      have := qpe_le F a n k
      unfold qpe
      rw [if_pos ⟨by omega, he k (by omega)⟩]
      exact Nat.le_refl _
    · have ih := qpe_ge k j (by omega) he
      have := qpe_le F a n k
      unfold qpe
      split <;> omega
/-! Writes: all but these stay. -/
theorem qd6 {F : qF} {k0 : Nat} {z : Int} (h : (F 2 2).toNat ≤ k0) (a k : Nat) : qgF (qud F 6 k0 z) a k = qgF F a k := by
  have c : qgc (qud F 6 k0 z) = qgc F := qgc_c (by simp [qud]) (fun i hi => by simp [qud]; omega)
  refine qgF_congr (fun _ _ => c) (fun _ _ => ?_) (fun _ _ => ?_) (fun _ _ => ?_) (fun _ _ => ?_) (fun _ _ => ?_) (fun _ _ => ?_) (fun _ _ => ?_) (fun _ _ => ?_) (fun _ _ => ?_) (fun _ _ => ?_) (fun _ _ => ?_) (fun _ _ => ⟨by simp [qud], by simp [qud]⟩)
  · rw [c]; simp [qud]
  · simp [qud]
  · simp [qud]
  · have hb : qba (qud F 6 k0 z) = qba F := by simp [qba, qud]
    rw [hb, show qud F 6 k0 z 130 17 = F 130 17 by simp [qud]]
    exact qhn_c _ (fun i _ => by simp [qud])
  · simp [qba, qud]
  · exact qp2_c (by simp [qud]) (fun i _ _ => by simp [qud]) (fun i _ => by simp [qud])
  · exact qp1_c (fun i _ => by simp [qud]) (fun i _ => by simp [qud])
  · exact qpe_c _ (fun i _ => by simp [qud])
  · exact qpe_c _ (fun i _ => by simp [qud])
  · exact qpe_c _ (fun i _ => by simp [qud])
  · exact qpe_c _ (fun i _ => by simp [qud])
theorem qd2r {F : qF} {k0 : Nat} {z : Int} (a k : Nat) (ha : ¬ a = 2) : qgF (qud F 2 k0 z) a k = qgF F a k := by
  refine qgF_congr (fun e _ => absurd e ha) (fun e _ => absurd e ha) (fun e _ => absurd e ha) (fun _ _ => ?_) (fun _ _ => ?_) (fun _ _ => ?_) (fun _ _ => ?_) (fun _ _ => ?_) (fun _ _ => ?_) (fun _ _ => ?_) (fun _ _ => ?_) (fun _ _ => ?_) (fun _ _ => ⟨by simp [qud], by simp [qud]⟩)
  · simp [qud]
  · have hb : qba (qud F 2 k0 z) = qba F := by simp [qba, qud]
    rw [hb, show qud F 2 k0 z 130 17 = F 130 17 by simp [qud]]
    exact qhn_c _ (fun i _ => by simp [qud])
  · simp [qba, qud]
  · exact qp2_c (by simp [qud]) (fun i _ _ => by simp [qud]) (fun i _ => by simp [qud])
  · exact qp1_c (fun i _ => by simp [qud]) (fun i _ => by simp [qud])
  · exact qpe_c _ (fun i _ => by simp [qud])
  · exact qpe_c _ (fun i _ => by simp [qud])
  · exact qpe_c _ (fun i _ => by simp [qud])
  · exact qpe_c _ (fun i _ => by simp [qud])
theorem qd24 {F : qF} {z : Int} (a k : Nat) (h8 : ¬ (a = 2 ∧ k = 8)) : qgF (qud F 2 4 z) a k = qgF F a k := by
  by_cases ha : a = 2
  · have c : qgc (qud F 2 4 z) = qgc F := qgc_c (by simp [qud]) (fun i hi => by simp [qud])
    have no : ∀ {p : Prop}, a = 128 → p := fun e => by omega
    exact qgF_congr (fun _ _ => c) (fun e1 e2 => absurd ⟨e1, e2⟩ h8) (fun _ _ => by simp [qud]) (fun e _ => no e) (fun e _ => no e) (fun e _ => no e) (fun e _ => no e) (fun e _ => no e) (fun e _ => no e) (fun e _ => no e) (fun e _ => no e) (fun e _ => no e) (fun e _ => no e)
  · exact qd2r a k ha
theorem qd22 {F : qF} {z : Int} (a k : Nat) (h7 : ¬ (a = 2 ∧ k = 7)) (h8 : ¬ (a = 2 ∧ k = 8)) (h9 : ¬ (a = 2 ∧ k = 9)) : qgF (qud F 2 2 z) a k = qgF F a k := by
  by_cases ha : a = 2
  · have no : ∀ {p : Prop}, a = 128 → p := fun e => by omega
    exact qgF_congr (fun e1 e2 => absurd ⟨e1, e2⟩ h7) (fun e1 e2 => absurd ⟨e1, e2⟩ h8) (fun e1 e2 => absurd ⟨e1, e2⟩ h9) (fun e _ => no e) (fun e _ => no e) (fun e _ => no e) (fun e _ => no e) (fun e _ => no e) (fun e _ => no e) (fun e _ => no e) (fun e _ => no e) (fun e _ => no e) (fun e _ => no e)
  · exact qd2r a k ha
/-- a write to a cell of the reference leaves the Reader's -/
theorem qdr {F : qF} {c k0 : Nat} {z : Int} (h2 : ¬ c = 2) (h6 : ¬ c = 6) {a k : Nat} (hr : a = 128 → qgF (qud F c k0 z) a k = qgF F a k) : qgF (qud F c k0 z) a k = qgF F a k := by
  by_cases ha : a = 128
  · exact hr ha
  · have no : ∀ {p : Prop}, a = 128 → p := fun e => absurd e ha
    have h2' : ¬ 2 = c := fun e => h2 e.symm
    have h6' : ¬ 6 = c := fun e => h6 e.symm
    have c1 : qgc (qud F c k0 z) = qgc F := qgc_c (by simp [qud, h2']) (fun i hi => by simp [qud, h6'])
    exact qgF_congr (fun _ _ => c1) (fun _ _ => by rw [c1]; simp [qud, h2']) (fun _ _ => by simp [qud, h2']) (fun e _ => no e) (fun e _ => no e) (fun e _ => no e) (fun e _ => no e) (fun e _ => no e) (fun e _ => no e) (fun e _ => no e) (fun e _ => no e) (fun e _ => no e) (fun e _ => no e)
theorem qd33 {F : qF} {z : Int} (a k : Nat) (h : ¬ (a = 128 ∧ k = 74)) : qgF (qud F 128 33 z) a k = qgF F a k := by
  refine qdr (by omega) (by omega) (fun ha => ?_)
  have no : ∀ {p : Prop}, a = 2 → p := fun e => by omega
  refine qgF_congr (fun e _ => no e) (fun e _ => no e) (fun e _ => no e) (fun e1 e2 => absurd ⟨e1, e2⟩ h) (fun _ _ => ?_) (fun _ _ => ?_) (fun _ _ => ?_) (fun _ _ => ?_) (fun _ _ => ?_) (fun _ _ => ?_) (fun _ _ => ?_) (fun _ _ => ?_) (fun _ _ => ⟨by simp [qud], by simp [qud]⟩)
  · have hb : qba (qud F 128 33 z) = qba F := by simp [qba, qud]
    rw [hb, show qud F 128 33 z 130 17 = F 130 17 by simp [qud]]
    exact qhn_c _ (fun i _ => by simp [qud])
  · simp [qba, qud]
  · exact qp2_c (by simp [qud]) (fun i _ _ => by simp [qud]) (fun i _ => by simp [qud])
  · exact qp1_c (fun i _ => by simp [qud]) (fun i _ => by simp [qud])
  · exact qpe_c _ (fun i _ => by simp [qud])
  · exact qpe_c _ (fun i _ => by simp [qud])
  · exact qpe_c _ (fun i _ => by simp [qud])
  · exact qpe_c _ (fun i _ => by simp [qud])
theorem qd26 {F : qF} {z : Int} (a k : Nat) (h : ¬ (a = 128 ∧ k = 83)) : qgF (qud F 128 26 z) a k = qgF F a k := by
  refine qdr (by omega) (by omega) (fun ha => ?_)
  have no : ∀ {p : Prop}, a = 2 → p := fun e => by omega
  refine qgF_congr (fun e _ => no e) (fun e _ => no e) (fun e _ => no e) (fun _ _ => by simp [qud]) (fun _ _ => ?_) (fun _ _ => ?_) (fun _ _ => ?_) (fun _ _ => ?_) (fun _ _ => ?_) (fun _ _ => ?_) (fun _ _ => ?_) (fun _ _ => ?_) (fun e1 e2 => absurd ⟨e1, e2⟩ h)
  · have hb : qba (qud F 128 26 z) = qba F := by simp [qba, qud]
    rw [hb, show qud F 128 26 z 130 17 = F 130 17 by simp [qud]]
    exact qhn_c _ (fun i _ => by simp [qud])
  · simp [qba, qud]
  · exact qp2_c (by simp [qud]) (fun i _ _ => by simp [qud]) (fun i _ => by simp [qud])
  · exact qp1_c (fun i _ => by simp [qud]) (fun i _ => by simp [qud])
  · exact qpe_c _ (fun i _ => by simp [qud])
  · exact qpe_c _ (fun i _ => by simp [qud])
  · exact qpe_c _ (fun i _ => by simp [qud])
  · exact qpe_c _ (fun i _ => by simp [qud])
theorem qd27 {F : qF} {z : Int} (a k : Nat) (h : ¬ (a = 128 ∧ k = 83)) : qgF (qud F 128 27 z) a k = qgF F a k := by
  refine qdr (by omega) (by omega) (fun ha => ?_)
  have no : ∀ {p : Prop}, a = 2 → p := fun e => by omega
  refine qgF_congr (fun e _ => no e) (fun e _ => no e) (fun e _ => no e) (fun _ _ => by simp [qud]) (fun _ _ => ?_) (fun _ _ => ?_) (fun _ _ => ?_) (fun _ _ => ?_) (fun _ _ => ?_) (fun _ _ => ?_) (fun _ _ => ?_) (fun _ _ => ?_) (fun e1 e2 => absurd ⟨e1, e2⟩ h)
  · have hb : qba (qud F 128 27 z) = qba F := by simp [qba, qud]
    rw [hb, show qud F 128 27 z 130 17 = F 130 17 by simp [qud]]
    exact qhn_c _ (fun i _ => by simp [qud])
  · simp [qba, qud]
  · exact qp2_c (by simp [qud]) (fun i _ _ => by simp [qud]) (fun i _ => by simp [qud])
  · exact qp1_c (fun i _ => by simp [qud]) (fun i _ => by simp [qud])
  · exact qpe_c _ (fun i _ => by simp [qud])
  · exact qpe_c _ (fun i _ => by simp [qud])
  · exact qpe_c _ (fun i _ => by simp [qud])
  · exact qpe_c _ (fun i _ => by simp [qud])
theorem qd17 {F : qF} {z : Int} (a k : Nat) (h1 : ¬ (a = 128 ∧ k = 74)) (h2 : ¬ (a = 128 ∧ k = 75)) (h3 : ¬ (a = 128 ∧ k = 77)) : qgF (qud F 130 17 z) a k = qgF F a k := by
  refine qdr (by omega) (by omega) (fun ha => ?_)
  have no : ∀ {p : Prop}, a = 2 → p := fun e => by omega
  refine qgF_congr (fun e _ => no e) (fun e _ => no e) (fun e _ => no e) (fun e1 e2 => absurd ⟨e1, e2⟩ h1) (fun e1 e2 => absurd ⟨e1, e2⟩ h2) (fun _ _ => ?_) (fun e1 e2 => absurd ⟨e1, e2⟩ h3) (fun _ _ => ?_) (fun _ _ => ?_) (fun _ _ => ?_) (fun _ _ => ?_) (fun _ _ => ?_) (fun _ _ => ⟨by simp [qud], by simp [qud]⟩)
  · simp [qba, qud]
  · exact qp1_c (fun i _ => by simp [qud]) (fun i _ => by simp [qud])
  · exact qpe_c _ (fun i _ => by simp [qud])
  · exact qpe_c _ (fun i _ => by simp [qud])
  · exact qpe_c _ (fun i _ => by simp [qud])
  · exact qpe_c _ (fun i _ => by simp [qud])
/-- the first half of the rows of ends -/
theorem qd44a {F : qF} {k0 : Nat} {z : Int} (hk : k0 < 3) (a k : Nat) (h1 : ¬ (a = 128 ∧ k = 78)) (h2 : ¬ (a = 128 ∧ k = 79)) : qgF (qud F 144 k0 z) a k = qgF F a k := by
  refine qdr (by omega) (by omega) (fun ha => ?_)
  have no : ∀ {p : Prop}, a = 2 → p := fun e => by omega
  have g : ∀ i : Nat, 3 ≤ i → qud F 144 k0 z 144 i = F 144 i := fun i hi => qud_k (by omega)
  have hb : qba (qud F 144 k0 z) = qba F := qba_c (fun i h _ => g i h)
  refine qgF_congr (fun e _ => no e) (fun e _ => no e) (fun e _ => no e) (fun _ _ => by simp [qud]) (fun _ _ => ?_) (fun _ _ => hb) (fun _ _ => ?_) (fun e1 e2 => absurd ⟨e1, e2⟩ h1) (fun e1 e2 => absurd ⟨e1, e2⟩ h2) (fun _ _ => ?_) (fun _ _ => ?_) (fun _ _ => ?_) (fun _ _ => ⟨by simp [qud], by simp [qud]⟩)
  · rw [hb, show qud F 144 k0 z 130 17 = F 130 17 by simp [qud]]
    exact qhn_c _ (fun i _ => by simp [qud])
  · exact qp2_c (by simp [qud]) (fun i h _ => ⟨g i h, by simp [qud]⟩) (fun i _ => by simp [qud])
  · exact qpe_c _ (fun i _ => by simp [qud])
  · exact qpe_c _ (fun i _ => by simp [qud])
  · exact qpe_c _ (fun i _ => by simp [qud])
theorem qd45a {F : qF} {k0 : Nat} {z : Int} (hk : k0 < 3) (a k : Nat) (h1 : ¬ (a = 128 ∧ k = 78)) (h2 : ¬ (a = 128 ∧ k = 80)) : qgF (qud F 145 k0 z) a k = qgF F a k := by
  refine qdr (by omega) (by omega) (fun ha => ?_)
  have no : ∀ {p : Prop}, a = 2 → p := fun e => by omega
  have g : ∀ i : Nat, 3 ≤ i → qud F 145 k0 z 145 i = F 145 i := fun i hi => qud_k (by omega)
  have hb : qba (qud F 145 k0 z) = qba F := by simp [qba, qud]
  refine qgF_congr (fun e _ => no e) (fun e _ => no e) (fun e _ => no e) (fun _ _ => by simp [qud]) (fun _ _ => ?_) (fun _ _ => hb) (fun _ _ => ?_) (fun e1 e2 => absurd ⟨e1, e2⟩ h1) (fun _ _ => ?_) (fun e1 e2 => absurd ⟨e1, e2⟩ h2) (fun _ _ => ?_) (fun _ _ => ?_) (fun _ _ => ⟨by simp [qud], by simp [qud]⟩)
  · rw [hb, show qud F 145 k0 z 130 17 = F 130 17 by simp [qud]]
    exact qhn_c _ (fun i _ => by simp [qud])
  · exact qp2_c (by simp [qud]) (fun i h _ => ⟨by simp [qud], g i h⟩) (fun i _ => by simp [qud])
  · exact qpe_c _ (fun i _ => by simp [qud])
  · exact qpe_c _ (fun i _ => by simp [qud])
  · exact qpe_c _ (fun i _ => by simp [qud])
/-- the first half of the knots -/
theorem qd46a {F : qF} {k0 : Nat} {z : Int} (hk : k0 < 64) (a k : Nat) (h1 : ¬ (a = 128 ∧ k = 78)) (h2 : ¬ (a = 128 ∧ k = 81)) : qgF (qud F 146 k0 z) a k = qgF F a k := by
  refine qdr (by omega) (by omega) (fun ha => ?_)
  have no : ∀ {p : Prop}, a = 2 → p := fun e => by omega
  have g : ∀ i : Nat, 64 ≤ i → qud F 146 k0 z 146 i = F 146 i := fun i hi => qud_k (by omega)
  have hb : qba (qud F 146 k0 z) = qba F := by simp [qba, qud]
  refine qgF_congr (fun e _ => no e) (fun e _ => no e) (fun e _ => no e) (fun _ _ => by simp [qud]) (fun _ _ => ?_) (fun _ _ => hb) (fun _ _ => ?_) (fun e1 e2 => absurd ⟨e1, e2⟩ h1) (fun _ _ => ?_) (fun _ _ => ?_) (fun e1 e2 => absurd ⟨e1, e2⟩ h2) (fun _ _ => ?_) (fun _ _ => ⟨by simp [qud], by simp [qud]⟩)
  · rw [hb, show qud F 146 k0 z 130 17 = F 130 17 by simp [qud]]
    exact qhn_c _ (fun i _ => ⟨g _ (by omega), by simp [qud]⟩)
  · exact qp2_c (by simp [qud]) (fun i h _ => by simp [qud]) (fun i _ => ⟨g _ (by omega), by simp [qud]⟩)
  · exact qpe_c _ (fun i _ => by simp [qud])
  · exact qpe_c _ (fun i _ => by simp [qud])
  · exact qpe_c _ (fun i _ => by simp [qud])
theorem qd47a {F : qF} {k0 : Nat} {z : Int} (hk : k0 < 64) (a k : Nat) (h1 : ¬ (a = 128 ∧ k = 78)) (h2 : ¬ (a = 128 ∧ k = 82)) : qgF (qud F 147 k0 z) a k = qgF F a k := by
  refine qdr (by omega) (by omega) (fun ha => ?_)
  have no : ∀ {p : Prop}, a = 2 → p := fun e => by omega
  have g : ∀ i : Nat, 64 ≤ i → qud F 147 k0 z 147 i = F 147 i := fun i hi => qud_k (by omega)
  have hb : qba (qud F 147 k0 z) = qba F := by simp [qba, qud]
  refine qgF_congr (fun e _ => no e) (fun e _ => no e) (fun e _ => no e) (fun _ _ => by simp [qud]) (fun _ _ => ?_) (fun _ _ => hb) (fun _ _ => ?_) (fun e1 e2 => absurd ⟨e1, e2⟩ h1) (fun _ _ => ?_) (fun _ _ => ?_) (fun _ _ => ?_) (fun e1 e2 => absurd ⟨e1, e2⟩ h2) (fun _ _ => ⟨by simp [qud], by simp [qud]⟩)
  · rw [hb, show qud F 147 k0 z 130 17 = F 130 17 by simp [qud]]
    exact qhn_c _ (fun i _ => ⟨by simp [qud], g _ (by omega)⟩)
  · exact qp2_c (by simp [qud]) (fun i h _ => by simp [qud]) (fun i _ => ⟨by simp [qud], g _ (by omega)⟩)
  · exact qpe_c _ (fun i _ => by simp [qud])
  · exact qpe_c _ (fun i _ => by simp [qud])
  · exact qpe_c _ (fun i _ => by simp [qud])
/-- the second half of the rows of ends -/
theorem qd44b {F : qF} {k0 : Nat} {z : Int} (hk : 3 ≤ k0) (a k : Nat) (h1 : ¬ (a = 128 ∧ k = 75)) (h2 : ¬ (a = 128 ∧ k = 76)) (h3 : ¬ (a = 128 ∧ k = 77)) (h4 : ¬ (a = 128 ∧ k = 79)) : qgF (qud F 144 k0 z) a k = qgF F a k := by
  refine qdr (by omega) (by omega) (fun ha => ?_)
  have no : ∀ {p : Prop}, a = 2 → p := fun e => by omega
  have g : ∀ i : Nat, i < 3 → qud F 144 k0 z 144 i = F 144 i := fun i hi => qud_k (by omega)
  refine qgF_congr (fun e _ => no e) (fun e _ => no e) (fun e _ => no e) (fun _ _ => by simp [qud]) (fun e1 e2 => absurd ⟨e1, e2⟩ h1) (fun e1 e2 => absurd ⟨e1, e2⟩ h2) (fun e1 e2 => absurd ⟨e1, e2⟩ h3) (fun _ _ => ?_) (fun e1 e2 => absurd ⟨e1, e2⟩ h4) (fun _ _ => ?_) (fun _ _ => ?_) (fun _ _ => ?_) (fun _ _ => ⟨by simp [qud], by simp [qud]⟩)
  · exact qp1_c (fun i h => ⟨g i h, by simp [qud]⟩) (fun i _ => by simp [qud])
  · exact qpe_c _ (fun i _ => by simp [qud])
  · exact qpe_c _ (fun i _ => by simp [qud])
  · exact qpe_c _ (fun i _ => by simp [qud])
theorem qd45b {F : qF} {k0 : Nat} {z : Int} (hk : 3 ≤ k0) (a k : Nat) (h1 : ¬ (a = 128 ∧ k = 77)) (h2 : ¬ (a = 128 ∧ k = 80)) : qgF (qud F 145 k0 z) a k = qgF F a k := by
  refine qdr (by omega) (by omega) (fun ha => ?_)
  have no : ∀ {p : Prop}, a = 2 → p := fun e => by omega
  have g : ∀ i : Nat, i < 3 → qud F 145 k0 z 145 i = F 145 i := fun i hi => qud_k (by omega)
  have hb : qba (qud F 145 k0 z) = qba F := by simp [qba, qud]
  refine qgF_congr (fun e _ => no e) (fun e _ => no e) (fun e _ => no e) (fun _ _ => by simp [qud]) (fun _ _ => ?_) (fun _ _ => hb) (fun e1 e2 => absurd ⟨e1, e2⟩ h1) (fun _ _ => ?_) (fun _ _ => ?_) (fun e1 e2 => absurd ⟨e1, e2⟩ h2) (fun _ _ => ?_) (fun _ _ => ?_) (fun _ _ => ⟨by simp [qud], by simp [qud]⟩)
  · rw [hb, show qud F 145 k0 z 130 17 = F 130 17 by simp [qud]]
    exact qhn_c _ (fun i _ => by simp [qud])
  · exact qp1_c (fun i h => ⟨by simp [qud], g i h⟩) (fun i _ => by simp [qud])
  · exact qpe_c _ (fun i _ => by simp [qud])
  · exact qpe_c _ (fun i _ => by simp [qud])
  · exact qpe_c _ (fun i _ => by simp [qud])
/-- a knot behind those that are laid -/
theorem qd46b {F : qF} {k0 : Nat} {z : Int} (hN : (k0 : Int) = F 130 17 + 64) (h0 : 64 ≤ k0) (a k : Nat) (h2 : ¬ (a = 128 ∧ k = 81)) : qgF (qud F 146 k0 z) a k = qgF F a k := by
  refine qdr (by omega) (by omega) (fun ha => ?_)
  have no : ∀ {p : Prop}, a = 2 → p := fun e => by omega
  have hb : qba (qud F 146 k0 z) = qba F := by simp [qba, qud]
  have hn : qud F 146 k0 z 130 17 = F 130 17 := by simp [qud]
  have g : ∀ i : Nat, ¬ i = k0 → qud F 146 k0 z 146 i = F 146 i := fun i hi => qud_k hi
  refine qgF_congr (fun e _ => no e) (fun e _ => no e) (fun e _ => no e) (fun _ _ => by simp [qud]) (fun _ _ => ?_) (fun _ _ => hb) (fun _ _ => ?_) (fun _ _ => ?_) (fun _ _ => ?_) (fun _ _ => ?_) (fun e1 e2 => absurd ⟨e1, e2⟩ h2) (fun _ _ => ?_) (fun _ _ => ⟨by simp [qud], by simp [qud]⟩)
  · rw [hb, hn]
    exact qhn_c _ (fun i hi => ⟨g _ (by omega), by simp [qud]⟩)
  · exact qp2_c hn (fun i h _ => by simp [qud]) (fun i hi => ⟨g _ (by omega), by simp [qud]⟩)
  · exact qp1_c (fun i _ => by simp [qud]) (fun i hi => ⟨g _ (by omega), by simp [qud]⟩)
  · exact qpe_c _ (fun i _ => by simp [qud])
  · exact qpe_c _ (fun i _ => by simp [qud])
  · exact qpe_c _ (fun i _ => by simp [qud])
theorem qd47b {F : qF} {k0 : Nat} {z : Int} (hN : (k0 : Int) = F 130 17 + 64) (h0 : 64 ≤ k0) (a k : Nat) (h2 : ¬ (a = 128 ∧ k = 82)) : qgF (qud F 147 k0 z) a k = qgF F a k := by
  refine qdr (by omega) (by omega) (fun ha => ?_)
  have no : ∀ {p : Prop}, a = 2 → p := fun e => by omega
  have hb : qba (qud F 147 k0 z) = qba F := by simp [qba, qud]
  have hn : qud F 147 k0 z 130 17 = F 130 17 := by simp [qud]
  have g : ∀ i : Nat, ¬ i = k0 → qud F 147 k0 z 147 i = F 147 i := fun i hi => qud_k hi
  refine qgF_congr (fun e _ => no e) (fun e _ => no e) (fun e _ => no e) (fun _ _ => by simp [qud]) (fun _ _ => ?_) (fun _ _ => hb) (fun _ _ => ?_) (fun _ _ => ?_) (fun _ _ => ?_) (fun _ _ => ?_) (fun _ _ => ?_) (fun e1 e2 => absurd ⟨e1, e2⟩ h2) (fun _ _ => ⟨by simp [qud], by simp [qud]⟩)
  · rw [hb, hn]
    exact qhn_c _ (fun i hi => ⟨by simp [qud], g _ (by omega)⟩)
  · exact qp2_c hn (fun i h _ => by simp [qud]) (fun i hi => ⟨by simp [qud], g _ (by omega)⟩)
  · exact qp1_c (fun i _ => by simp [qud]) (fun i hi => ⟨by simp [qud], g _ (by omega)⟩)
  · exact qpe_c _ (fun i _ => by simp [qud])
  · exact qpe_c _ (fun i _ => by simp [qud])
  · exact qpe_c _ (fun i _ => by simp [qud])
end
section
/-! What the rules look up. -/
theorem qun {s c : Nat} (chk : (List.range qW.1.length).all (fun a => !Nat.beq (asrt qW a) s || Nat.beq a c) = true) {a : Nat} (ha : a < qW.1.length) (hs : (asrt qW a : Int) = (s : Int)) : a = c := by
  have h1 := List.all_eq_true.mp chk a (List.mem_range.mpr ha)
  have e : asrt qW a = s := by omega
  rw [e, Nat.beq_refl] at h1
  exact Nat.eq_of_beq_eq_true (by simpa using h1)
theorem qun2 {a : Nat} (ha : a < qW.1.length) (hs : (asrt qW a : Int) = ((2 : Nat) : Int)) : a = 2 := qun (by decide +kernel) ha hs
theorem qun6 {a : Nat} (ha : a < qW.1.length) (hs : (asrt qW a : Int) = ((6 : Nat) : Int)) : a = 6 := qun (by decide +kernel) ha hs
theorem qun49 {a : Nat} (ha : a < qW.1.length) (hs : (asrt qW a : Int) = ((49 : Nat) : Int)) : a = 128 := qun (by decide +kernel) ha hs
theorem qun51 {a : Nat} (ha : a < qW.1.length) (hs : (asrt qW a : Int) = ((51 : Nat) : Int)) : a = 130 := qun (by decide +kernel) ha hs
theorem qun65 {a : Nat} (ha : a < qW.1.length) (hs : (asrt qW a : Int) = ((65 : Nat) : Int)) : a = 144 := qun (by decide +kernel) ha hs
theorem qun66 {a : Nat} (ha : a < qW.1.length) (hs : (asrt qW a : Int) = ((66 : Nat) : Int)) : a = 145 := qun (by decide +kernel) ha hs
theorem qun67 {a : Nat} (ha : a < qW.1.length) (hs : (asrt qW a : Int) = ((67 : Nat) : Int)) : a = 146 := qun (by decide +kernel) ha hs
theorem qun68 {a : Nat} (ha : a < qW.1.length) (hs : (asrt qW a : Int) = ((68 : Nat) : Int)) : a = 147 := qun (by decide +kernel) ha hs
theorem qG_off {a k : Nat} {h : zH} (h2 : ¬ a = 2) (h3 : ¬ a = 128) : qG a k h = none := by
  show (qgF (qv h) a k).map Int32.ofInt = none
  unfold qgF
  rw [if_neg h2, if_neg h3]
  rfl
theorem qG_on {a k : Nat} {h : zH} {g : Int} (q : qgF (qv h) a k = some g) : qG a k h = some (Int32.ofInt g) := by
  show (qgF (qv h) a k).map Int32.ofInt = _
  rw [q]
  rfl
theorem qrdx {h : zH} {a k : Nat} (q : qG a k h = none) : rdx qG h a k = rd h a k := by
  unfold rdx
  rw [q]
theorem qrdg {h : zH} {a k : Nat} {g : Int} (q : qgF (qv h) a k = some g) : rdx qG h a k = some (.int (Int32.ofInt g)) := by
  unfold rdx
  rw [qG_on q]
theorem av_int {ρ : List Int} {v : aV} {x : Int32} (h : av ρ v (.int x)) : ∃ (s : Nat) (c : Int), v = .inl (s, c) ∧ ai ρ s c x := by
  rcases v with ⟨s, c⟩ | s | s | k
  · obtain ⟨y, h1, h2⟩ := h
    cases h2
    exact ⟨s, c, rfl, h1⟩
  · obtain ⟨z, -, h2⟩ := h
    cases h2
  · obtain ⟨z, -, h2⟩ := h
    cases h2
  · have h' : bif Nat.beq k 999 then (Value.int x = .null ∨ ∃ n : Nat, Value.int x = .retAddr n) else Value.int x = .retAddr k := h
    cases hb : Nat.beq k 999 with
    | true =>
      rw [hb] at h'
      rcases (show Value.int x = .null ∨ ∃ n : Nat, Value.int x = .retAddr n from h') with q | ⟨n, q⟩ <;> cases q
    | false =>
      rw [hb] at h'
      cases (show Value.int x = .retAddr k from h')
theorem avb_ok {W : aW} {E : List aY} {ρ : List Int} {v : aV} {l u : Int} {w : Value} (hE : aE W E ρ) (h : avb E v l u = true) (hv : av ρ v w) : ∃ x : Int32, w = .int x ∧ l ≤ x.toInt ∧ x.toInt ≤ u := by
  unfold avb avi at h
  rcases v with ⟨s, c⟩ | s | s | k
  · dsimp only at h
    obtain ⟨x, h1, rfl⟩ := hv
    split at h
    · next p hp =>
      have hb := aiv_in hE hp h1
      rw [Bool.and_eq_true] at h
      have h2 := ile_iff.mp h.1
      have h3 := ile_iff.mp h.2
      exact ⟨x, rfl, by omega, by omega⟩
    · cases h
  · cases h
  · cases h
  · cases h
theorem avb_i {W : aW} {E : List aY} {ρ : List Int} {v : aV} {l u : Int} {x : Int32} (hE : aE W E ρ) (h : avb E v l u = true) (hv : av ρ v (.int x)) : l ≤ x.toInt ∧ x.toInt ≤ u := by
  obtain ⟨y, h1, h2⟩ := avb_ok hE h hv
  cases h1
  exact h2
theorem apls_ok {ρ : List Int} {v : aV} {x : Int32} (d : Int) (h : av ρ v (.int x)) : av ρ (apls v d) (.int (x + Int32.ofInt d)) := by
  obtain ⟨s, c, rfl, h1⟩ := av_int h
  exact ⟨_, h1.add, rfl⟩
theorem apls_g {ρ : List Int} {v : aV} {g g' : Int} (d : Int) (h : av ρ v (.int (Int32.ofInt g))) (e : g' = g + d) : av ρ (apls v d) (.int (Int32.ofInt g')) := by
  have := apls_ok d h
  rw [← Int32.ofInt_add, ← e] at this
  exact this
theorem qup_ok {W : aW} {E : List aY} {ρ : List Int} {v : aV} {g g' : Int} (hE : aE W E ρ) (h : av ρ v (.int (Int32.ofInt g))) (e : g' = g + 1) (h1 : -2147483648 ≤ g') (h2 : g' ≤ 64) : ∃ A : List aY × aV, qup E v = some A ∧ aE W A.1 ρ ∧ av ρ A.2 (.int (Int32.ofInt g')) := by
  have h3 := apls_g 1 h e
  obtain ⟨s, c, rfl, h4⟩ := av_int h
  have h5 : ai ρ s (c + 1) (Int32.ofInt g') := by
    obtain ⟨y, q1, q2⟩ := h3
    cases q2
    exact q1
  have h6 : (Int32.ofInt g').toInt = g' := ai32 h1 (by omega)
  obtain ⟨E', q1, q2⟩ := acut_ok (q := (-2147483648, 64)) hE h5 ⟨by rw [h6]; exact h1, by rw [h6]; exact h2⟩
  refine ⟨(E', .inl (s, c + 1)), ?_, q2, h3⟩
  unfold qup
  dsimp only
  rw [q1]
theorem qgw_ok {W : aW} {E : List aY} {ρ : List Int} {v : aV} {g g' d : Int} (hE : aE W E ρ) (h : av ρ v (.int (Int32.ofInt g))) (e : g' = g + d) (h1 : 0 ≤ g') (h2 : g' ≤ 72) : ∃ A : List aY × aV, qgw E v d = some A ∧ aE W A.1 ρ ∧ av ρ A.2 (.int (Int32.ofInt g')) := by
  have h3 := apls_g d h e
  obtain ⟨s, c, rfl, h4⟩ := av_int h
  have h5 : ai ρ s (c + d) (Int32.ofInt g') := by
    obtain ⟨y, q1, q2⟩ := h3
    cases q2
    exact q1
  have h6 : (Int32.ofInt g').toInt = g' := ai32 (by omega) (by omega)
  obtain ⟨E', q1, q2⟩ := acut_ok (q := (0, 72)) hE h5 ⟨by rw [h6]; exact h1, by rw [h6]; exact h2⟩
  refine ⟨(E', .inl (s, c + d)), ?_, q2, h3⟩
  unfold qgw
  dsimp only
  rw [q1]
theorem qidx {W : aW} {E : List aY} {ρ : List Int} {k : Nat} {x : Int32} (hE : aE W E ρ) (hk : k < 1000) (h : ai ρ 0 (k : Int) x) : x.toInt = k := by
  obtain ⟨z, h1, h2⟩ := h
  rw [hE.2.1] at h1
  cases h1
  rw [h2, Int.zero_add, ai32 (by omega) (by omega)]
theorem qden {W : aW} {E : List aY} {ρ : List Int} {r c k : Nat} (hE : aE W E ρ) (hk : k < 1000) (hr : ρ[r]? = some (c : Int)) : aden ρ (r, 0, (k : Int)) c k := ⟨hr, Int32.ofInt k, by have := ai_c hE (k : Int); exact this, ai32 (by omega) (by omega)⟩
theorem qden_u {W : aW} {E : List aY} {ρ : List Int} {r c k a j : Nat} (hE : aE W E ρ) (hk : k < 1000) (hr : ρ[r]? = some (c : Int)) (h : aden ρ (r, 0, (k : Int)) a j) : a = c ∧ j = k := h.inj (qden hE hk hr)
theorem qamg {E : List aY} {ρ : List Int} {m : aM} {h : zH} {r c k : Nat} {v : aV} (hE : aE qW E ρ) (hH : aH qW qG ρ m h) (hk : k < 1000) (hr : ρ[r]? = some (c : Int)) (hm : amg m (r, 0, (k : Int)) = some v) : ∃ w : Value, rdx qG h c k = some w ∧ av ρ v w := by
  obtain ⟨a, j, w, g1, g2, g3, g4, g5⟩ := hH.2.2 _ (amg_mem hm)
  obtain ⟨rfl, rfl⟩ := qden_u hE hk hr g1
  exact ⟨w, g4, g5⟩
/-- a worked-out place that is known -/
theorem qamg_g {E : List aY} {ρ : List Int} {m : aM} {h : zH} {r c k : Nat} {v : aV} {g : Int} (hE : aE qW E ρ) (hH : aH qW qG ρ m h) (hk : k < 1000) (hr : ρ[r]? = some (c : Int)) (hg : qgF (qv h) c k = some g) (hm : amg m (r, 0, (k : Int)) = some v) : av ρ v (.int (Int32.ofInt g)) := by
  obtain ⟨w, h1, h2⟩ := qamg hE hH hk hr hm
  rw [qrdg hg] at h1
  cases h1
  exact h2
/-- a real one -/
theorem qamg_r {E : List aY} {ρ : List Int} {m : aM} {h : zH} {r c k : Nat} {v : aV} (hE : aE qW E ρ) (hH : aH qW qG ρ m h) (hk : k < 1000) (hr : ρ[r]? = some (c : Int)) (hg : qG c k h = none) (hp : qpr c k = true) (hm : amg m (r, 0, (k : Int)) = some v) : ∃ w : Value, rd h c k = some w ∧ av ρ v w ∧ ∀ x : Int32, w = .int x → qv h c k = x.toInt := by
  obtain ⟨w, h1, h2⟩ := qamg hE hH hk hr hm
  rw [qrdx hg] at h1
  exact ⟨w, h1, h2, fun x e => by subst e; rw [qv_on hp, qi_int h1]⟩
theorem asq_ok {E : List aY} {k : Nat} {so : Int} (h : asq E k so = true) : ∃ y : Int, E[k]? = some (2, so, y) := by
  unfold asq at h
  split at h
  · next x y hx => exact ⟨y, by rw [hx, ieq_ok h]⟩
  · cases h
theorem qamf0 {E : List aY} {ρ : List Int} {m0 : aM} {h : zH} {so s : Nat} {c : Int} {v : aV} (hE : aE qW E ρ) (hH : aH qW qG ρ m0 h) : ∀ (m : aM), (∀ e ∈ m, e ∈ m0) → amf E (so : Int) s c m = some v → ∃ (a k : Nat) (w : Value), a < qW.1.length ∧ (asrt qW a : Int) = (so : Int) ∧ (∃ x : Int32, ai ρ s c x ∧ x.toInt = (k : Int)) ∧ k < apn (afm qW (asrt qW a)) ∧ rdx qG h a k = some w ∧ av ρ v w
  | [], _, hs => by cases hs
  | e :: r, hm, hs => by
    unfold amf at hs
    cases hb : (asq E e.1.1 so && (Nat.beq e.1.2.1 s && ieq e.1.2.2 c)) with
    | false =>
      rw [hb] at hs
      exact qamf0 hE hH r (fun e' he => hm e' (List.mem_cons_of_mem _ he)) hs
    | true =>
      rw [hb] at hs
      cases hs
      rw [Bool.and_eq_true, Bool.and_eq_true] at hb
      obtain ⟨b1, b2, b3⟩ := hb
      have e2 := Nat.eq_of_beq_eq_true b2
      have e3 := ieq_ok b3
      obtain ⟨a, k, w, g1, g2, g3, g4, g5⟩ := hH.2.2 e (hm e List.mem_cons_self)
      obtain ⟨y, hx⟩ := asq_ok b1
      obtain ⟨-, q2⟩ := asort_of hE hx g1.1
      obtain ⟨x', x1, x2⟩ := g1.2
      rw [e2, e3] at x1
      exact ⟨a, k, w, g2, q2, ⟨x', x1, x2⟩, g3, g4, g5⟩
theorem qamf {E : List aY} {ρ : List Int} {m : aM} {h : zH} {so c0 s : Nat} {c : Int} {v : aV} (hE : aE qW E ρ) (hH : aH qW qG ρ m h) (hu : ∀ a : Nat, a < qW.1.length → (asrt qW a : Int) = (so : Int) → a = c0) (h2 : ¬ c0 = 128) (hs : amf E (so : Int) s c m = some v) : ∃ (k : Nat) (w : Value) (x : Int32), ai ρ s c x ∧ x.toInt = (k : Int) ∧ k < apn (afm qW (asrt qW c0)) ∧ rdx qG h c0 k = some w ∧ av ρ v w := by
  obtain ⟨a, k, w, g1, g2, ⟨x, x1, x2⟩, g3, g4, g5⟩ := qamf0 hE hH m (fun e he => he) hs
  have := hu a g1 g2
  subst this
  exact ⟨k, w, x, x1, x2, g3, g4, g5⟩
theorem qmo_ok {E : List aY} {ρ : List Int} {h : zH} {m0 : aM} {row : Nat} {o : Nat} (hE : aE qW E ρ) (hH : aH qW qG ρ m0 h) : ∀ (m : aM), (∀ e ∈ m, e ∈ m0) → qmo E row m = some o → ρ[o]? = some ((128 : Nat) : Int)
  | [], _, hs => by cases hs
  | e :: r, hm, hs => by
    unfold qmo at hs
    cases hb : (asq E e.1.1 49 && aveq e.2 (.inr (.inr (.inl row)))) with
    | false =>
      rw [hb] at hs
      exact qmo_ok hE hH r (fun e' he => hm e' (List.mem_cons_of_mem _ he)) hs
    | true =>
      rw [hb] at hs
      cases hs
      rw [Bool.and_eq_true] at hb
      obtain ⟨b1, -⟩ := hb
      obtain ⟨a, k, w, g1, g2, -⟩ := hH.2.2 e (hm e List.mem_cons_self)
      obtain ⟨y, hx⟩ := asq_ok b1
      obtain ⟨-, q2⟩ := asort_of hE hx g1.1
      rw [g1.1, qun49 g2 q2]
/-! An end of a rule. -/
def qgk (c k : Nat) : Bool := (Nat.ble (afm qW (asrt qW c)).2.2.1 k && !Nat.ble (apn (afm qW (asrt qW c))) k) && !Nat.ble qW.1.length c
theorem qo1 {E : List aY} {ρ : List Int} {h' : zH} {r c k : Nat} {v : aV} {g : Int} (hE : aE qW E ρ) (hk : qgk c k = true) (hk2 : k < 1000) (hr : ρ[r]? = some (c : Int)) (hg : qgF (qv h') c k = some g) (hv : av ρ v (.int (Int32.ofInt g))) : ∃ (a j : Nat) (x : Int32), aden ρ (r, 0, (k : Int)) a j ∧ a < qW.1.length ∧ j < apn (afm qW (asrt qW a)) ∧ (afm qW (asrt qW a)).2.2.1 ≤ j ∧ qG a j h' = some x ∧ av ρ v (.int x) := by
  unfold qgk at hk
  simp only [Bool.and_eq_true, Bool.not_eq_true'] at hk
  have h1 := Nat.le_of_ble_eq_true hk.1.1
  have h2 : ¬ apn (afm qW (asrt qW c)) ≤ k := fun q => by rw [Nat.ble_eq.mpr q] at hk; cases hk.1.2
  have h3 : ¬ qW.1.length ≤ c := fun q => by rw [Nat.ble_eq.mpr q] at hk; cases hk.2
  exact ⟨c, k, _, qden hE hk2 hr, by omega, by omega, h1, qG_on hg, hv⟩
theorem qo2 {E : List aY} {ρ : List Int} {h' : zH} {r c k : Nat} {g : Int} (hE : aE qW E ρ) (hk : qgk c k = true) (hk2 : k < 1000) (hr : ρ[r]? = some (c : Int)) (hg : qgF (qv h') c k = some g) (ht : apl (afm qW (asrt qW c)) k = (0, -2147483648, 2147483647)) : ∃ (a j : Nat) (x : Int32), aden ρ (r, 0, (k : Int)) a j ∧ a < qW.1.length ∧ (afm qW (asrt qW a)).2.2.1 ≤ j ∧ qG a j h' = some x ∧ avt qW (apl (afm qW (asrt qW a)) j) (.int x) := by
  unfold qgk at hk
  simp only [Bool.and_eq_true, Bool.not_eq_true'] at hk
  have h1 := Nat.le_of_ble_eq_true hk.1.1
  have h3 : ¬ qW.1.length ≤ c := fun q => by rw [Nat.ble_eq.mpr q] at hk; cases hk.2
  refine ⟨c, k, _, qden hE hk2 hr, by omega, h1, qG_on hg, ?_⟩
  rw [ht]
  exact ⟨_, rfl, ab _⟩
/-- what isn't named stays -/
theorem qo3 {h h' : zH} {a k : Nat} (q : qgF (qv h') a k = qgF (qv h) a k) : qG a k h' = qG a k h := by
  show (qgF (qv h') a k).map Int32.ofInt = (qgF (qv h) a k).map Int32.ofInt
  rw [q]
theorem qg7 (F : qF) : qgF F 2 7 = some (qgc F) := rfl
theorem qg8 (F : qF) : qgF F 2 8 = some (F 2 4 - (F 2 2).toNat + qgc F) := rfl
theorem qg9 (F : qF) : qgF F 2 9 = some (72 - F 2 2) := rfl
def qhb (F : qF) : Int := match qhn F 64 (qba F).toNat ((F 130 17).toNat - (qba F).toNat) with
    | some H => (H : Int)
    | none => -1
theorem qg74 (F : qF) : qgF F 128 74 = some (F 128 33 - (F 130 17).toNat) := rfl
theorem qg75 (F : qF) : qgF F 128 75 = some (qhb F) := rfl
theorem qg76 (F : qF) : qgF F 128 76 = some (qba F) := rfl
theorem qg77 (F : qF) : qgF F 128 77 = some (qbo (qp2 F)) := rfl
theorem qg78 (F : qF) : qgF F 128 78 = some (qbo (qp1 F)) := rfl
theorem qg79 (F : qF) : qgF F 128 79 = some (qpe F 144 3 3 : Nat) := rfl
theorem qg80 (F : qF) : qgF F 128 80 = some (qpe F 145 3 3 : Nat) := rfl
theorem qg81 (F : qF) : qgF F 128 81 = some (qpe F 146 64 64 : Nat) := rfl
theorem qg82 (F : qF) : qgF F 128 82 = some (qpe F 147 64 64 : Nat) := rfl
theorem qg83 (F : qF) : qgF F 128 83 = some (if F 128 26 = 0 then F 128 27 else 0) := rfl
end
section
/-! The rules of the Reader are right. -/
theorem qallc {α : Type} {P : α → Prop} {a : α} {l : List α} (h : P a) (t : ∀ g ∈ l, P g) : ∀ g ∈ a :: l, P g := fun g hg => by
  rcases List.mem_cons.mp hg with rfl | q
  · exact h
  · exact t g q
theorem qall0 {α : Type} {P : α → Prop} : ∀ g ∈ ([] : List α), P g := fun g hg => by cases hg
theorem qmk {ρ : List Int} {h h' : zH} {E' : List aY} {m' : aM} {ks : List aK} (ρ' : List Int) (h1 : aext ρ ρ') (h2 : aE qW E' ρ') (h3 : ∀ g ∈ m', ∃ (a k : Nat) (x : Int32), aden ρ' g.1 a k ∧ a < qW.1.length ∧ k < apn (afm qW (asrt qW a)) ∧ (afm qW (asrt qW a)).2.2.1 ≤ k ∧ qG a k h' = some x ∧ av ρ' g.2 (.int x)) (h4 : ∀ g ∈ ks, ∃ (a k : Nat) (x : Int32), aden ρ' g a k ∧ a < qW.1.length ∧ (afm qW (asrt qW a)).2.2.1 ≤ k ∧ qG a k h' = some x ∧ avt qW (apl (afm qW (asrt qW a)) k) (.int x)) (h5 : ∀ a k : Nat, (∀ g ∈ m', ¬ aden ρ' g.1 a k) → (∀ g ∈ ks, ¬ aden ρ' g a k) → qgF (qv h') a k = qgF (qv h) a k) : aUout qW qG ρ h h' (some (E', m', ks)) := ⟨ρ', h1, h2, h3, h4, fun a k q1 q2 => qo3 (h5 a k q1 q2)⟩
theorem qnd {E : List aY} {ρ : List Int} {r c kk a k : Nat} (hE : aE qW E ρ) (hk : kk < 1000) (hr : ρ[r]? = some (c : Int)) (hn : ¬ aden ρ (r, 0, (kk : Int)) a k) : ¬ (a = c ∧ k = kk) := fun ⟨e1, e2⟩ => hn (by subst e1 e2; exact qden hE hk hr)
theorem qv_b (h : zH) (a k : Nat) : -2147483648 ≤ qv h a k ∧ qv h a k ≤ 2147483647 := by
  unfold qv
  cases qpr a k with
  | false =>
    show -2147483648 ≤ (0 : Int) ∧ (0 : Int) ≤ 2147483647
    exact ⟨by decide, by decide⟩
  | true =>
    show -2147483648 ≤ qi h a k ∧ qi h a k ≤ 2147483647
    unfold qi
    split
    · next x _ => exact ab x
    · exact ⟨by decide, by decide⟩
theorem qi_add {x y : Int32} {d : Int} (e : x = y + Int32.ofInt d) (h1 : -2147483648 ≤ y.toInt + d) (h2 : y.toInt + d ≤ 2147483647) : x.toInt = y.toInt + d := by
  have e' : x = Int32.ofInt (y.toInt + d) := by rw [e, Int32.ofInt_add, Int32.ofInt_toInt]
  rw [e', ai32 h1 h2]
theorem qi_up {x y : Int32} (e : x = y + Int32.ofInt 1) (h : 0 ≤ x.toInt) : x.toInt = y.toInt + 1 := by
  have hy := ab y
  by_cases q : y.toInt + 1 ≤ 2147483647
  · exact qi_add e (by omega) q
  · exfalso
    have e1 : y.toInt = 2147483647 := by omega
    have e2 : y = Int32.ofInt 2147483647 := by rw [← e1, Int32.ofInt_toInt]
    rw [e, e2] at h
    exact absurd h (by decide)
theorem apls_inv {ρ : List Int} {k : aV} {d : Int} {x : Int32} (h : av ρ (apls k d) (.int x)) : ∃ y : Int32, x = y + Int32.ofInt d ∧ av ρ k (.int y) ∧ ∀ w : Value, av ρ k w → w = .int y := by
  obtain ⟨s, c, e, hx⟩ := av_int h
  rcases k with ⟨s0, c0⟩ | s0 | s0 | s0
  · have e : (Sum.inl (s0, c0 + d) : aV) = .inl (s, c) := e
    cases e
    obtain ⟨z, z1, z2⟩ := hx
    refine ⟨Int32.ofInt (z + c0), by rw [z2, ← Int32.ofInt_add, Int.add_assoc], ⟨_, ⟨z, z1, rfl⟩, rfl⟩, fun w hw => ?_⟩
    obtain ⟨y, y1, y2⟩ := hw
    rw [y2, y1.inj ⟨z, z1, rfl⟩]
  · cases e
  · cases e
  · cases e
theorem qr22 (h : zH) : qG 2 2 h = none := rfl
theorem qr24 (h : zH) : qG 2 4 h = none := rfl
theorem qr33 (h : zH) : qG 128 33 h = none := rfl
theorem qUw_ok {E : List aY} {m : aM} {q : aK} {o : Option (List aY × aM × List aK)} {ρ : List Int} {h h' : zH} {k : Nat} {z : Int} (hU : qUw E m q = some o) (hE : aE qW E ρ) (hH : aH qW qG ρ m h) (hd : ∃ x : Int32, ai ρ q.2.1 q.2.2 x ∧ x.toInt = (k : Int)) (hF : qv h' = qud (qv h) 6 k z) : aUout qW qG ρ h h' o := by
  unfold qUw at hU
  split at hU
  · next w hw =>
    cases hb : aveq w (.inl q.2) with
    | false => rw [hb] at hU; cases hU
    | true =>
      rw [hb] at hU
      cases hU
      have e := aveq_ok hb
      subst e
      obtain ⟨j, w', x, x1, x2, -, g4, g5⟩ := qamf (so := 2) hE hH (fun a => qun2) (by decide) hw
      have hj : j = 2 := by have := qidx hE (k := 2) (by omega) x1; omega
      subst hj
      rw [qrdx (qr22 h)] at g4
      obtain ⟨y, y1, rfl⟩ := g5
      obtain ⟨x', p1, p2⟩ := hd
      have e2 := y1.inj p1
      subst e2
      have h22 : qv h 2 2 = k := by rw [qv_on (by decide), qi_int g4, p2]
      refine qmk ρ aext.rf hE qall0 qall0 (fun a j _ _ => ?_)
      rw [hF]
      exact qd6 (by rw [h22]; omega) a j
  · cases hU
theorem qk8 {E : List aY} {ρ : List Int} {h h' : zH} {r : Nat} {z : Int} (hE : aE qW E ρ) (hr : ρ[r]? = some ((2 : Nat) : Int)) (hF : qv h' = qud (qv h) 2 4 z) : aUout qW qG ρ h h' (some (E, [], [(r, 0, 8)])) := by
  refine qmk ρ aext.rf hE qall0 (qallc (qo2 (k := 8) hE (by decide +kernel) (by decide) hr (qg8 _) (by decide +kernel)) qall0) (fun a j _ q2 => ?_)
  rw [hF]
  exact qd24 a j (qnd (kk := 8) hE (by decide) hr (q2 _ List.mem_cons_self))
theorem qUk_ok {E : List aY} {m : aM} {r : Nat} {v : aV} {o : Option (List aY × aM × List aK)} {ρ : List Int} {h h' : zH} {w : Value} (hU : qUk E m r v = some o) (hE : aE qW E ρ) (hH : aH qW qG ρ m h) (hr : ρ[r]? = some ((2 : Nat) : Int)) (hv : av ρ v w) (hw : rd h' 2 4 = some w) (hF : qv h' = qud (qv h) 2 4 (qi h' 2 4)) : aUout qW qG ρ h h' o := by
  unfold qUk at hU
  split at hU
  · next k0 hk0 =>
    split at hU
    · next gs hgs =>
      cases hb : (aveq v (apls k0 1) && avb E v 0 64) with
      | false =>
        rw [hb] at hU
        cases hU
        exact qk8 hE hr hF
      | true =>
        rw [hb] at hU
        rw [Bool.and_eq_true] at hb
        obtain ⟨b1, b2⟩ := hb
        obtain ⟨x, rfl, x1, x2⟩ := avb_ok hE b2 hv
        rw [aveq_ok b1] at hv
        obtain ⟨y, y1, y2, y3⟩ := apls_inv hv
        obtain ⟨w0, w1, w2, w3⟩ := qamg_r (k := 4) hE hH (by decide) hr (qr24 h) (by decide) hk0
        have e4 := w3 y (y3 _ w2)
        have e5 := qi_up y1 x1
        have e6 : qi h' 2 4 = x.toInt := qi_int hw
        have hg := qamg_g (k := 8) hE hH (by decide) hr (qg8 _) hgs
        have c : qgc (qud (qv h) 2 4 (qi h' 2 4)) = qgc (qv h) := qgc_c (by simp [qud]) (fun i hi => by simp [qud])
        have hle := qgc_le (qv h)
        have hb2 := qv_b h 2 2
        obtain ⟨A, a1, a2, a3⟩ := qup_ok (g' := qv h 2 4 - (qv h 2 2).toNat + qgc (qv h) + 1) hE hg rfl (by omega) (by omega)
        have hU : (match qup E gs with
          | some A => some (some (A.1, [((r, 0, 8), A.2)], []))
          | none => some none) = some o := hU
        rw [a1] at hU
        cases hU
        refine qmk ρ aext.rf a2 (qallc (qo1 (k := 8) a2 (by decide +kernel) (by decide) hr (qg8 _) ?_) qall0) qall0 (fun a j q1 _ => ?_)
        · rw [hF, c]
          have e7 : qud (qv h) 2 4 (qi h' 2 4) 2 4 - ((qud (qv h) 2 4 (qi h' 2 4) 2 2).toNat : Int) + (qgc (qv h) : Int) = qv h 2 4 - (qv h 2 2).toNat + qgc (qv h) + 1 := by
            rw [qud_same, qud_k (by decide)]
            omega
          rw [e7]
          exact a3
        · rw [hF]
          exact qd24 a j (qnd (kk := 8) a2 (by decide) hr (q1 _ List.mem_cons_self))
    · cases hU
      exact qk8 hE hr hF
  · cases hU
    exact qk8 hE hr hF
/-! A sign, or none. -/
theorem qsg_ok {W : aW} {E : List aY} {ρ : List Int} {t : aV} {b : Bool} {w : Value} (hE : aE W E ρ) (h : qsg E t = some b) (hv : av ρ t w) : ∃ x : Int32, w = .int x ∧ qns x.toInt = !b := by
  unfold qsg at h
  cases h1 : (avb E t 10 19 || avb E t 44 46) with
  | true =>
    rw [h1] at h
    cases h
    rw [Bool.or_eq_true] at h1
    rcases h1 with h1 | h1
    · obtain ⟨x, rfl, x1, x2⟩ := avb_ok hE h1 hv
      refine ⟨x, rfl, ?_⟩
      unfold qns
      rw [ile_iff.mpr x1, ile_iff.mpr x2]
      rfl
    · obtain ⟨x, rfl, x1, x2⟩ := avb_ok hE h1 hv
      refine ⟨x, rfl, ?_⟩
      unfold qns
      rw [ile_iff.mpr x1, ile_iff.mpr x2]
      simp
  | false =>
    rw [h1] at h
    cases h2 : (avb E t (-2147483648) 9 || (avb E t 20 43 || avb E t 47 2147483647)) with
    | false => rw [h2] at h; cases h
    | true =>
      rw [h2] at h
      cases h
      have no : ∀ {x : Int32}, (x.toInt < 10 ∨ 19 < x.toInt) → (x.toInt < 44 ∨ 46 < x.toInt) → qns x.toInt = true := fun {x} q1 q2 => by
        unfold qns
        have n1 : (ile 10 x.toInt && ile x.toInt 19) = false := by
          cases hb : (ile 10 x.toInt && ile x.toInt 19) with
          | false => rfl
          | true =>
            rw [Bool.and_eq_true] at hb
            have := ile_iff.mp hb.1
            have := ile_iff.mp hb.2
            omega
        have n2 : (ile 44 x.toInt && ile x.toInt 46) = false := by
          cases hb : (ile 44 x.toInt && ile x.toInt 46) with
          | false => rfl
          | true =>
            rw [Bool.and_eq_true] at hb
            have := ile_iff.mp hb.1
            have := ile_iff.mp hb.2
            omega
        rw [n1, n2]
        rfl
      rw [Bool.or_eq_true, Bool.or_eq_true] at h2
      rcases h2 with h2 | h2 | h2
      · obtain ⟨x, rfl, x1, x2⟩ := avb_ok hE h2 hv
        exact ⟨x, rfl, no (by omega) (by omega)⟩
      · obtain ⟨x, rfl, x1, x2⟩ := avb_ok hE h2 hv
        exact ⟨x, rfl, no (by omega) (by omega)⟩
      · obtain ⟨x, rfl, x1, x2⟩ := avb_ok hE h2 hv
        exact ⟨x, rfl, no (by omega) (by omega)⟩
theorem qgc_s {F F' : qF} {j : Nat} (h1 : F 2 2 = (j : Int)) (h2 : F' 2 2 = (j : Int) + 1) (h6 : ∀ i : Nat, F' 6 i = F 6 i) : qgc F' = qgc F + (bif qns (F 6 j) then 1 else 0) := by
  unfold qgc
  have e1 : (F 2 2).toNat = j := by omega
  have e2 : (F' 2 2).toNat = j + 1 := by omega
  have e3 : (fun i => qns (F' 6 i)) = fun i => qns (F 6 i) := funext (fun i => by rw [h6])
  rw [e1, e2, e3, List.range_succ, List.countP_append, List.countP_singleton]
  cases qns (F 6 j) <;> rfl
end
section
/-! The Reader: how much waits. -/
theorem qUpush_ok {E : List aY} {m : aM} {r : Nat} {w : Nat × Int} {gc gs gw : aV} {o : Option (List aY × aM × List aK)} {ρ : List Int} {h h' : zH} {x : Int32} (hU : qUpush E m r w gc gs gw = some o) (hE : aE qW E ρ) (hH : aH qW qG ρ m h) (hr : ρ[r]? = some ((2 : Nat) : Int)) (h2 : amg m (r, 0, 2) = some (.inl w)) (h7 : amg m (r, 0, 7) = some gc) (h8 : amg m (r, 0, 8) = some gs) (h9 : amg m (r, 0, 9) = some gw) (hv : ai ρ w.1 (w.2 + 1) x) (hw : rd h' 2 2 = some (.int x)) (hF : qv h' = qud (qv h) 2 2 (qi h' 2 2)) : aUout qW qG ρ h h' o := by
  obtain ⟨w0, w1, w2, w3⟩ := qamg_r (k := 2) hE hH (by decide) hr (qr22 h) (by decide) h2
  obtain ⟨y, y1, rfl⟩ := w2
  have e22 := w3 y rfl
  have g7 := qamg_g (k := 7) hE hH (by decide) hr (qg7 _) h7
  have g8 := qamg_g (k := 8) hE hH (by decide) hr (qg8 _) h8
  have g9 := qamg_g (k := 9) hE hH (by decide) hr (qg9 _) h9
  have hxy : x = y + Int32.ofInt 1 := hv.inj y1.add
  unfold qUpush at hU
  split at hU
  · cases hU
  · next t ht =>
    obtain ⟨j, wt, x', x1, x2, x3, x4, x5⟩ := qamf (so := 6) hE hH (fun a => qun6) (by decide) ht
    have e := x1.inj y1
    subst e
    have hj : j < 72 := x3
    rw [qrdx (qG_off (by decide) (by decide))] at x4
    have hx : x.toInt = x'.toInt + 1 := qi_add hxy (by omega) (by omega)
    have ez : qi h' 2 2 = (j : Int) + 1 := by rw [qi_int hw, hx, x2]
    have e22j : qv h 2 2 = (j : Int) := by rw [e22, x2]
    have f22 : qv h' 2 2 = (j : Int) + 1 := by rw [hF, qud_same, ez]
    have f24 : qv h' 2 4 = qv h 2 4 := by rw [hF, qud_k (by decide)]
    have hc := qgc_s (F := qv h) (F' := qv h') e22j f22 (fun i => by rw [hF, qud_a (by decide)])
    obtain ⟨B, b1, b2, b3⟩ := qgw_ok (g' := 72 - qv h' 2 2) (d := -1) hE g9 (by rw [f22, e22j]; omega) (by rw [f22]; omega) (by rw [f22]; omega)
    rw [b1] at hU
    have hU : (match qsg B.1 t with
      | some true => some (some (B.1, [((r, 0, 7), gc), ((r, 0, 8), apls gs (-1)), ((r, 0, 9), B.2)], []))
      | some false => some (some (B.1, [((r, 0, 7), apls gc 1), ((r, 0, 8), gs), ((r, 0, 9), B.2)], []))
      | none => none) = some o := hU
    have ho : ∀ (a k : Nat), ¬ aden ρ (r, 0, 7) a k → ¬ aden ρ (r, 0, 8) a k → ¬ aden ρ (r, 0, 9) a k → qgF (qv h') a k = qgF (qv h) a k := fun a k q1 q2 q3 => by
      rw [hF]
      exact qd22 a k (qnd (kk := 7) hE (by decide) hr q1) (qnd (kk := 8) hE (by decide) hr q2) (qnd (kk := 9) hE (by decide) hr q3)
    have hn : ∀ tx : Int32, wt = .int tx → qv h 6 j = tx.toInt := fun tx e => by
      subst e
      rw [qv_on (by unfold qpr; simp [Nat.ble_eq]; omega), qi_int x4]
    split at hU
    · next hs =>
      cases hU
      obtain ⟨tx, t1, t2⟩ := qsg_ok b2 hs x5
      rw [hn tx t1, t2] at hc
      have hc : qgc (qv h') = qgc (qv h) + 0 := hc
      refine qmk ρ aext.rf b2 (qallc (qo1 (k := 7) b2 (by decide +kernel) (by decide) hr (qg7 _) ?_) (qallc (qo1 (k := 8) b2 (by decide +kernel) (by decide) hr (qg8 _) ?_) (qallc (qo1 (k := 9) b2 (by decide +kernel) (by decide) hr (qg9 _) b3) qall0))) qall0 (fun a k q1 _ => ho a k (q1 _ (List.Mem.head _)) (q1 _ (List.Mem.tail _ (List.Mem.head _))) (q1 _ (List.Mem.tail _ (List.Mem.tail _ (List.Mem.head _)))))
      · rw [hc]
        exact g7
      · exact apls_g (-1) g8 (by rw [hc, f22, f24, e22j]; omega)
    · next hs =>
      cases hU
      obtain ⟨tx, t1, t2⟩ := qsg_ok b2 hs x5
      rw [hn tx t1, t2] at hc
      have hc : qgc (qv h') = qgc (qv h) + 1 := hc
      refine qmk ρ aext.rf b2 (qallc (qo1 (k := 7) b2 (by decide +kernel) (by decide) hr (qg7 _) ?_) (qallc (qo1 (k := 8) b2 (by decide +kernel) (by decide) hr (qg8 _) ?_) (qallc (qo1 (k := 9) b2 (by decide +kernel) (by decide) hr (qg9 _) b3) qall0))) qall0 (fun a k q1 _ => ho a k (q1 _ (List.Mem.head _)) (q1 _ (List.Mem.tail _ (List.Mem.head _))) (q1 _ (List.Mem.tail _ (List.Mem.tail _ (List.Mem.head _)))))
      · exact apls_g 1 g7 (by rw [hc]; omega)
      · have e : qv h' 2 4 - ((qv h' 2 2).toNat : Int) + (qgc (qv h') : Int) = qv h 2 4 - (qv h 2 2).toNat + qgc (qv h) := by rw [hc, f22, f24, e22j]; omega
        rw [e]
        exact g8
    · cases hU
theorem qUpop_ok {E : List aY} {m : aM} {r : Nat} {w : Nat × Int} {gc gs gw : aV} {o : Option (List aY × aM × List aK)} {ρ : List Int} {h h' : zH} {x : Int32} (hU : qUpop E m r w gc gs gw = some o) (hE : aE qW E ρ) (hH : aH qW qG ρ m h) (hr : ρ[r]? = some ((2 : Nat) : Int)) (h2 : amg m (r, 0, 2) = some (.inl w)) (h7 : amg m (r, 0, 7) = some gc) (h8 : amg m (r, 0, 8) = some gs) (h9 : amg m (r, 0, 9) = some gw) (hv : ai ρ w.1 (w.2 + -1) x) (hw : rd h' 2 2 = some (.int x)) (hF : qv h' = qud (qv h) 2 2 (qi h' 2 2)) : aUout qW qG ρ h h' o := by
  obtain ⟨w0, w1, w2, w3⟩ := qamg_r (k := 2) hE hH (by decide) hr (qr22 h) (by decide) h2
  obtain ⟨y, y1, rfl⟩ := w2
  have e22 := w3 y rfl
  have g7 := qamg_g (k := 7) hE hH (by decide) hr (qg7 _) h7
  have g8 := qamg_g (k := 8) hE hH (by decide) hr (qg8 _) h8
  have g9 := qamg_g (k := 9) hE hH (by decide) hr (qg9 _) h9
  have hxy : x = y + Int32.ofInt (-1) := hv.inj y1.add
  have hyx : y = x + Int32.ofInt 1 := by
    have e1 : x = Int32.ofInt (y.toInt + -1) := by rw [hxy, Int32.ofInt_add, Int32.ofInt_toInt]
    rw [e1, ← Int32.ofInt_add, show y.toInt + -1 + 1 = y.toInt by omega, Int32.ofInt_toInt]
  unfold qUpop at hU
  cases hb : ((avb E (.inl w) (-2147483648) 0 || avb E gw 72 2147483647) && avb E gc 1 2147483647) with
  | true =>
    exfalso
    rw [Bool.and_eq_true, Bool.or_eq_true] at hb
    obtain ⟨b1, b2⟩ := hb
    have q2 := avb_i hE b2 g7
    have hle := qgc_le (qv h)
    have hy := ab y
    have n0 : qv h 2 2 ≤ 0 := by
      rcases b1 with b1 | b1
      · have := avb_i hE b1 (show av ρ (.inl w) (.int y) from ⟨y, y1, rfl⟩)
        omega
      · have q := avb_i hE b1 g9
        by_cases q0 : qv h 2 2 ≤ 0
        · exact q0
        · rw [ai32 (by omega) (by omega)] at q
          omega
    have c0 : qgc (qv h) = 0 := by omega
    rw [c0] at q2
    exact absurd q2.1 (by decide)
  | false =>
    rw [hb] at hU
    have hU : (match amf E 6 w.1 (w.2 + -1) m with
      | none => none
      | some t => match qgw E gw 1 with
        | none => some none
        | some B => match qsg B.1 t with
          | some true => bif avb' B.1 (amg m (r, 0, 4)) 0 64 then (match qup B.1 gs with
            | some A => some (some (A.1, [((r, 0, 7), gc), ((r, 0, 8), A.2), ((r, 0, 9), B.2)], []))
            | none => some none) else none
          | some false => some (some (B.1, [((r, 0, 7), apls gc (-1)), ((r, 0, 8), gs), ((r, 0, 9), B.2)], []))
          | none => none) = some o := hU
    split at hU
    · cases hU
    · next t ht =>
      obtain ⟨j, wt, x', x1, x2, x3, x4, x5⟩ := qamf (so := 6) hE hH (fun a => qun6) (by decide) ht
      have e := x1.inj hv
      subst e
      have hj : j < 72 := x3
      rw [qrdx (qG_off (by decide) (by decide))] at x4
      have hx : y.toInt = x'.toInt + 1 := qi_add hyx (by omega) (by omega)
      have f22 : qv h' 2 2 = (j : Int) := by rw [hF, qud_same, qi_int hw, x2]
      have e22j : qv h 2 2 = (j : Int) + 1 := by rw [e22, hx, x2]
      have f24 : qv h' 2 4 = qv h 2 4 := by rw [hF, qud_k (by decide)]
      have f6 : ∀ i : Nat, qv h 6 i = qv h' 6 i := fun i => by rw [hF, qud_a (by decide)]
      have hc := qgc_s (F := qv h') (F' := qv h) f22 e22j f6
      rw [← f6 j] at hc
      obtain ⟨B, b1, b2, b3⟩ := qgw_ok (g' := 72 - qv h' 2 2) (d := 1) hE g9 (by rw [f22, e22j]; omega) (by rw [f22]; omega) (by rw [f22]; omega)
      rw [b1] at hU
      have hU : (match qsg B.1 t with
        | some true => bif avb' B.1 (amg m (r, 0, 4)) 0 64 then (match qup B.1 gs with
          | some A => some (some (A.1, [((r, 0, 7), gc), ((r, 0, 8), A.2), ((r, 0, 9), B.2)], []))
          | none => some none) else none
        | some false => some (some (B.1, [((r, 0, 7), apls gc (-1)), ((r, 0, 8), gs), ((r, 0, 9), B.2)], []))
        | none => none) = some o := hU
      have ho : ∀ (a k : Nat), ¬ aden ρ (r, 0, 7) a k → ¬ aden ρ (r, 0, 8) a k → ¬ aden ρ (r, 0, 9) a k → qgF (qv h') a k = qgF (qv h) a k := fun a k q1 q2 q3 => by
        rw [hF]
        exact qd22 a k (qnd (kk := 7) hE (by decide) hr q1) (qnd (kk := 8) hE (by decide) hr q2) (qnd (kk := 9) hE (by decide) hr q3)
      have hn : ∀ tx : Int32, wt = .int tx → qv h 6 j = tx.toInt := fun tx e => by
        subst e
        rw [qv_on (by unfold qpr; simp [Nat.ble_eq]; omega), qi_int x4]
      split at hU
      · next hs =>
        obtain ⟨tx, t1, t2⟩ := qsg_ok b2 hs x5
        rw [hn tx t1, t2] at hc
        have hc : qgc (qv h) = qgc (qv h') + 0 := hc
        cases hb4 : avb' B.1 (amg m (r, 0, 4)) 0 64 with
        | false => rw [hb4] at hU; cases hU
        | true =>
          rw [hb4] at hU
          unfold avb' at hb4
          split at hb4
          · next k0 hk0 =>
            obtain ⟨w0, p1, p2, p3⟩ := qamg_r (k := 4) hE hH (by decide) hr (qr24 h) (by decide) hk0
            obtain ⟨kx, rfl, k1, k2⟩ := avb_ok b2 hb4 p2
            have e24 := p3 kx rfl
            have hle := qgc_le (qv h')
            rw [f22] at hle
            obtain ⟨A, a1, a2, a3⟩ := qup_ok (g' := qv h' 2 4 - (qv h' 2 2).toNat + qgc (qv h')) b2 g8 (by rw [hc, f22, f24, e22j]; omega) (by rw [f22, f24]; omega) (by rw [f22, f24]; omega)
            have hU : (match qup B.1 gs with
              | some A => some (some (A.1, [((r, 0, 7), gc), ((r, 0, 8), A.2), ((r, 0, 9), B.2)], []))
              | none => some none) = some o := hU
            rw [a1] at hU
            cases hU
            refine qmk ρ aext.rf a2 (qallc (qo1 (k := 7) a2 (by decide +kernel) (by decide) hr (qg7 _) ?_) (qallc (qo1 (k := 8) a2 (by decide +kernel) (by decide) hr (qg8 _) a3) (qallc (qo1 (k := 9) a2 (by decide +kernel) (by decide) hr (qg9 _) b3) qall0))) qall0 (fun a k q1 _ => ho a k (q1 _ (List.Mem.head _)) (q1 _ (List.Mem.tail _ (List.Mem.head _))) (q1 _ (List.Mem.tail _ (List.Mem.tail _ (List.Mem.head _)))))
            have hc' : qgc (qv h') = qgc (qv h) := by omega
            rw [hc']
            exact g7
          · cases hb4
      · next hs =>
        cases hU
        obtain ⟨tx, t1, t2⟩ := qsg_ok b2 hs x5
        rw [hn tx t1, t2] at hc
        have hc : qgc (qv h) = qgc (qv h') + 1 := hc
        refine qmk ρ aext.rf b2 (qallc (qo1 (k := 7) b2 (by decide +kernel) (by decide) hr (qg7 _) ?_) (qallc (qo1 (k := 8) b2 (by decide +kernel) (by decide) hr (qg8 _) ?_) (qallc (qo1 (k := 9) b2 (by decide +kernel) (by decide) hr (qg9 _) b3) qall0))) qall0 (fun a k q1 _ => ho a k (q1 _ (List.Mem.head _)) (q1 _ (List.Mem.tail _ (List.Mem.head _))) (q1 _ (List.Mem.tail _ (List.Mem.tail _ (List.Mem.head _)))))
        · exact apls_g (-1) g7 (by rw [hc]; omega)
        · have e : qv h' 2 4 - ((qv h' 2 2).toNat : Int) + (qgc (qv h') : Int) = qv h 2 4 - (qv h 2 2).toNat + qgc (qv h) := by rw [hc, f22, f24, e22j]; omega
          rw [e]
          exact g8
      · cases hU
theorem qUs_ok {E : List aY} {m : aM} {r : Nat} {v : aV} {o : Option (List aY × aM × List aK)} {ρ : List Int} {h h' : zH} {w : Value} (hU : qUs E m r v = some o) (hE : aE qW E ρ) (hH : aH qW qG ρ m h) (hr : ρ[r]? = some ((2 : Nat) : Int)) (hv : av ρ v w) (hw : rd h' 2 2 = some w) (hF : qv h' = qud (qv h) 2 2 (qi h' 2 2)) : aUout qW qG ρ h h' o := by
  unfold qUs at hU
  cases hb : aveq v (.inl (0, 0)) with
  | true =>
    rw [hb] at hU
    rw [aveq_ok hb] at hv
    obtain ⟨x, x1, rfl⟩ := hv
    have hx : x.toInt = 0 := qidx (k := 0) hE (by decide) x1
    have f22 : qv h' 2 2 = 0 := by rw [hF, qud_same, qi_int hw, hx]
    have f24 : qv h' 2 4 = qv h 2 4 := by rw [hF, qud_k (by decide)]
    have c0 : qgc (qv h') = 0 := by
      have := qgc_le (qv h')
      rw [f22] at this
      exact Nat.le_zero.mp this
    have ho : ∀ (a k : Nat), ¬ aden ρ (r, 0, 7) a k → ¬ aden ρ (r, 0, 8) a k → ¬ aden ρ (r, 0, 9) a k → qgF (qv h') a k = qgF (qv h) a k := fun a k q1 q2 q3 => by
      rw [hF]
      exact qd22 a k (qnd (kk := 7) hE (by decide) hr q1) (qnd (kk := 8) hE (by decide) hr q2) (qnd (kk := 9) hE (by decide) hr q3)
    have a7 : av ρ (.inl (0, 0)) (.int (Int32.ofInt (qgc (qv h')))) := by
      rw [c0]
      exact ⟨_, ai_c hE 0, rfl⟩
    have a9 : av ρ (.inl (0, 72)) (.int (Int32.ofInt (72 - qv h' 2 2))) := by
      rw [f22]
      exact ⟨_, ai_c hE 72, rfl⟩
    have hU : (match amg m (r, 0, 4) with
      | some (.inl k) => some (some (E, [((r, 0, 7), .inl (0, 0)), ((r, 0, 8), .inl k), ((r, 0, 9), .inl (0, 72))], []))
      | _ => some (some (E, [((r, 0, 7), .inl (0, 0)), ((r, 0, 9), .inl (0, 72))], [(r, 0, 8)]))) = some o := hU
    split at hU
    · next k0 hk0 =>
      cases hU
      obtain ⟨w0, p1, p2, p3⟩ := qamg_r (k := 4) hE hH (by decide) hr (qr24 h) (by decide) hk0
      obtain ⟨kx, k1, rfl⟩ := p2
      have e24 := p3 kx rfl
      refine qmk ρ aext.rf hE (qallc (qo1 (k := 7) hE (by decide +kernel) (by decide) hr (qg7 _) a7) (qallc (qo1 (k := 8) hE (by decide +kernel) (by decide) hr (qg8 _) ?_) (qallc (qo1 (k := 9) hE (by decide +kernel) (by decide) hr (qg9 _) a9) qall0))) qall0 (fun a k q1 _ => ho a k (q1 _ (List.Mem.head _)) (q1 _ (List.Mem.tail _ (List.Mem.head _))) (q1 _ (List.Mem.tail _ (List.Mem.tail _ (List.Mem.head _)))))
      have e : qv h' 2 4 - ((qv h' 2 2).toNat : Int) + (qgc (qv h') : Int) = kx.toInt := by rw [c0, f22, f24, e24]; simp
      rw [e, Int32.ofInt_toInt]
      exact ⟨kx, k1, rfl⟩
    · cases hU
      exact qmk ρ aext.rf hE (qallc (qo1 (k := 7) hE (by decide +kernel) (by decide) hr (qg7 _) a7) (qallc (qo1 (k := 9) hE (by decide +kernel) (by decide) hr (qg9 _) a9) qall0)) (qallc (qo2 (k := 8) hE (by decide +kernel) (by decide) hr (qg8 _) (by decide +kernel)) qall0) (fun a k q1 q2 => ho a k (q1 _ (List.Mem.head _)) (q2 _ (List.Mem.head _)) (q1 _ (List.Mem.tail _ (List.Mem.head _))))
  | false =>
    rw [hb] at hU
    have hU : (match amg m (r, 0, 2), amg m (r, 0, 7), amg m (r, 0, 8), amg m (r, 0, 9) with
      | some (.inl w), some gc, some gs, some gw => bif aveq v (.inl (w.1, w.2 + 1)) then qUpush E m r w gc gs gw else (bif aveq v (.inl (w.1, w.2 + -1)) then qUpop E m r w gc gs gw else none)
      | _, _, _, _ => none) = some o := hU
    split at hU
    · next w0 gc gs gw h2 h7 h8 h9 =>
      cases hb1 : aveq v (.inl (w0.1, w0.2 + 1)) with
      | true =>
        rw [hb1] at hU
        rw [aveq_ok hb1] at hv
        obtain ⟨x, x1, rfl⟩ := hv
        exact qUpush_ok hU hE hH hr h2 h7 h8 h9 x1 hw hF
      | false =>
        rw [hb1] at hU
        cases hb2 : aveq v (.inl (w0.1, w0.2 + -1)) with
        | true =>
          rw [hb2] at hU
          rw [aveq_ok hb2] at hv
          obtain ⟨x, x1, rfl⟩ := hv
          exact qUpop_ok hU hE hH hr h2 h7 h8 h9 x1 hw hF
        | false =>
          rw [hb2] at hU
          cases hU
    · cases hU
end
section
/-! The rules of the reference are right: how many knots are counted, how many are laid. -/
theorem qi_sub {x y : Int32} {d : Int} (e : x = y + Int32.ofInt d) : y = x + Int32.ofInt (-d) := by
  have e1 : x = Int32.ofInt (y.toInt + d) := by rw [e, Int32.ofInt_add, Int32.ofInt_toInt]
  rw [e1, ← Int32.ofInt_add, show y.toInt + d + -d = y.toInt by omega, Int32.ofInt_toInt]
theorem qamf_c {E : List aY} {ρ : List Int} {m : aM} {h : zH} {so c0 k0 : Nat} {v : aV} (hE : aE qW E ρ) (hH : aH qW qG ρ m h) (hu : ∀ a : Nat, a < qW.1.length → (asrt qW a : Int) = (so : Int) → a = c0) (h128 : ¬ c0 = 128) (h2 : ¬ c0 = 2) (hk : k0 < 1000) (hp : qpr c0 k0 = true) (hs : amf E (so : Int) 0 (k0 : Int) m = some v) : ∃ w : Value, rd h c0 k0 = some w ∧ av ρ v w ∧ ∀ x : Int32, w = .int x → qv h c0 k0 = x.toInt := by
  obtain ⟨j, w, x, x1, x2, -, g4, g5⟩ := qamf hE hH hu h128 hs
  have hj : j = k0 := by have := qidx hE hk x1; omega
  subst hj
  rw [qrdx (qG_off h2 h128)] at g4
  exact ⟨w, g4, g5, fun y e => by subst e; rw [qv_on hp, qi_int g4]⟩
theorem qz0 {E : List aY} {ρ : List Int} {m : aM} {h : zH} {so c0 k0 : Nat} {l u : Int} (hE : aE qW E ρ) (hH : aH qW qG ρ m h) (hu : ∀ a : Nat, a < qW.1.length → (asrt qW a : Int) = (so : Int) → a = c0) (h128 : ¬ c0 = 128) (h2 : ¬ c0 = 2) (hk : k0 < 1000) (hp : qpr c0 k0 = true) (hb : avb' E (amf E (so : Int) 0 (k0 : Int) m) l u = true) : l ≤ qv h c0 k0 ∧ qv h c0 k0 ≤ u := by
  unfold avb' at hb
  split at hb
  · next v hv =>
    obtain ⟨w, h1, h2', h3⟩ := qamf_c hE hH hu h128 h2 hk hp hv
    obtain ⟨x, rfl, x1, x2⟩ := avb_ok hE hb h2'
    rw [h3 x rfl]
    exact ⟨x1, x2⟩
  · cases hb
theorem qk74 {E : List aY} {ρ : List Int} {h h' : zH} {r : Nat} {z : Int} (hE : aE qW E ρ) (hr : ρ[r]? = some ((128 : Nat) : Int)) (hF : qv h' = qud (qv h) 128 33 z) : aUout qW qG ρ h h' (some (E, [], [(r, 0, 74)])) := by
  refine qmk ρ aext.rf hE qall0 (qallc (qo2 (k := 74) hE (by decide +kernel) (by decide) hr (qg74 _) (by decide +kernel)) qall0) (fun a j _ q2 => ?_)
  rw [hF]
  exact qd33 a j (qnd (kk := 74) hE (by decide) hr (q2 _ List.mem_cons_self))
theorem qUco_ok {E : List aY} {m : aM} {r : Nat} {v : aV} {o : Option (List aY × aM × List aK)} {ρ : List Int} {h h' : zH} {w : Value} (hU : qUco E m r v = some o) (hE : aE qW E ρ) (hH : aH qW qG ρ m h) (hr : ρ[r]? = some ((128 : Nat) : Int)) (hv : av ρ v w) (hw : rd h' 128 33 = some w) (hF : qv h' = qud (qv h) 128 33 (qi h' 128 33)) : aUout qW qG ρ h h' o := by
  unfold qUco at hU
  cases hb : (avb E v 0 0 && (avb' E (amf E 51 0 17 m) 0 0 && ((qz E m 65 3 && (qz E m 65 4 && qz E m 65 5)) && (qz E m 66 3 && (qz E m 66 4 && qz E m 66 5))))) with
  | true =>
    rw [hb] at hU
    cases hU
    simp only [Bool.and_eq_true] at hb
    obtain ⟨b0, bN, ⟨s3, s4, s5⟩, t3, t4, t5⟩ := hb
    obtain ⟨x, rfl, x1, x2⟩ := avb_ok hE b0 hv
    have z0 : qi h' 128 33 = 0 := by rw [qi_int hw]; omega
    have f33 : qv h' 128 33 = 0 := by rw [hF, qud_same, z0]
    have n0 := qz0 (so := 51) (k0 := 17) hE hH (fun a => qun51) (by decide) (by decide) (by decide) (by decide) bN
    have a3 := qz0 (so := 65) (k0 := 3) hE hH (fun a => qun65) (by decide) (by decide) (by decide) (by decide) s3
    have a4 := qz0 (so := 65) (k0 := 4) hE hH (fun a => qun65) (by decide) (by decide) (by decide) (by decide) s4
    have a5 := qz0 (so := 65) (k0 := 5) hE hH (fun a => qun65) (by decide) (by decide) (by decide) (by decide) s5
    have c3 := qz0 (so := 66) (k0 := 3) hE hH (fun a => qun66) (by decide) (by decide) (by decide) (by decide) t3
    have c4 := qz0 (so := 66) (k0 := 4) hE hH (fun a => qun66) (by decide) (by decide) (by decide) (by decide) t4
    have c5 := qz0 (so := 66) (k0 := 5) hE hH (fun a => qun66) (by decide) (by decide) (by decide) (by decide) t5
    have fo : ∀ b j : Nat, ¬ b = 128 → qv h' b j = qv h b j := fun b j hb => by rw [hF, qud_a hb]
    have m0 : qv h' 130 17 = 0 := by rw [fo _ _ (by decide)]; omega
    have e3 : qv h' 144 3 = 0 := by rw [fo _ _ (by decide)]; omega
    have e4 : qv h' 144 4 = 0 := by rw [fo _ _ (by decide)]; omega
    have e5 : qv h' 144 5 = 0 := by rw [fo _ _ (by decide)]; omega
    have g3 : qv h' 145 3 = 0 := by rw [fo _ _ (by decide)]; omega
    have g4 : qv h' 145 4 = 0 := by rw [fo _ _ (by decide)]; omega
    have g5 : qv h' 145 5 = 0 := by rw [fo _ _ (by decide)]; omega
    have hb0 : qba (qv h') = 0 := by unfold qba; rw [e3, e4, e5]; decide
    have hh0 : qhb (qv h') = 0 := by unfold qhb; rw [hb0, m0]; rfl
    have hp2 : qp2 (qv h') := by
      unfold qp2
      rw [m0, e3, e4, e5, g3, g4, g5]
      have q : qlw (qv h') 64 0 0 0 := ⟨by decide, by decide, by decide, fun q => by omega⟩
      exact ⟨by decide, q, q, q⟩
    refine qmk ρ aext.rf hE (qallc (qo1 (k := 74) hE (by decide +kernel) (by decide) hr (qg74 _) ?_) (qallc (qo1 (k := 75) hE (by decide +kernel) (by decide) hr (qg75 _) ?_) (qallc (qo1 (k := 76) hE (by decide +kernel) (by decide) hr (qg76 _) ?_) (qallc (qo1 (k := 77) hE (by decide +kernel) (by decide) hr (qg77 _) ?_) qall0)))) qall0 (fun a j q1 _ => ?_)
    · rw [f33, m0]
      exact ⟨_, ai_c hE 0, rfl⟩
    · rw [hh0]
      exact ⟨_, ai_c hE 0, rfl⟩
    · rw [hb0]
      exact ⟨_, ai_c hE 0, rfl⟩
    · rw [qbo_t hp2]
      exact ⟨_, ai_c hE 1, rfl⟩
    · rw [hF]
      exact qd33 a j (qnd (kk := 74) hE (by decide) hr (q1 _ List.mem_cons_self))
  | false =>
    rw [hb] at hU
    have hU : (match amg m (r, 0, 33), amg m (r, 0, 74) with
      | some c, some d => bif aveq v (apls c 1) && avb E v 0 64 then (match qup E d with
        | some A => some (some (A.1, [((r, 0, 74), A.2)], []))
        | none => some none) else some (some (E, [], [(r, 0, 74)]))
      | _, _ => some (some (E, [], [(r, 0, 74)]))) = some o := hU
    split at hU
    · next c d hc hd =>
      cases hb2 : (aveq v (apls c 1) && avb E v 0 64) with
      | false =>
        rw [hb2] at hU
        cases hU
        exact qk74 hE hr hF
      | true =>
        rw [hb2] at hU
        rw [Bool.and_eq_true] at hb2
        obtain ⟨b1, b2⟩ := hb2
        obtain ⟨x, rfl, x1, x2⟩ := avb_ok hE b2 hv
        rw [aveq_ok b1] at hv
        obtain ⟨y, y1, y2, y3⟩ := apls_inv hv
        obtain ⟨w0, w1, w2, w3⟩ := qamg_r (k := 33) hE hH (by decide) hr (qr33 h) (by decide) hc
        have e4 := w3 y (y3 _ w2)
        have e5 := qi_up y1 x1
        have f33 : qv h' 128 33 = qv h 128 33 + 1 := by rw [hF, qud_same, qi_int hw, e5, e4]
        have f17 : qv h' 130 17 = qv h 130 17 := by rw [hF, qud_a (by decide)]
        have hg := qamg_g (k := 74) hE hH (by decide) hr (qg74 _) hd
        have hb2 := qv_b h 130 17
        obtain ⟨A, a1, a2, a3⟩ := qup_ok (g' := qv h' 128 33 - (qv h' 130 17).toNat) hE hg (by rw [f33, f17]; omega) (by rw [f33, f17]; omega) (by rw [f33, f17]; omega)
        have hU : (match qup E d with
          | some A => some (some (A.1, [((r, 0, 74), A.2)], []))
          | none => some none) = some o := hU
        rw [a1] at hU
        cases hU
        refine qmk ρ aext.rf a2 (qallc (qo1 (k := 74) a2 (by decide +kernel) (by decide) hr (qg74 _) a3) qall0) qall0 (fun a j q1 _ => ?_)
        rw [hF]
        exact qd33 a j (qnd (kk := 74) a2 (by decide) hr (q1 _ List.mem_cons_self))
    · cases hU
      exact qk74 hE hr hF
theorem qhn_le {F : qF} {o b : Nat} : ∀ (n H : Nat), qhn F o b n = some H → H ≤ n
  | 0, H, h => by
    cases h
    exact Nat.le_refl _
  | n + 1, H, h => by
    unfold qhn at h
    split at h
    · next H0 h0 =>
      have ih := qhn_le n H0 h0
      unfold qst at h
      cases h1 : ieq (F 146 (o + (b + n))) 0 with
      | true => rw [h1] at h; cases h; omega
      | false =>
        rw [h1] at h
        cases h2 : ieq (F 146 (o + (b + n))) 1 with
        | true =>
          rw [h2] at h
          cases h3 : (ile 0 (F 147 (o + (b + n))) && ile (F 147 (o + (b + n))) 6) with
          | true => rw [h3] at h; cases h; omega
          | false => rw [h3] at h; cases h
        | false =>
          rw [h2] at h
          cases h3 : ieq (F 146 (o + (b + n))) 2 with
          | false => rw [h3] at h; cases h
          | true =>
            rw [h3] at h
            cases h4 : ieq (F 147 (o + (b + n))) 260 with
            | true =>
              rw [h4] at h
              cases h5 : Nat.ble 1 H0 with
              | true => rw [h5] at h; cases h; omega
              | false => rw [h5] at h; cases h
            | false =>
              rw [h4] at h
              cases h5 : Nat.ble 2 H0 with
              | true => rw [h5] at h; cases h; omega
              | false => rw [h5] at h; cases h
    · cases h
/-- height behind a knot -/
theorem qht_ok {E : List aY} {ρ : List Int} {a b hv : aV} {wa wb : Value} {F1 F2 : Int} {H : Nat} {oA : Option (List aY × aV)} (hq : qht E a b hv = some oA) (hE : aE qW E ρ) (ha : av ρ a wa) (hb : av ρ b wb) (h1 : ∀ x : Int32, wa = .int x → F1 = x.toInt) (h2 : ∀ x : Int32, wb = .int x → F2 = x.toInt) (hh : av ρ hv (.int (Int32.ofInt H))) (hH : H ≤ 63) : ∃ A : List aY × aV, oA = some A ∧ aE qW A.1 ρ ∧ ∃ H' : Nat, qst F1 F2 H = some H' ∧ av ρ A.2 (.int (Int32.ofInt H')) := by
  have e0 : (Int32.ofInt (H : Int)).toInt = H := ai32 (by omega) (by omega)
  have up : ∃ A : List aY × aV, qup E hv = some A ∧ aE qW A.1 ρ ∧ av ρ A.2 (.int (Int32.ofInt ((H + 1 : Nat) : Int))) := qup_ok hE hh (by omega) (by omega) (by omega)
  unfold qht at hq
  cases c0 : avb E hv 0 64 with
  | false => rw [c0] at hq; cases hq
  | true =>
    rw [c0] at hq
    cases c1 : (avb E a 0 0 || (avb E a 1 1 && avb E b 0 6)) with
    | true =>
      rw [c1] at hq
      have hq : some (qup E hv) = some oA := hq
      obtain ⟨A, a1, a2, a3⟩ := up
      rw [a1] at hq
      cases hq
      refine ⟨A, rfl, a2, H + 1, ?_, a3⟩
      rw [Bool.or_eq_true] at c1
      rcases c1 with c1 | c1
      · obtain ⟨x, q, x1, x2⟩ := avb_ok hE c1 ha
        have e1 : F1 = 0 := by rw [h1 x q]; omega
        rw [e1]
        rfl
      · rw [Bool.and_eq_true] at c1
        obtain ⟨x, q, x1, x2⟩ := avb_ok hE c1.1 ha
        obtain ⟨y, q', y1, y2⟩ := avb_ok hE c1.2 hb
        have e1 : F1 = 1 := by rw [h1 x q]; omega
        have e2 := h2 y q'
        rw [e1]
        unfold qst
        rw [e2, ile_iff.mpr y1, ile_iff.mpr y2]
        rfl
    | false =>
      rw [c1] at hq
      cases c2 : (avb E a 2 2 && (avb E b 260 260 && avb E hv 1 64)) with
      | true =>
        rw [c2] at hq
        cases hq
        refine ⟨_, rfl, hE, H, ?_, hh⟩
        rw [Bool.and_eq_true, Bool.and_eq_true] at c2
        obtain ⟨x, q, x1, x2⟩ := avb_ok hE c2.1 ha
        obtain ⟨y, q', y1, y2⟩ := avb_ok hE c2.2.1 hb
        have hl := avb_i hE c2.2.2 hh
        have e1 : F1 = 2 := by rw [h1 x q]; omega
        have e2 : F2 = 260 := by rw [h2 y q']; omega
        rw [e1, e2]
        show (bif Nat.ble 1 H then some H else none) = some H
        rw [Nat.ble_eq.mpr (by omega)]
        rfl
      | false =>
        rw [c2] at hq
        cases c3 : (avb E a 2 2 && ((avb E b (-2147483648) 259 || avb E b 261 2147483647) && avb E hv 2 64)) with
        | false => rw [c3] at hq; cases hq
        | true =>
          rw [c3] at hq
          cases hq
          rw [Bool.and_eq_true, Bool.and_eq_true, Bool.or_eq_true] at c3
          obtain ⟨x, q, x1, x2⟩ := avb_ok hE c3.1 ha
          have hl := avb_i hE c3.2.2 hh
          rw [e0] at hl
          have hl2 : 2 ≤ H := by omega
          have e1 : F1 = 2 := by rw [h1 x q]; omega
          have e2 : ieq F2 260 = false := by
            cases hb : ieq F2 260 with
            | false => rfl
            | true =>
              have := ieq_ok hb
              rcases c3.2.1 with c | c
              · obtain ⟨y, q', y1, y2⟩ := avb_ok hE c (by assumption)
                have := h2 y q'
                omega
              · obtain ⟨y, q', y1, y2⟩ := avb_ok hE c (by assumption)
                have := h2 y q'
                omega
          have e3 : ((H - 1 : Nat) : Int) = (H : Int) + -1 := by clear hl e0; omega
          refine ⟨_, rfl, hE, H - 1, ?_, apls_g (-1) hh e3⟩
          rw [e1]
          show (bif ieq F2 260 then (bif Nat.ble 1 H then some H else none) else (bif Nat.ble 2 H then some (H - 1) else none)) = some (H - 1)
          rw [e2, Nat.ble_eq.mpr hl2]
          rfl
theorem qk17 {E : List aY} {ρ : List Int} {h h' : zH} {r : Nat} {z : Int} (hE : aE qW E ρ) (hr : ρ[r]? = some ((128 : Nat) : Int)) (hF : qv h' = qud (qv h) 130 17 z) : aUout qW qG ρ h h' (some (E, [], [(r, 0, 74), (r, 0, 75), (r, 0, 77)])) := by
  refine qmk ρ aext.rf hE qall0 (qallc (qo2 (k := 74) hE (by decide +kernel) (by decide) hr (qg74 _) (by decide +kernel)) (qallc (qo2 (k := 75) hE (by decide +kernel) (by decide) hr (qg75 _) (by decide +kernel)) (qallc (qo2 (k := 77) hE (by decide +kernel) (by decide) hr (qg77 _) (by decide +kernel)) qall0))) (fun a j _ q2 => ?_)
  rw [hF]
  exact qd17 a j (qnd (kk := 74) hE (by decide) hr (q2 _ (List.Mem.head _))) (qnd (kk := 75) hE (by decide) hr (q2 _ (List.Mem.tail _ (List.Mem.head _)))) (qnd (kk := 77) hE (by decide) hr (q2 _ (List.Mem.tail _ (List.Mem.tail _ (List.Mem.head _)))))
theorem qp2_of {E : List aY} {ρ : List Int} {F : qF} {p : aV} (hE : aE qW E ρ) (h : av ρ p (.int (Int32.ofInt (qbo (qp2 F))))) (hb : avb E p 1 1 = true) : qp2 F := by
  have q := avb_i hE hb h
  have b := qbo_01 (qp2 F)
  rw [ai32 (by omega) (by omega)] at q
  exact qbo_1 (by omega)
/-- what whole laws say of the begin -/
theorem qp2_b {F : qF} (h : qp2 F) : 0 ≤ qba F ∧ qba F ≤ F 130 17 ∧ F 130 17 ≤ 64 := by
  obtain ⟨h0, h1, h2, h3⟩ := h
  have := h1.1
  have := h1.2.1
  have := h2.2.1
  have := h3.2.1
  unfold qba
  omega
theorem qUn_ok {E : List aY} {m : aM} {r : Nat} {v : aV} {o : Option (List aY × aM × List aK)} {ρ : List Int} {h h' : zH} {w : Value} (hU : qUn E m r v = some o) (hE : aE qW E ρ) (hH : aH qW qG ρ m h) (hv : av ρ v w) (hw : rd h' 130 17 = some w) (hF : qv h' = qud (qv h) 130 17 (qi h' 130 17)) : aUout qW qG ρ h h' o := by
  unfold qUn at hU
  split at hU
  · cases hU
  · next q hq =>
    have hr := qmo_ok hE hH m (fun e he => he) hq
    split at hU
    · next n d hh p2 hn hd hhh hp =>
      cases hb : (aveq v (.inl (n.1, n.2 + 1)) && (avb E (.inl n) 0 63 && avb E p2 1 1)) with
      | false =>
        rw [hb] at hU
        cases hU
        exact qk17 hE hr hF
      | true =>
        rw [hb] at hU
        rw [Bool.and_eq_true, Bool.and_eq_true] at hb
        obtain ⟨b1, b2, b3⟩ := hb
        obtain ⟨w0, n1, n2, n3⟩ := qamf_c (so := 51) (k0 := 17) hE hH (fun a => qun51) (by decide) (by decide) (by decide) (by decide) hn
        obtain ⟨y, y1, rfl⟩ := n2
        have e17 := n3 y rfl
        have yb := avb_i hE b2 (show av ρ (.inl n) (.int y) from ⟨y, y1, rfl⟩)
        rw [aveq_ok b1] at hv
        obtain ⟨x, x1, rfl⟩ := hv
        have hx : x.toInt = y.toInt + 1 := qi_add (x1.inj y1.add) (by omega) (by omega)
        have f17 : qv h' 130 17 = qv h 130 17 + 1 := by rw [hF, qud_same, qi_int hw, hx, e17]
        have fo : ∀ b j : Nat, ¬ b = 130 → qv h' b j = qv h b j := fun b j hb => by rw [hF, qud_a hb]
        have g74 := qamg_g (k := 74) hE hH (by decide) hr (qg74 _) hd
        have g75 := qamg_g (k := 75) hE hH (by decide) hr (qg75 _) hhh
        have g77 := qamg_g (k := 77) hE hH (by decide) hr (qg77 _) hp
        have P := qp2_of hE g77 b3
        have Pb := qp2_b P
        have P' : qp2 (qv h') := qp2_m (by omega) (by omega) (fun k _ _ => ⟨fo _ _ (by decide), fo _ _ (by decide)⟩) (fun i _ => ⟨fo _ _ (by decide), fo _ _ (by decide)⟩) P
        have hU : (match amf E 67 n.1 (n.2 + 64) m, amf E 68 n.1 (n.2 + 64) m with
          | some a, some b => match qht E a b hh with
            | some (some A) => some (some (A.1, [((q, 0, 74), apls d (-1)), ((q, 0, 75), A.2), ((q, 0, 77), p2)], []))
            | some none => some none
            | none => some (some (E, [], [(q, 0, 74), (q, 0, 75), (q, 0, 77)]))
          | _, _ => some (some (E, [], [(q, 0, 74), (q, 0, 75), (q, 0, 77)]))) = some o := hU
        split at hU
        · next a b hka hkb =>
          obtain ⟨j, wa, xa, xa1, xa2, -, xa4, xa5⟩ := qamf (so := 67) hE hH (fun a => qun67) (by decide) hka
          obtain ⟨j', wb, xb, xb1, xb2, -, xb4, xb5⟩ := qamf (so := 68) hE hH (fun a => qun68) (by decide) hkb
          have hj : xa.toInt = y.toInt + 64 := qi_add (xa1.inj y1.add) (by omega) (by omega)
          have hj' : xb.toInt = y.toInt + 64 := qi_add (xb1.inj y1.add) (by omega) (by omega)
          have ej' : j' = j := by omega
          subst ej'
          rw [qrdx (qG_off (by decide) (by decide))] at xa4 xb4
          have hpr1 : qpr 146 j' = true := by unfold qpr; simp [Nat.ble_eq]; omega
          have hpr2 : qpr 147 j' = true := by unfold qpr; simp [Nat.ble_eq]; omega
          cases hqt : qht E a b hh with
          | none =>
            rw [hqt] at hU
            cases hU
            exact qk17 hE hr hF
          | some oA =>
            have hH0 : ∃ H : Nat, qhn (qv h) 64 (qba (qv h)).toNat ((qv h 130 17).toNat - (qba (qv h)).toNat) = some H := by
              cases hz : qhn (qv h) 64 (qba (qv h)).toNat ((qv h 130 17).toNat - (qba (qv h)).toNat) with
              | some H => exact ⟨H, rfl⟩
              | none =>
                exfalso
                have e1 : qhb (qv h) = -1 := by unfold qhb; rw [hz]
                have c0 : avb E hh 0 64 = true := by
                  cases c : avb E hh 0 64 with
                  | true => rfl
                  | false => unfold qht at hqt; rw [c] at hqt; cases hqt
                rw [e1] at g75
                exact absurd (avb_i hE c0 g75).1 (by decide)
            obtain ⟨H, hHe⟩ := hH0
            have hbH : qhb (qv h) = (H : Int) := by unfold qhb; rw [hHe]
            have hHl := qhn_le _ _ hHe
            rw [hbH] at g75
            obtain ⟨A, rfl, A1, H', A2, A3⟩ := qht_ok (F1 := qv h 146 j') (F2 := qv h 147 j') hqt hE xa5 xb5 (fun x e => by subst e; rw [qv_on hpr1, qi_int xa4]) (fun x e => by subst e; rw [qv_on hpr2, qi_int xb4]) g75 (by omega)
            rw [hqt] at hU
            cases hU
            have ba' : qba (qv h') = qba (qv h) := qba_c (fun k _ _ => fo _ _ (by decide))
            have hb' : qhb (qv h') = (H' : Int) := by
              unfold qhb
              have e1 : (qv h' 130 17).toNat - (qba (qv h')).toNat = ((qv h 130 17).toNat - (qba (qv h)).toNat) + 1 := by rw [ba', f17]; omega
              have e2 : qhn (qv h') 64 (qba (qv h)).toNat (((qv h 130 17).toNat - (qba (qv h)).toNat) + 1) = some H' := by
                show (match qhn (qv h') 64 (qba (qv h)).toNat ((qv h 130 17).toNat - (qba (qv h)).toNat) with
                  | some H => qst (qv h' 146 (64 + ((qba (qv h)).toNat + ((qv h 130 17).toNat - (qba (qv h)).toNat)))) (qv h' 147 (64 + ((qba (qv h)).toNat + ((qv h 130 17).toNat - (qba (qv h)).toNat)))) H
                  | none => none) = some H'
                rw [qhn_c _ (fun i _ => ⟨fo _ _ (by decide), fo _ _ (by decide)⟩), hHe, fo _ _ (by decide), fo _ _ (by decide), show 64 + ((qba (qv h)).toNat + ((qv h 130 17).toNat - (qba (qv h)).toNat)) = j' by omega]
                exact A2
              rw [e1, ba', e2]
            refine qmk ρ aext.rf A1 (qallc (qo1 (k := 74) A1 (by decide +kernel) (by decide) hr (qg74 _) ?_) (qallc (qo1 (k := 75) A1 (by decide +kernel) (by decide) hr (qg75 _) ?_) (qallc (qo1 (k := 77) A1 (by decide +kernel) (by decide) hr (qg77 _) ?_) qall0))) qall0 (fun a j q1 _ => ?_)
            · exact apls_g (-1) g74 (by rw [f17, fo _ _ (by decide)]; omega)
            · rw [hb']
              exact A3
            · rw [qbo_t P']
              rw [qbo_t P] at g77
              exact g77
            · rw [hF]
              exact qd17 a j (qnd (kk := 74) hE (by decide) hr (q1 _ (List.Mem.head _))) (qnd (kk := 75) hE (by decide) hr (q1 _ (List.Mem.tail _ (List.Mem.head _)))) (qnd (kk := 77) hE (by decide) hr (q1 _ (List.Mem.tail _ (List.Mem.tail _ (List.Mem.head _)))))
        · cases hU
          exact qk17 hE hr hF
    · cases hU
      exact qk17 hE hr hF
end
section
/-! The rules of the reference's halves are right; all rules. -/
theorem qp1_of {F : qF} (h : qp2 F) (h4 : ∀ i : Nat, i < 3 → F 144 i = F 144 (3 + i)) (h5 : ∀ i : Nat, i < 3 → F 145 i = F 145 (3 + i)) (h6 : ∀ i : Nat, i < 64 → F 146 i = F 146 (64 + i)) (h7 : ∀ i : Nat, i < 64 → F 147 i = F 147 (64 + i)) : qp1 F := by
  obtain ⟨h0, h1, h2, h3⟩ := h
  have g : ∀ i : Nat, i < 64 → F 146 (0 + i) = F 146 (64 + i) ∧ F 147 (0 + i) = F 147 (64 + i) := fun i hi => by
    rw [Nat.zero_add]
    exact ⟨h6 i hi, h7 i hi⟩
  unfold qp1
  rw [show F 144 0 = F 144 3 from h4 0 (by omega), show F 144 1 = F 144 4 from h4 1 (by omega), show F 144 2 = F 144 5 from h4 2 (by omega), show F 145 0 = F 145 3 from h5 0 (by omega), show F 145 1 = F 145 4 from h5 1 (by omega), show F 145 2 = F 145 5 from h5 2 (by omega)]
  refine ⟨qlw_m h0 (fun i _ hi => g i ?_) h1, qlw_m h0 (fun i _ hi => g i ?_) h2, qlw_m h0 (fun i _ hi => g i ?_) h3⟩
  · have := h1.2.2.1; omega
  · have := h2.2.2.1; omega
  · have := h3.2.2.1; omega
theorem qpe_known {E : List aY} {ρ : List Int} {m : aM} {h : zH} {o gk c n : Nat} {l u : Int} (hE : aE qW E ρ) (hH : aH qW qG ρ m h) (hr : ρ[o]? = some ((128 : Nat) : Int)) (hk : gk < 1000) (hn : n ≤ 64) (hg : qgF (qv h) 128 gk = some ((qpe (qv h) c n n : Nat) : Int)) (hb : avb' E (amg m (o, 0, (gk : Int))) l u = true) : l ≤ (qpe (qv h) c n n : Nat) ∧ ((qpe (qv h) c n n : Nat) : Int) ≤ u := by
  unfold avb' at hb
  split at hb
  · next v hv =>
    have g := qamg_g hE hH hk hr hg hv
    have q := avb_i hE hb g
    have := qpe_le (qv h) c n n
    rw [ai32 (by omega) (by omega)] at q
    exact q
  · cases hb
theorem qgF_some {F F' : qF} {a k : Nat} {x y : Int} (h : qgF F' a k = qgF F a k) (h1 : qgF F' a k = some x) (h2 : qgF F a k = some y) : x = y := by
  rw [h1, h2] at h
  exact Option.some.inj h
theorem qUh_ok {E : List aY} {m : aM} {r so e c n gk kN : Nat} {v : aV} {o : Option (List aY × aM × List aK)} {ρ : List Int} {h h' : zH} {w : Value} (hU : qUh E m r (so : Int) e (n : Int) (kN : Int) v = some o) (hE : aE qW E ρ) (hH : aH qW qG ρ m h) (hv : av ρ v w) (hw : rd h' c kN = some w) (hF : qv h' = qud (qv h) c kN (qi h' c kN))
    (hu : ∀ a : Nat, a < qW.1.length → (asrt qW a : Int) = (so : Int) → a = c) (h128 : ¬ c = 128) (h2 : ¬ c = 2) (hkn : kN < n) (hn : n ≤ 64) (hp : qpr c (kN + n) = true) (hgk : qgk 128 gk = true) (hap : apl (afm qW (asrt qW 128)) gk = (0, -2147483648, 2147483647)) (he : 79 + (e : Int) = (gk : Int)) (hk1 : gk < 1000)
    (hgp : ∀ F : qF, qgF F 128 gk = some ((qpe F c n n : Nat) : Int)) (hdep : ∀ (z : Int) (a k : Nat), ¬ (a = 128 ∧ k = 78) → ¬ (a = 128 ∧ k = gk) → qgF (qud (qv h) c kN z) a k = qgF (qv h) a k) (h78 : ¬ gk = 78)
    (hrow : (e = 0 ∧ gk = 79 ∧ c = 144 ∧ n = 3) ∨ (e = 1 ∧ gk = 80 ∧ c = 145 ∧ n = 3) ∨ (e = 2 ∧ gk = 81 ∧ c = 146 ∧ n = 64) ∨ (e = 3 ∧ gk = 82 ∧ c = 147 ∧ n = 64)) : aUout qW qG ρ h h' o := by
  have hq78 := qbo_01 (qp1 (qv h'))
  unfold qUh at hU
  rw [he] at hU
  split at hU
  · cases hU
  · next q hq =>
    have hr := qmo_ok hE hH m (fun e he => he) hq
    have hdep' : ∀ a k : Nat, ¬ (a = 128 ∧ k = 78) → ¬ (a = 128 ∧ k = gk) → qgF (qv h') a k = qgF (qv h) a k := fun a k q1 q2 => by
      rw [hF]
      exact hdep _ a k q1 q2
    cases hb : (qas (amf E (so : Int) 0 ((kN : Int) + n) m) v && (ieq (kN : Int) 0 || avb' E (amg m (q, 0, (gk : Int))) (kN : Int) n)) with
    | false =>
      rw [hb] at hU
      cases hU
      have hE2 := hE.push (t := (0, 0, 1)) (z := qbo (qp1 (qv h'))) hq78
      have hr2 := (aext.one (ρ := ρ) (qbo (qp1 (qv h')))).get hr
      refine qmk _ (aext.one _) hE2 (qallc (qo1 (k := 78) hE2 (by decide +kernel) (by decide) hr2 (qg78 _) ?_) qall0) (qallc (qo2 hE2 hgk hk1 hr2 (hgp _) hap) qall0) (fun a k q1 q2 => hdep' a k (qnd (kk := 78) hE2 (by decide) hr2 (q1 _ List.mem_cons_self)) (qnd hE2 hk1 hr2 (q2 _ List.mem_cons_self)))
      rw [← hE.1]
      exact ⟨_, ⟨_, anew_get _, by rw [Int.add_zero]⟩, rfl⟩
    | true =>
      rw [hb] at hU
      rw [Bool.and_eq_true, Bool.or_eq_true] at hb
      obtain ⟨b1, b2⟩ := hb
      -- the place in the second half is the same
      have hsame : qv h' c kN = qv h' c (n + kN) := by
        unfold qas at b1
        split at b1
        · next w' hw' =>
          have hw2 : amf E (so : Int) 0 ((kN + n : Nat) : Int) m = some w' := by rw [← hw']; rfl
          obtain ⟨w0, p1, p2, p3⟩ := qamf_c hE hH hu h128 h2 (by omega) hp hw2
          rw [aveq_ok b1] at p2
          rw [hF, qud_same, qud_k (by omega), Nat.add_comm n kN, qv_on hp]
          unfold qi
          rw [hw, p1]
          rcases v with ⟨s, cc⟩ | s | s | k
          · obtain ⟨x, x1, rfl⟩ := hv
            obtain ⟨y, y1, rfl⟩ := p2
            rw [x1.inj y1]
          · obtain ⟨x, x1, rfl⟩ := hv
            obtain ⟨y, y1, rfl⟩ := p2
            rfl
          · obtain ⟨x, x1, rfl⟩ := hv
            obtain ⟨y, y1, rfl⟩ := p2
            rfl
          · have nx : ∀ u : Value, av ρ (.inr (.inr (.inr k))) u → ∀ x : Int32, ¬ u = .int x := fun u hu x e => by
              subst e
              obtain ⟨s, c, e, -⟩ := av_int hu
              cases e
            split
            · next x hx => cases hx; exact absurd rfl (nx _ hv x)
            · split
              · next x hx => cases hx; exact absurd rfl (nx _ p2 x)
              · rfl
        · cases b1
      have hpre : ∀ i : Nat, i < kN + 1 → qv h' c i = qv h' c (n + i) := fun i hi => by
        by_cases ei : i = kN
        · rw [ei]; exact hsame
        · rcases b2 with b2 | b2
          · have := ieq_ok b2
            omega
          · have q1 := (qpe_known hE hH hr hk1 hn (hgp _) b2).1
            rw [hF, qud_k ei, qud_k (by omega)]
            exact qpe_pre n kN (by omega) i (by omega)
      have hge : kN + 1 ≤ qpe (qv h') c n n := qpe_ge n (kN + 1) (by omega) hpre
      have hle := qpe_le (qv h') c n n
      have hE1 := hE.push (t := (0, (kN : Int) + 1, (n : Int))) (z := ((qpe (qv h') c n n : Nat) : Int)) ⟨by omega, by omega⟩
      have hr1 := (aext.one (ρ := ρ) ((qpe (qv h') c n n : Nat) : Int)).get hr
      have v1 : av (ρ ++ [((qpe (qv h') c n n : Nat) : Int)]) (.inl (E.length, 0)) (.int (Int32.ofInt ((qpe (qv h') c n n : Nat) : Int))) := by
        rw [← hE.1]
        exact ⟨_, ⟨_, anew_get _, by rw [Int.add_zero]⟩, rfl⟩
      have hU : (bif ieq ((kN : Int) + 1) n && (avb' E (amg m (q, 0, 77)) 1 1 && ((Nat.beq e 0 || avb' E (amg m (q, 0, 79)) 3 3) && ((Nat.beq e 1 || avb' E (amg m (q, 0, 80)) 3 3) && ((Nat.beq e 2 || avb' E (amg m (q, 0, 81)) 64 64) && (Nat.beq e 3 || avb' E (amg m (q, 0, 82)) 64 64))))) then some (some (E ++ [(0, (kN : Int) + 1, (n : Int))], [((q, 0, (gk : Int)), .inl (E.length, 0)), ((q, 0, 78), .inl (0, 1))], []))
        else some (some (E ++ [(0, (kN : Int) + 1, (n : Int)), (0, 0, 1)], [((q, 0, (gk : Int)), .inl (E.length, 0)), ((q, 0, 78), .inl (E.length + 1, 0))], []))) = some o := hU
      cases hb3 : (ieq ((kN : Int) + 1) n && (avb' E (amg m (q, 0, 77)) 1 1 && ((Nat.beq e 0 || avb' E (amg m (q, 0, 79)) 3 3) && ((Nat.beq e 1 || avb' E (amg m (q, 0, 80)) 3 3) && ((Nat.beq e 2 || avb' E (amg m (q, 0, 81)) 64 64) && (Nat.beq e 3 || avb' E (amg m (q, 0, 82)) 64 64)))))) with
      | false =>
        rw [hb3] at hU
        cases hU
        have hE2 := hE1.push (t := (0, 0, 1)) (z := qbo (qp1 (qv h'))) hq78
        have hx2 : aext ρ ((ρ ++ [((qpe (qv h') c n n : Nat) : Int)]) ++ [qbo (qp1 (qv h'))]) := (aext.one _).trans (aext.one _)
        rw [List.append_assoc E] at hE2
        have hr2 := hx2.get hr
        refine qmk _ hx2 hE2 (qallc (qo1 hE2 hgk hk1 hr2 (hgp _) (v1.ext (aext.one _))) (qallc (qo1 (k := 78) hE2 (by decide +kernel) (by decide) hr2 (qg78 _) ?_) qall0)) qall0 (fun a k q1 q2 => hdep' a k (qnd (kk := 78) hE2 (by decide) hr2 (q1 _ (List.Mem.tail _ (List.Mem.head _)))) (qnd hE2 hk1 hr2 (q1 _ (List.Mem.head _))))
        have e1 : E.length + 1 = (ρ ++ [((qpe (qv h') c n n : Nat) : Int)]).length := by rw [List.length_append, hE.1]; rfl
        rw [e1]
        exact ⟨_, ⟨_, anew_get _, by rw [Int.add_zero]⟩, rfl⟩
      | true =>
        rw [hb3] at hU
        cases hU
        simp only [Bool.and_eq_true, Bool.or_eq_true] at hb3
        obtain ⟨k1, k77, k0, ka, kb, kc⟩ := hb3
        have ek := ieq_ok k1
        have full : qpe (qv h') c n n = n := by omega
        -- laws laid are whole
        have hp2 : qp2 (qv h') := by
          unfold avb' at k77
          split at k77
          · next p hp' =>
            have P := qp2_of hE (qamg_g (k := 77) hE hH (by decide) hr (qg77 _) hp') k77
            have := qgF_some (hdep' 128 77 (by omega) (by omega)) (qg77 _) (qg77 _)
            rw [qbo_t P] at this
            exact qbo_1 this
          · cases k77
        have r0 : qpe (qv h') 144 3 3 = 3 := by
          rcases hrow with ⟨-, -, rfl, rfl⟩ | hrow
          · exact full
          · have k0 : avb' E (amg m (q, 0, 79)) 3 3 = true := by
              rcases k0 with k0 | k0
              · have := Nat.eq_of_beq_eq_true k0
                omega
              · exact k0
            have q1 := qpe_known (gk := 79) hE hH hr (by decide) (by decide) (qg79 _) k0
            have := qgF_some (hdep' 128 79 (by omega) (by omega)) (qg79 _) (qg79 _)
            omega
        have r1 : qpe (qv h') 145 3 3 = 3 := by
          rcases hrow with hrow | ⟨-, -, rfl, rfl⟩ | hrow
          · have ka : avb' E (amg m (q, 0, 80)) 3 3 = true := by
              rcases ka with ka | ka
              · have := Nat.eq_of_beq_eq_true ka
                omega
              · exact ka
            have q1 := qpe_known (gk := 80) hE hH hr (by decide) (by decide) (qg80 _) ka
            have := qgF_some (hdep' 128 80 (by omega) (by omega)) (qg80 _) (qg80 _)
            omega
          · exact full
          · have ka : avb' E (amg m (q, 0, 80)) 3 3 = true := by
              rcases ka with ka | ka
              · have := Nat.eq_of_beq_eq_true ka
                omega
              · exact ka
            have q1 := qpe_known (gk := 80) hE hH hr (by decide) (by decide) (qg80 _) ka
            have := qgF_some (hdep' 128 80 (by omega) (by omega)) (qg80 _) (qg80 _)
            omega
        have r2 : qpe (qv h') 146 64 64 = 64 := by
          by_cases e2 : e = 2
          · have : c = 146 ∧ n = 64 := by omega
            obtain ⟨rfl, rfl⟩ := this
            exact full
          · have kb : avb' E (amg m (q, 0, 81)) 64 64 = true := by
              rcases kb with kb | kb
              · exact absurd (Nat.eq_of_beq_eq_true kb) e2
              · exact kb
            have q1 := qpe_known (gk := 81) hE hH hr (by decide) (by decide) (qg81 _) kb
            have := qgF_some (hdep' 128 81 (by omega) (by omega)) (qg81 _) (qg81 _)
            omega
        have r3 : qpe (qv h') 147 64 64 = 64 := by
          by_cases e2 : e = 3
          · have : c = 147 ∧ n = 64 := by omega
            obtain ⟨rfl, rfl⟩ := this
            exact full
          · have kc : avb' E (amg m (q, 0, 82)) 64 64 = true := by
              rcases kc with kc | kc
              · exact absurd (Nat.eq_of_beq_eq_true kc) e2
              · exact kc
            have q1 := qpe_known (gk := 82) hE hH hr (by decide) (by decide) (qg82 _) kc
            have := qgF_some (hdep' 128 82 (by omega) (by omega)) (qg82 _) (qg82 _)
            omega
        have P1 : qp1 (qv h') := qp1_of hp2 (qpe_pre 3 3 (by omega)) (qpe_pre 3 3 (by omega)) (qpe_pre 64 64 (by omega)) (qpe_pre 64 64 (by omega))
        refine qmk _ (aext.one _) hE1 (qallc (qo1 hE1 hgk hk1 hr1 (hgp _) v1) (qallc (qo1 (k := 78) hE1 (by decide +kernel) (by decide) hr1 (qg78 _) ?_) qall0)) qall0 (fun a k q1 q2 => hdep' a k (qnd (kk := 78) hE1 (by decide) hr1 (q1 _ (List.Mem.tail _ (List.Mem.head _)))) (qnd hE1 hk1 hr1 (q1 _ (List.Mem.head _))))
        rw [qbo_t P1]
        exact ⟨_, ai_c hE1 1, rfl⟩
theorem qUks_ok {E : List aY} {m : aM} {r e c gk k : Nat} {q : aK} {o : Option (List aY × aM × List aK)} {ρ : List Int} {h h' : zH} {x : Int32} (hU : qUks E m r e q = some o) (hE : aE qW E ρ) (hH : aH qW qG ρ m h) (hx : ai ρ q.2.1 q.2.2 x) (hxk : x.toInt = (k : Int)) (hF : qv h' = qud (qv h) c k (qi h' c k)) (hk : 64 ≤ k) (hk2 : k < 128) (hgk : qgk 128 gk = true) (hap : apl (afm qW (asrt qW 128)) gk = (0, -2147483648, 2147483647)) (he : 79 + (e : Int) = (gk : Int)) (hk1 : gk < 1000) (hg : ∀ F : qF, ∃ g : Int, qgF F 128 gk = some g) (hdep : (k : Int) = qv h 130 17 + 64 → ∀ (z : Int) (a j : Nat), ¬ (a = 128 ∧ j = gk) → qgF (qud (qv h) c k z) a j = qgF (qv h) a j) : aUout qW qG ρ h h' o := by
  unfold qUks at hU
  rw [he] at hU
  split at hU
  · cases hU
  · next s hs =>
    have hr := qmo_ok hE hH m (fun e he => he) hs
    split at hU
    · next n hn =>
      cases hb : aveq (.inl (n.1, n.2 + 64)) (.inl q.2) with
      | false => rw [hb] at hU; cases hU
      | true =>
        rw [hb] at hU
        cases hU
        have e1 := aveq_ok hb
        have e2 : q.2 = (n.1, n.2 + 64) := (Sum.inl.inj e1).symm
        rw [e2] at hx
        obtain ⟨w0, n1, n2, n3⟩ := qamf_c (so := 51) (k0 := 17) hE hH (fun a => qun51) (by decide) (by decide) (by decide) (by decide) hn
        obtain ⟨y, y1, rfl⟩ := n2
        have e17 := n3 y rfl
        have hy : y.toInt = x.toInt + -64 := qi_add (qi_sub (hx.inj y1.add)) (by omega) (by omega)
        obtain ⟨g, hg'⟩ := hg (qv h')
        refine qmk ρ aext.rf hE qall0 (qallc (qo2 hE hgk hk1 hr hg' hap) qall0) (fun a j _ q2 => ?_)
        rw [hF]
        exact hdep (by omega) _ a j (qnd hE hk1 hr (q2 _ List.mem_cons_self))
    · cases hU
theorem qk144 {E : List aY} {ρ : List Int} {h h' : zH} {r k : Nat} {z : Int} (hk : 3 ≤ k) (hE : aE qW E ρ) (hr : ρ[r]? = some ((128 : Nat) : Int)) (hF : qv h' = qud (qv h) 144 k z) : aUout qW qG ρ h h' (some (E, [], [(r, 0, 75), (r, 0, 76), (r, 0, 77), (r, 0, 79)])) := by
  refine qmk ρ aext.rf hE qall0 (qallc (qo2 (k := 75) hE (by decide +kernel) (by decide) hr (qg75 _) (by decide +kernel)) (qallc (qo2 (k := 76) hE (by decide +kernel) (by decide) hr (qg76 _) (by decide +kernel)) (qallc (qo2 (k := 77) hE (by decide +kernel) (by decide) hr (qg77 _) (by decide +kernel)) (qallc (qo2 (k := 79) hE (by decide +kernel) (by decide) hr (qg79 _) (by decide +kernel)) qall0)))) (fun a j _ q2 => ?_)
  rw [hF]
  exact qd44b hk a j (qnd (kk := 75) hE (by decide) hr (q2 _ (List.Mem.head _))) (qnd (kk := 76) hE (by decide) hr (q2 _ (List.Mem.tail _ (List.Mem.head _)))) (qnd (kk := 77) hE (by decide) hr (q2 _ (List.Mem.tail _ (List.Mem.tail _ (List.Mem.head _))))) (qnd (kk := 79) hE (by decide) hr (q2 _ (List.Mem.tail _ (List.Mem.tail _ (List.Mem.tail _ (List.Mem.head _))))))
theorem qUsf_ok {E : List aY} {m : aM} {r k : Nat} {v : aV} {o : Option (List aY × aM × List aK)} {ρ : List Int} {h h' : zH} {w : Value} (hU : qUsf E m r v = some o) (hE : aE qW E ρ) (hH : aH qW qG ρ m h) (hv : av ρ v w) (hw : rd h' 144 k = some w) (hF : qv h' = qud (qv h) 144 k (qi h' 144 k)) (hk : 3 ≤ k) (hk2 : k < 6) : aUout qW qG ρ h h' o := by
  unfold qUsf at hU
  split at hU
  · cases hU
  · next q hq =>
    have hr := qmo_ok hE hH m (fun e he => he) hq
    split at hU
    · next n p2 hn hp =>
      cases hb : (aveq v (.inl n) && avb E p2 1 1) with
      | false =>
        rw [hb] at hU
        cases hU
        exact qk144 hk hE hr hF
      | true =>
        rw [hb] at hU
        cases hU
        rw [Bool.and_eq_true] at hb
        obtain ⟨b1, b2⟩ := hb
        obtain ⟨w0, n1, n2, n3⟩ := qamf_c (so := 51) (k0 := 17) hE hH (fun a => qun51) (by decide) (by decide) (by decide) (by decide) hn
        obtain ⟨y, y1, rfl⟩ := n2
        have e17 := n3 y rfl
        rw [aveq_ok b1] at hv
        obtain ⟨x, x1, rfl⟩ := hv
        have exy := x1.inj y1
        subst exy
        have g77 := qamg_g (k := 77) hE hH (by decide) hr (qg77 _) hp
        have P := qp2_of hE g77 b2
        have fk : qv h' 144 k = qv h 130 17 := by rw [hF, qud_same, qi_int hw, e17]
        have fo : ∀ b j : Nat, ¬ b = 144 → qv h' b j = qv h b j := fun b j hb => by rw [hF, qud_a hb]
        have fn : ∀ j : Nat, ¬ j = k → qv h' 144 j = qv h 144 j := fun j hj => by rw [hF, qud_k hj]
        obtain ⟨P0, P3, P4, P5⟩ := P
        have lw : ∀ i : Nat, 3 ≤ i → i < 6 → (qlw (qv h) 64 (qv h 144 i) (qv h 145 i) (qv h 130 17)) → qlw (qv h') 64 (qv h' 144 i) (qv h' 145 i) (qv h' 130 17) ∧ qv h' 144 i ≤ qv h 130 17 := fun i _ _ hl => by
          have hl0 := hl.1
          have hl1 := hl.2.1
          have hl2 := hl.2.2.1
          rw [fo 145 _ (by decide), fo 130 _ (by decide)]
          by_cases ei : i = k
          · rw [ei, fk]
            rw [ei] at hl0 hl1 hl2
            exact ⟨⟨by omega, by omega, by omega, fun q => by omega⟩, by omega⟩
          · rw [fn i ei]
            exact ⟨qlw_m (Int.le_refl _) (fun j _ _ => ⟨fo _ _ (by decide), fo _ _ (by decide)⟩) hl, by omega⟩
        have L3 := lw 3 (by omega) (by omega) P3
        have L4 := lw 4 (by omega) (by omega) P4
        have L5 := lw 5 (by omega) (by omega) P5
        have P' : qp2 (qv h') := ⟨by rw [fo _ _ (by decide)]; exact P0, L3.1, L4.1, L5.1⟩
        have hba : qba (qv h') = qv h 130 17 := by
          have l3 := L3.2
          have l4 := L4.2
          have l5 := L5.2
          unfold qba
          rcases (show k = 3 ∨ k = 4 ∨ k = 5 by omega) with rfl | rfl | rfl
          · rw [fk] at l3 ⊢; omega
          · rw [fk] at l4 ⊢; omega
          · rw [fk] at l5 ⊢; omega
        have hhb : qhb (qv h') = 0 := by
          unfold qhb
          rw [hba, fo _ _ (by decide), Nat.sub_self]
          rfl
        refine qmk ρ aext.rf hE (qallc (qo1 (k := 76) hE (by decide +kernel) (by decide) hr (qg76 _) ?_) (qallc (qo1 (k := 75) hE (by decide +kernel) (by decide) hr (qg75 _) ?_) (qallc (qo1 (k := 77) hE (by decide +kernel) (by decide) hr (qg77 _) ?_) qall0))) (qallc (qo2 (k := 79) hE (by decide +kernel) (by decide) hr (qg79 _) (by decide +kernel)) qall0) (fun a j q1 q2 => ?_)
        · rw [hba, e17, Int32.ofInt_toInt]
          exact ⟨x, x1, rfl⟩
        · rw [hhb]
          exact ⟨_, ai_c hE 0, rfl⟩
        · rw [qbo_t P']
          rw [qbo_t ⟨P0, P3, P4, P5⟩] at g77
          exact g77
        · rw [hF]
          exact qd44b hk a j (qnd (kk := 75) hE (by decide) hr (q1 _ (List.Mem.tail _ (List.Mem.head _)))) (qnd (kk := 76) hE (by decide) hr (q1 _ (List.Mem.head _))) (qnd (kk := 77) hE (by decide) hr (q1 _ (List.Mem.tail _ (List.Mem.tail _ (List.Mem.head _))))) (qnd (kk := 79) hE (by decide) hr (q2 _ (List.Mem.head _)))
    · cases hU
      exact qk144 hk hE hr hF
theorem qk145 {E : List aY} {ρ : List Int} {h h' : zH} {r k : Nat} {z : Int} (hk : 3 ≤ k) (hE : aE qW E ρ) (hr : ρ[r]? = some ((128 : Nat) : Int)) (hF : qv h' = qud (qv h) 145 k z) : aUout qW qG ρ h h' (some (E, [], [(r, 0, 77), (r, 0, 80)])) := by
  refine qmk ρ aext.rf hE qall0 (qallc (qo2 (k := 77) hE (by decide +kernel) (by decide) hr (qg77 _) (by decide +kernel)) (qallc (qo2 (k := 80) hE (by decide +kernel) (by decide) hr (qg80 _) (by decide +kernel)) qall0)) (fun a j _ q2 => ?_)
  rw [hF]
  exact qd45b hk a j (qnd (kk := 77) hE (by decide) hr (q2 _ (List.Mem.head _))) (qnd (kk := 80) hE (by decide) hr (q2 _ (List.Mem.tail _ (List.Mem.head _))))
theorem qUst_ok {E : List aY} {m : aM} {r k : Nat} {q : aK} {v : aV} {o : Option (List aY × aM × List aK)} {ρ : List Int} {h h' : zH} {w : Value} {xi : Int32} (hU : qUst E m r q v = some o) (hE : aE qW E ρ) (hH : aH qW qG ρ m h) (hv : av ρ v w) (hw : rd h' 145 k = some w) (hF : qv h' = qud (qv h) 145 k (qi h' 145 k)) (hxi : ai ρ q.2.1 q.2.2 xi) (hxk : xi.toInt = (k : Int)) (hk : 3 ≤ k) (hk2 : k < 6) : aUout qW qG ρ h h' o := by
  unfold qUst at hU
  split at hU
  · cases hU
  · next s hq =>
    have hr := qmo_ok hE hH m (fun e he => he) hq
    split at hU
    · next n p2 b gb gh hn hp hbb hgb hgh =>
      cases hb : (aveq v (.inl n) && (avb E p2 1 1 && (aveq b gb && avb E gh 1 1))) with
      | false =>
        rw [hb] at hU
        cases hU
        exact qk145 hk hE hr hF
      | true =>
        rw [hb] at hU
        cases hU
        rw [Bool.and_eq_true, Bool.and_eq_true, Bool.and_eq_true] at hb
        obtain ⟨b1, b2, b3, b4⟩ := hb
        obtain ⟨w0, n1, n2, n3⟩ := qamf_c (so := 51) (k0 := 17) hE hH (fun a => qun51) (by decide) (by decide) (by decide) (by decide) hn
        obtain ⟨y, y1, rfl⟩ := n2
        have e17 := n3 y rfl
        rw [aveq_ok b1] at hv
        obtain ⟨x, x1, rfl⟩ := hv
        have exy := x1.inj y1
        subst exy
        have g77 := qamg_g (k := 77) hE hH (by decide) hr (qg77 _) hp
        have g76 := qamg_g (k := 76) hE hH (by decide) hr (qg76 _) hgb
        have g75 := qamg_g (k := 75) hE hH (by decide) hr (qg75 _) hgh
        have P := qp2_of hE g77 b2
        have Pb := qp2_b P
        have f44 : qv h 144 k = qba (qv h) := by
          obtain ⟨j, wt, x', z1, z2, z3, z4, z5⟩ := qamf (so := 65) hE hH (fun a => qun65) (by decide) hbb
          have e := z1.inj hxi
          subst e
          have ej : j = k := by omega
          subst ej
          rw [qrdx (qG_off (by decide) (by decide))] at z4
          rw [aveq_ok b3] at z5
          obtain ⟨s', c', rfl, i1⟩ := av_int g76
          obtain ⟨x2, i2, rfl⟩ := z5
          rw [qv_on (by unfold qpr; simp [Nat.ble_eq]; omega), qi_int z4, i2.inj i1, ai32 (by omega) (by omega)]
        have h1 : qhn (qv h) 64 (qba (qv h)).toNat ((qv h 130 17).toNat - (qba (qv h)).toNat) = some 1 := by
          have q := avb_i hE b4 g75
          unfold qhb at q
          cases hz : qhn (qv h) 64 (qba (qv h)).toNat ((qv h 130 17).toNat - (qba (qv h)).toNat) with
          | none => rw [hz] at q; exact absurd q.1 (by decide)
          | some H =>
            rw [hz] at q
            have hl := qhn_le _ _ hz
            have q : 1 ≤ (Int32.ofInt (H : Int)).toInt ∧ (Int32.ofInt (H : Int)).toInt ≤ 1 := q
            rw [ai32 (by omega) (by omega)] at q
            rw [show H = 1 by omega]
        have fk : qv h' 145 k = qv h 130 17 := by rw [hF, qud_same, qi_int hw, e17]
        have fo : ∀ b j : Nat, ¬ b = 145 → qv h' b j = qv h b j := fun b j hb => by rw [hF, qud_a hb]
        have fn : ∀ j : Nat, ¬ j = k → qv h' 145 j = qv h 145 j := fun j hj => by rw [hF, qud_k hj]
        obtain ⟨P0, P3, P4, P5⟩ := P
        have lw : ∀ i : Nat, 3 ≤ i → i < 6 → (qlw (qv h) 64 (qv h 144 i) (qv h 145 i) (qv h 130 17)) → qlw (qv h') 64 (qv h' 144 i) (qv h' 145 i) (qv h' 130 17) := fun i _ _ hl => by
          rw [fo 144 _ (by decide), fo 130 _ (by decide)]
          by_cases ei : i = k
          · rw [ei, fk, f44]
            refine ⟨by omega, by omega, by omega, fun _ => ?_⟩
            rw [show (qv h 130 17 - qba (qv h)).toNat = (qv h 130 17).toNat - (qba (qv h)).toNat by omega, ← h1]
            exact qhn_c _ (fun j _ => ⟨fo _ _ (by decide), fo _ _ (by decide)⟩)
          · rw [fn i ei]
            exact qlw_m (Int.le_refl _) (fun j _ _ => ⟨fo _ _ (by decide), fo _ _ (by decide)⟩) hl
        have P' : qp2 (qv h') := ⟨by rw [fo _ _ (by decide)]; exact P0, lw 3 (by omega) (by omega) P3, lw 4 (by omega) (by omega) P4, lw 5 (by omega) (by omega) P5⟩
        refine qmk ρ aext.rf hE (qallc (qo1 (k := 77) hE (by decide +kernel) (by decide) hr (qg77 _) ?_) qall0) (qallc (qo2 (k := 80) hE (by decide +kernel) (by decide) hr (qg80 _) (by decide +kernel)) qall0) (fun a j q1 q2 => ?_)
        · rw [qbo_t P']
          rw [qbo_t ⟨P0, P3, P4, P5⟩] at g77
          exact g77
        · rw [hF]
          exact qd45b hk a j (qnd (kk := 77) hE (by decide) hr (q1 _ (List.Mem.head _))) (qnd (kk := 80) hE (by decide) hr (q2 _ (List.Mem.head _)))
    · cases hU
      exact qk145 hk hE hr hF
theorem qr26 (h : zH) : qG 128 26 h = none := rfl
theorem qr27 (h : zH) : qG 128 27 h = none := rfl
theorem qnz_ok {W : aW} {E : List aY} {ρ : List Int} {v : aV} {w : Value} (hE : aE W E ρ) (h : qnz E v = true) (hv : av ρ v w) : ∃ x : Int32, w = .int x ∧ ¬ x.toInt = 0 := by
  unfold qnz at h
  rw [Bool.or_eq_true] at h
  rcases h with h | h
  · obtain ⟨x, e, x1, x2⟩ := avb_ok hE h hv
    exact ⟨x, e, by omega⟩
  · obtain ⟨x, e, x1, x2⟩ := avb_ok hE h hv
    exact ⟨x, e, by omega⟩
theorem qo83 {E : List aY} {ρ : List Int} {h' : zH} {r : Nat} (hE : aE qW E ρ) (hr : ρ[r]? = some ((128 : Nat) : Int)) (hb : qv h' 128 26 = 0 → -1 ≤ qv h' 128 27 ∧ qv h' 128 27 ≤ 21) : ∃ (a j : Nat) (x : Int32), aden ρ (r, 0, 83) a j ∧ a < qW.1.length ∧ (afm qW (asrt qW a)).2.2.1 ≤ j ∧ qG a j h' = some x ∧ avt qW (apl (afm qW (asrt qW a)) j) (.int x) := by
  refine ⟨128, 83, _, qden (k := 83) hE (by decide) hr, by decide +kernel, by decide +kernel, qG_on (qg83 _), ?_⟩
  have ht : apl (afm qW (asrt qW 128)) 83 = (0, -1, 21) := by decide +kernel
  rw [ht]
  refine ⟨_, rfl, ?_⟩
  by_cases q : qv h' 128 26 = 0
  · rw [if_pos q]
    have := hb q
    rw [ai32 (by omega) (by omega)]
    exact this
  · rw [if_neg q]
    decide
theorem qf83 {E : List aY} {ρ : List Int} {h h' : zH} {r : Nat} (hE : aE qW E ρ) (hr : ρ[r]? = some ((128 : Nat) : Int)) (hd : ∀ a k : Nat, ¬ (a = 128 ∧ k = 83) → qgF (qv h') a k = qgF (qv h) a k) : aUout qW qG ρ h h' (some (E ++ [(0, -2147483648, 2147483647)], [((r, 0, 83), .inl (E.length, 0))], [])) := by
  have hb : -2147483648 ≤ (if qv h' 128 26 = 0 then qv h' 128 27 else 0) ∧ (if qv h' 128 26 = 0 then qv h' 128 27 else 0) ≤ 2147483647 := by
    by_cases q : qv h' 128 26 = 0
    · rw [if_pos q]
      exact qv_b h' 128 27
    · rw [if_neg q]
      decide
  have hE2 := hE.push (t := (0, -2147483648, 2147483647)) (z := (if qv h' 128 26 = 0 then qv h' 128 27 else 0)) hb
  have hr2 := (aext.one (ρ := ρ) (if qv h' 128 26 = 0 then qv h' 128 27 else 0)).get hr
  refine qmk _ (aext.one _) hE2 (qallc (qo1 (k := 83) hE2 (by decide +kernel) (by decide) hr2 (qg83 _) ?_) qall0) qall0 (fun a k q1 _ => hd a k (qnd (kk := 83) hE2 (by decide) hr2 (q1 _ List.mem_cons_self)))
  rw [← hE.1]
  exact ⟨_, ⟨_, anew_get _, by rw [Int.add_zero]⟩, rfl⟩
theorem qUso_ok {E : List aY} {m : aM} {r : Nat} {v : aV} {o : Option (List aY × aM × List aK)} {ρ : List Int} {h h' : zH} {w : Value} (hU : qUso E m r v = some o) (hE : aE qW E ρ) (hH : aH qW qG ρ m h) (hr : ρ[r]? = some ((128 : Nat) : Int)) (hv : av ρ v w) (hw : rd h' 128 26 = some w) (hF : qv h' = qud (qv h) 128 26 (qi h' 128 26)) : aUout qW qG ρ h h' o := by
  have hd : ∀ a k : Nat, ¬ (a = 128 ∧ k = 83) → qgF (qv h') a k = qgF (qv h) a k := fun a k q => by
    rw [hF]
    exact qd26 a k q
  unfold qUso at hU
  cases hb : (qnz E v || avb' E (amg m (r, 0, 27)) (-1) 21) with
  | false =>
    rw [hb] at hU
    cases hU
    exact qf83 hE hr hd
  | true =>
    rw [hb] at hU
    cases hU
    refine qmk ρ aext.rf hE qall0 (qallc (qo83 hE hr (fun q => ?_)) qall0) (fun a k _ q2 => hd a k (qnd (kk := 83) hE (by decide) hr (q2 _ List.mem_cons_self)))
    rw [Bool.or_eq_true] at hb
    rcases hb with hb | hb
    · obtain ⟨x, rfl, hx⟩ := qnz_ok hE hb hv
      rw [hF, qud_same, qi_int hw] at q
      exact absurd q hx
    · unfold avb' at hb
      split at hb
      · next k0 hk0 =>
        obtain ⟨w0, p1, p2, p3⟩ := qamg_r (k := 27) hE hH (by decide) hr (qr27 h) (by decide) hk0
        obtain ⟨y, rfl, y1, y2⟩ := avb_ok hE hb p2
        rw [hF, qud_k (by decide), p3 y rfl]
        exact ⟨y1, y2⟩
      · cases hb
theorem qUva_ok {E : List aY} {m : aM} {r : Nat} {v : aV} {o : Option (List aY × aM × List aK)} {ρ : List Int} {h h' : zH} {w : Value} (hU : qUva E m r v = some o) (hE : aE qW E ρ) (hH : aH qW qG ρ m h) (hr : ρ[r]? = some ((128 : Nat) : Int)) (hv : av ρ v w) (hw : rd h' 128 27 = some w) (hF : qv h' = qud (qv h) 128 27 (qi h' 128 27)) : aUout qW qG ρ h h' o := by
  have hd : ∀ a k : Nat, ¬ (a = 128 ∧ k = 83) → qgF (qv h') a k = qgF (qv h) a k := fun a k q => by
    rw [hF]
    exact qd27 a k q
  unfold qUva at hU
  cases hb : (avb E v (-1) 21 || qnz' E (amg m (r, 0, 26))) with
  | false =>
    rw [hb] at hU
    cases hU
    exact qf83 hE hr hd
  | true =>
    rw [hb] at hU
    cases hU
    refine qmk ρ aext.rf hE qall0 (qallc (qo83 hE hr (fun q => ?_)) qall0) (fun a k _ q2 => hd a k (qnd (kk := 83) hE (by decide) hr (q2 _ List.mem_cons_self)))
    rw [Bool.or_eq_true] at hb
    rcases hb with hb | hb
    · obtain ⟨x, rfl, x1, x2⟩ := avb_ok hE hb hv
      rw [hF, qud_same, qi_int hw]
      exact ⟨x1, x2⟩
    · unfold qnz' at hb
      split at hb
      · next k0 hk0 =>
        obtain ⟨w0, p1, p2, p3⟩ := qamg_r (k := 26) hE hH (by decide) hr (qr26 h) (by decide) hk0
        obtain ⟨y, e, y1⟩ := qnz_ok hE hb p2
        rw [hF, qud_k (by decide), p3 y e] at q
        exact absurd q y1
      · cases hb
end
section
/-! All rules are right. -/
theorem qsA {a c s : Nat} (hs : ieq (asrt qW a : Int) (s : Int) = true) (ha : a < qW.1.length) (hu : ∀ a : Nat, a < qW.1.length → (asrt qW a : Int) = (s : Int) → a = c) : a = c := hu a ha (ieq_ok hs)
theorem qkey {W : aW} {E : List aY} {ρ : List Int} {q : aK} {a k j : Nat} (hE : aE W E ρ) (hd : aden ρ q a k) (hj : j < 1000) (hb : (Nat.beq q.2.1 0 && ieq q.2.2 (j : Int)) = true) : k = j := by
  rw [Bool.and_eq_true] at hb
  obtain ⟨x, x1, x2⟩ := hd.2
  rw [Nat.eq_of_beq_eq_true hb.1, ieq_ok hb.2] at x1
  have := qidx hE hj x1
  omega
theorem qUok : aUok qW qG qU := by
  intro E m q b ρ h h' a k w o hU hE hH ha hk hd hv hS hw hr
  unfold qU at hU
  cases c6 : ieq (asrt qW a : Int) 6 with
  | true =>
    rw [c6] at hU
    have e := qsA (s := 6) c6 ha (fun a => qun6)
    subst e
    have hk : k < 72 := hk
    exact qUw_ok hU hE hH hd.2 (qv_wr (by unfold qpr; simp [Nat.ble_eq]; omega) hr)
  | false =>
    rw [c6] at hU
    cases c2 : ieq (asrt qW a : Int) 2 with
    | true =>
      rw [c2] at hU
      have e := qsA (s := 2) c2 ha (fun a => qun2)
      subst e
      cases c4 : (Nat.beq q.2.1 0 && ieq q.2.2 4) with
      | true =>
        rw [c4] at hU
        have e := qkey (j := 4) hE hd (by decide) c4
        subst e
        exact qUk_ok hU hE hH hd.1 hv hw (qv_wr (by decide) hr)
      | false =>
        rw [c4] at hU
        cases c3 : (Nat.beq q.2.1 0 && ieq q.2.2 2) with
        | true =>
          rw [c3] at hU
          have e := qkey (j := 2) hE hd (by decide) c3
          subst e
          exact qUs_ok hU hE hH hd.1 hv hw (qv_wr (by decide) hr)
        | false => rw [c3] at hU; cases hU
    | false =>
      rw [c2] at hU
      cases c49 : ieq (asrt qW a : Int) 49 with
      | true =>
        rw [c49] at hU
        have e := qsA (s := 49) c49 ha (fun a => qun49)
        subst e
        cases c4 : (Nat.beq q.2.1 0 && ieq q.2.2 33) with
        | true =>
          rw [c4] at hU
          have e := qkey (j := 33) hE hd (by decide) c4
          subst e
          exact qUco_ok hU hE hH hd.1 hv hw (qv_wr (by decide) hr)
        | false =>
          rw [c4] at hU
          cases c5 : (Nat.beq q.2.1 0 && ieq q.2.2 26) with
          | true =>
            rw [c5] at hU
            have e := qkey (j := 26) hE hd (by decide) c5
            subst e
            exact qUso_ok hU hE hH hd.1 hv hw (qv_wr (by decide) hr)
          | false =>
            rw [c5] at hU
            cases c7 : (Nat.beq q.2.1 0 && ieq q.2.2 27) with
            | true =>
              rw [c7] at hU
              have e := qkey (j := 27) hE hd (by decide) c7
              subst e
              exact qUva_ok hU hE hH hd.1 hv hw (qv_wr (by decide) hr)
            | false => rw [c7] at hU; cases hU
      | false =>
        rw [c49] at hU
        cases c51 : ieq (asrt qW a : Int) 51 with
        | true =>
          rw [c51] at hU
          have e := qsA (s := 51) c51 ha (fun a => qun51)
          subst e
          cases c4 : (Nat.beq q.2.1 0 && ieq q.2.2 17) with
          | true =>
            rw [c4] at hU
            have e := qkey (j := 17) hE hd (by decide) c4
            subst e
            exact qUn_ok hU hE hH hv hw (qv_wr (by decide) hr)
          | false => rw [c4] at hU; cases hU
        | false =>
          rw [c51] at hU
          obtain ⟨x, x1, x2⟩ := hd.2
          cases hp : aiv E q.2.1 q.2.2 with
          | none => rw [hp] at hU; cases hU
          | some p =>
            rw [hp] at hU
            dsimp only [cond_false] at hU
            have pb := aiv_in hE hp x1
            cases c65 : ieq (asrt qW a : Int) 65 with
            | true =>
              rw [c65] at hU
              have e := qsA (s := 65) c65 ha (fun a => qun65)
              subst e
              have hk : k < 6 := hk
              have hwr := qv_wr (h := h) (h' := h') (a := 144) (k := k) (by unfold qpr; simp [Nat.ble_eq]; omega) hr
              cases c3 : (ieq p.1 p.2 && !ile 3 p.1) with
              | true =>
                rw [c3] at hU
                rw [Bool.and_eq_true] at c3
                have e1 := ieq_ok c3.1
                have e2 := ile_f (a := 3) (b := p.1) (by simpa using c3.2)
                have e3 : p.1 = (k : Int) := by omega
                rw [e3] at hU
                exact qUh_ok (so := 65) (e := 0) (c := 144) (n := 3) (gk := 79) hU hE hH hv hw hwr (fun a => qun65) (by decide) (by decide) (by omega) (by decide) (by unfold qpr; simp [Nat.ble_eq]; omega) (by decide +kernel) (by decide +kernel) rfl (by decide) (fun F => qg79 F) (fun z a j q1 q2 => qd44a (by omega) a j q1 q2) (by decide) (Or.inl ⟨rfl, rfl, rfl, rfl⟩)
              | false =>
                rw [c3] at hU
                cases c4 : ile 3 p.1 with
                | true =>
                  rw [c4] at hU
                  have := ile_iff.mp c4
                  exact qUsf_ok hU hE hH hv hw hwr (by omega) (by omega)
                | false => rw [c4] at hU; cases hU
            | false =>
              rw [c65] at hU
              cases c66 : ieq (asrt qW a : Int) 66 with
              | true =>
                rw [c66] at hU
                have e := qsA (s := 66) c66 ha (fun a => qun66)
                subst e
                have hk : k < 6 := hk
                have hwr := qv_wr (h := h) (h' := h') (a := 145) (k := k) (by unfold qpr; simp [Nat.ble_eq]; omega) hr
                cases c3 : (ieq p.1 p.2 && !ile 3 p.1) with
                | true =>
                  rw [c3] at hU
                  rw [Bool.and_eq_true] at c3
                  have e1 := ieq_ok c3.1
                  have e2 := ile_f (a := 3) (b := p.1) (by simpa using c3.2)
                  have e3 : p.1 = (k : Int) := by omega
                  rw [e3] at hU
                  exact qUh_ok (so := 66) (e := 1) (c := 145) (n := 3) (gk := 80) hU hE hH hv hw hwr (fun a => qun66) (by decide) (by decide) (by omega) (by decide) (by unfold qpr; simp [Nat.ble_eq]; omega) (by decide +kernel) (by decide +kernel) rfl (by decide) (fun F => qg80 F) (fun z a j q1 q2 => qd45a (by omega) a j q1 q2) (by decide) (Or.inr (Or.inl ⟨rfl, rfl, rfl, rfl⟩))
                | false =>
                  rw [c3] at hU
                  cases c4 : ile 3 p.1 with
                  | true =>
                    rw [c4] at hU
                    have := ile_iff.mp c4
                    exact qUst_ok hU hE hH hv hw hwr x1 x2 (by omega) (by omega)
                  | false => rw [c4] at hU; cases hU
              | false =>
                rw [c66] at hU
                cases c67 : ieq (asrt qW a : Int) 67 with
                | true =>
                  rw [c67] at hU
                  have e := qsA (s := 67) c67 ha (fun a => qun67)
                  subst e
                  have hk : k < 128 := hk
                  have hwr := qv_wr (h := h) (h' := h') (a := 146) (k := k) (by unfold qpr; simp [Nat.ble_eq]; omega) hr
                  cases c3 : (ieq p.1 p.2 && !ile 64 p.1) with
                  | true =>
                    rw [c3] at hU
                    rw [Bool.and_eq_true] at c3
                    have e1 := ieq_ok c3.1
                    have e2 := ile_f (a := 64) (b := p.1) (by simpa using c3.2)
                    have e3 : p.1 = (k : Int) := by omega
                    rw [e3] at hU
                    exact qUh_ok (so := 67) (e := 2) (c := 146) (n := 64) (gk := 81) hU hE hH hv hw hwr (fun a => qun67) (by decide) (by decide) (by omega) (by decide) (by unfold qpr; simp [Nat.ble_eq]; omega) (by decide +kernel) (by decide +kernel) rfl (by decide) (fun F => qg81 F) (fun z a j q1 q2 => qd46a (by omega) a j q1 q2) (by decide) (Or.inr (Or.inr (Or.inl ⟨rfl, rfl, rfl, rfl⟩)))
                  | false =>
                    rw [c3] at hU
                    cases c4 : ile 64 p.1 with
                    | true =>
                      rw [c4] at hU
                      have := ile_iff.mp c4
                      exact qUks_ok (e := 2) (c := 146) (gk := 81) hU hE hH x1 x2 hwr (by omega) (by omega) (by decide +kernel) (by decide +kernel) rfl (by decide) (fun F => ⟨_, qg81 F⟩) (fun e z a j q2 => qd46b e (by omega) a j q2)
                    | false => rw [c4] at hU; cases hU
                | false =>
                  rw [c67] at hU
                  cases c68 : ieq (asrt qW a : Int) 68 with
                  | false => rw [c68] at hU; cases hU
                  | true =>
                    rw [c68] at hU
                    have e := qsA (s := 68) c68 ha (fun a => qun68)
                    subst e
                    have hk : k < 128 := hk
                    have hwr := qv_wr (h := h) (h' := h') (a := 147) (k := k) (by unfold qpr; simp [Nat.ble_eq]; omega) hr
                    cases c3 : (ieq p.1 p.2 && !ile 64 p.1) with
                    | true =>
                      rw [c3] at hU
                      rw [Bool.and_eq_true] at c3
                      have e1 := ieq_ok c3.1
                      have e2 := ile_f (a := 64) (b := p.1) (by simpa using c3.2)
                      have e3 : p.1 = (k : Int) := by omega
                      rw [e3] at hU
                      exact qUh_ok (so := 68) (e := 3) (c := 147) (n := 64) (gk := 82) hU hE hH hv hw hwr (fun a => qun68) (by decide) (by decide) (by omega) (by decide) (by unfold qpr; simp [Nat.ble_eq]; omega) (by decide +kernel) (by decide +kernel) rfl (by decide) (fun F => qg82 F) (fun z a j q1 q2 => qd47a (by omega) a j q1 q2) (by decide) (Or.inr (Or.inr (Or.inr ⟨rfl, rfl, rfl, rfl⟩)))
                    | false =>
                      rw [c3] at hU
                      cases c4 : ile 64 p.1 with
                      | true =>
                        rw [c4] at hU
                        have := ile_iff.mp c4
                        exact qUks_ok (e := 3) (c := 147) (gk := 82) hU hE hH x1 x2 hwr (by omega) (by omega) (by decide +kernel) (by decide +kernel) rfl (by decide) (fun F => ⟨_, qg82 F⟩) (fun e z a j q2 => qd47b e (by omega) a j q2)
                      | false => rw [c4] at hU; cases hU
theorem qGok : aGok qW qG qPt := ⟨qUok, fun _ _ _ ha hk => qG_real ha hk, fun _ _ _ _ _ hp hr b j => qG_plain hp hr b j⟩
end
section
/-! The same with the depth of calls: a contract of measure m runs at depth (d + 1) (m + 1) beyond what it stands on. -/
theorem zEv_run {X : zX} {I : zI} {mcl : Nat → Nat} {mt : zM} {mi c : Nat} {ini : Bool} {nL : Nat} {rt : Option FieldType} {tab : Nat → Option (Instr × Nat)} {n d : Nat} {as : List Value} {h : zH} {r : Option Value} {h' : zH} (hm : mt mi = some (c, ini, nL, rt, tab)) (hl : (lg_sl as).length ≤ nL) (q : zRun X I mcl (zEv X I mcl mt d) c ini nL rt tab n 0 (lv_args 0 as) [] h r h') : zEv X I mcl mt (d + 1) mi as h r h' := ⟨c, ini, nL, rt, tab, n, hm, hl, q⟩
theorem aCon.mono {W : aW} {G : aG} {C C' : zC} {q : aQ} {P : List Int → Prop} (h : aCon W G C q P) (hC : ∀ mi as h r h', C mi as h r h' → C' mi as h r h') : aCon W G C' q P := fun ρ h0 vs hp hE hv hH => by
  obtain ⟨r, h', g1, g2⟩ := h ρ h0 vs hp hE hv hH
  exact ⟨r, h', hC _ _ _ _ _ g1, g2⟩
set_option maxHeartbeats 1000000 in
theorem acals_dp {W : aW} {G : aG} {Pt : aPt} {D : List aD} {h0 : zH} {Y X : zX} {I : zI} {mcl : Nat → Nat} {mt : zM} {K Kn : Nat → List aQ} {ms0 : aMs} {ρ0 : List Int} {B : Nat} (hX : aXX Y X) (hG : aGok W G Pt) (hL : ∀ s : Nat, (afm W s).2.2.1 < 1000000) (hms : ∀ t ∈ ms0.2, t.1 < ρ0.length)
    (hK : ∀ (mi : Nat) (q : aQ), q ∈ K mi → q.1 = mi ∧ aCon W G (zEv X I mcl mt B) q (fun _ => True)) (hKn : ∀ (mi : Nat) (q : aQ), q ∈ Kn mi → q.1 = mi ∧ aCon W G (zEv X I mcl mt B) q (fun ρ => amv ρ q.2.2.2.2.2 < amv ρ0 ms0)) : ∀ d : Nat, aCal W G D h0 (zEv X I mcl mt (d + B)) (aext ρ0) (acals (Y, I, mcl, W, Pt, D) mt K Kn ms0 d) := by
  intro d
  induction d with
  | zero => intro mi E as m xs ρ vs h hs; cases hs
  | succ d ih =>
    intro mi E as m xs ρ vs h hs hq hE hH hv hF
    unfold acals at hs
    split at hs
    · next ys hy =>
      cases hs
      obtain ⟨q, g1, A, g2, g3⟩ := atry_ok hy
      obtain ⟨k1, k2⟩ := hK mi q g1
      obtain ⟨r, h', c1, c2⟩ := acon_use g2 hE hH hv hF k2 (fun _ _ _ _ _ => trivial)
      rw [k1] at c1
      rw [g3] at c2
      exact ⟨r, h', zEv_le (by omega) c1, c2⟩
    · split at hs
      · next ys hy =>
        cases hs
        obtain ⟨q, g1, A, g2, g3, g4⟩ := atryn_ok hy
        obtain ⟨k1, k2⟩ := hKn mi q g1
        obtain ⟨r, h', c1, c2⟩ := acon_use g2 hE hH hv hF k2 (fun ρ' ρc x1 x2 x3 => by
          have h1 := alt_ok x2 x3 g4
          have h2 : amv ρ' ms0 = amv ρ0 ms0 := by
            unfold amv
            rw [avs_ext (hq.trans x1) hms]
          rw [h2] at h1
          exact h1)
        rw [k1] at c1
        rw [g3] at c2
        exact ⟨r, h', zEv_le (by omega) c1, c2⟩
      · cases hn : (anil (K mi) && anil (Kn mi)) with
        | false => rw [hn] at hs; cases hs
        | true =>
          rw [hn] at hs
          dsimp only [cond_true] at hs
          split at hs
          · next q hm =>
            obtain ⟨c, ini, nL, rt, tab⟩ := q
            cases hb : Nat.ble (as.map acat).sum nL with
            | false => rw [hb] at hs; cases hs
            | true =>
              rw [hb] at hs
              have hl : (lg_sl vs).length ≤ nL := by rw [alg_len hv]; exact able hb
              obtain ⟨k, r, h', e1, e2⟩ := arun_ok (ini := ini) (Post := fun _ _ => False) hX hG hL (fun _ _ a b => a.trans b) ih (fun _ _ _ _ _ _ hf _ _ => by cases hf) 1000 true 0 _ xs ρ (lv_args 0 vs) [] h hs hq ⟨hE, fun p hp => (aloc_ok as vs 0 hv p hp).2, rfl, hH, hF⟩
              rcases e2 with e2 | e2
              · exact ⟨r, h', zEv_le (by omega) (zEv_run hm hl e1), e2⟩
              · exact e2.elim
          · cases hs
set_option maxHeartbeats 2000000 in
theorem agroup_dp {W : aW} {G : aG} {Pt : aPt} {Y X : zX} {I : zI} {mcl : Nat → Nat} {mt : zM} {K Kn : Nat → List aQ} {d n B : Nat} (hX : aXX Y X) (hG : aGok W G Pt) (hL : ∀ s : Nat, (afm W s).2.2.1 < 1000000)
    (hK : ∀ (mi : Nat) (q : aQ), q ∈ K mi → q.1 = mi ∧ aCon W G (zEv X I mcl mt B) q (fun _ => True)) (hKn : ∀ (mi : Nat) (q : aQ), q ∈ Kn mi → q.1 = mi ∧ ∃ NS : List aN, ackq Y I mcl W Pt mt K Kn q NS d n = true) : ∀ (M : Nat) (mi : Nat) (q : aQ), q ∈ Kn mi → aCon W G (zEv X I mcl mt (B + (d + 1) * M)) q (fun ρ => amv ρ q.2.2.2.2.2 < (M : Int)) := by
    intro M
    induction M with
    | zero =>
      intro mi q hq ρ h vs hp hE
      obtain ⟨-, NS, hc⟩ := hKn mi q hq
      unfold ackq ack0 awf at hc
      simp only [Bool.and_eq_true] at hc
      have := ann_ok hE hc.1.1.2.2.2
      omega
    | succ M ih =>
      intro mi q hq ρ0 h0 vs hp hE hv hH
      obtain ⟨-, NS, hc⟩ := hKn mi q hq
      unfold ackq ack0 awf at hc
      simp only [Bool.and_eq_true] at hc
      obtain ⟨⟨⟨c1, c2, c3, c4⟩, c5⟩, c6⟩ := hc
      have hD : ∀ d ∈ q.2.2.2.2.1, d.2.1 = 0 ∨ d.2.2.1 < ρ0.length := fun d hd => by
        have := List.all_eq_true.mp c2 d hd
        rw [Bool.or_eq_true] at this
        rcases this with h | h
        · exact Or.inl (Nat.eq_of_beq_eq_true h)
        · refine Or.inr ?_
          rw [hE.1]
          have h2 : Nat.ble (aent q).length d.2.2.1 = false := by simpa using h
          cases hh : Nat.decLt d.2.2.1 (aent q).length with
          | isTrue h => exact h
          | isFalse h => rw [Nat.ble_eq_true_of_le (by omega)] at h2; cases h2
      have hms : ∀ t ∈ q.2.2.2.2.2.2, t.1 < ρ0.length := fun t ht => by
        have h := List.all_eq_true.mp c3 t ht
        rw [hE.1]
        have h2 : Nat.ble (aent q).length t.1 = false := by simpa using h
        cases hh : Nat.decLt t.1 (aent q).length with
        | isTrue h => exact h
        | isFalse h => rw [Nat.ble_eq_true_of_le (by omega)] at h2; cases h2
      have hcal := acals_dp (h0 := h0) (D := q.2.2.2.2.1) (ms0 := q.2.2.2.2.2) (ρ0 := ρ0) (B := B + (d + 1) * M) hX hG hL hms (fun mi' q' hq' => ⟨(hK mi' q' hq').1, (hK mi' q' hq').2.mono (fun _ _ _ _ _ z => zEv_le (by omega) z)⟩) (fun mi' q' hq' => ⟨(hKn mi' q' hq').1, fun ρ h vs hp' => ih mi' q' hq' ρ h vs (by
        have h9 : amv ρ q'.2.2.2.2.2 < amv ρ0 q.2.2.2.2.2 := hp'
        show amv ρ q'.2.2.2.2.2 < (M : Int)
        omega)⟩) d
      split at c1
      · next w hm =>
        obtain ⟨c, ini, nL, rt, tab⟩ := w
        have hlen : ρ0.length = (aent q).length := hE.1
        -- from a note, by its measure
        have notes : ∀ (m : Nat) (N : aN), N ∈ NS → ∀ (ρ : List Int) (cl : zL) (cst : List Value) (h : zH), amv ρ N.2.2.2.2.2 < (m : Int) → aext ρ0 ρ → aRel W G q.2.2.2.2.1 h0 ρ (N.2.1, N.2.2.1, N.2.2.2.1, N.2.2.2.2.1) cl cst h → ∃ (k : Nat) (r : Option Value) (h' : zH), zRun X I mcl (zEv X I mcl mt (d + (B + (d + 1) * M))) c ini nL rt tab k N.1 cl cst h r h' ∧ aEnd W G q.2.2.2.2.1 ρ0 h0 (aent q) q.2.2.2.1 r h' := by
          intro m
          induction m with
          | zero =>
            intro N hN ρ cl cst h hlt hx hR
            have := List.all_eq_true.mp c6 N hN
            unfold ackN anwf at this
            simp only [Bool.and_eq_true] at this
            have h1 := ann_ok hR.1 this.1.2
            omega
          | succ m ihm =>
            intro N hN ρ cl cst h hlt hx hR
            have hck := List.all_eq_true.mp c6 N hN
            unfold ackN anwf aone at hck
            simp only [Bool.and_eq_true] at hck
            obtain ⟨⟨k1, k2⟩, k3⟩ := hck
            rw [hm] at k3
            dsimp only at k3
            split at k3
            · next xs hxs =>
              have hmsN : ∀ t ∈ N.2.2.2.2.2.2, t.1 < ρ.length := fun t ht => by
                have h := List.all_eq_true.mp k1 t ht
                rw [hR.1.1]
                have h2 : Nat.ble N.2.1.length t.1 = false := by simpa using h
                cases hh : Nat.decLt t.1 N.2.1.length with
                | isTrue h => exact h
                | isFalse h => rw [Nat.ble_eq_true_of_le (by omega)] at h2; cases h2
              obtain ⟨k, r, h', e1, e2⟩ := arun_ok (ini := ini) (Q := aext ρ) (Post := fun r h' => aEnd W G q.2.2.2.2.1 ρ0 h0 (aent q) q.2.2.2.1 r h') hX hG hL (fun _ _ a b => a.trans b) (fun mi E as m xs ρ' vs h a b => hcal mi E as m xs ρ' vs h a (hx.trans b)) (fun pc S ρ' cl' cst' h' hnt hq' hR' => by
                obtain ⟨N', n1, n2⟩ := List.any_eq_true.mp hnt
                rw [Bool.and_eq_true] at n2
                obtain ⟨ρc, y1, y2, y3, y4, y5, y6⟩ := amN_ok (G := G) n2.2 hR'.1 hR'.2.1 hR'.2.2.1 hR'.2.2.2.1
                obtain ⟨ρ'', y7, y8⟩ := y6 _ rfl
                have hxx := hx.trans hq'
                rw [← hlen, atake hxx] at y1
                have hmv : amv ρ'' N.2.2.2.2.2 = amv ρ N.2.2.2.2.2 := by
                  unfold amv
                  rw [avs_ext (hq'.trans y7) hmsN]
                rw [hmv] at y8
                have hF0 := aF_dn hxx hD hR'.2.2.2.2
                obtain ⟨k, r, h2, g1, g2⟩ := ihm N' n1 ρc cl' cst' h' (by omega) y1 ⟨y2, y3, y4, y5, hF0.ext y1⟩
                rw [Nat.eq_of_beq_eq_true n2.1] at g1
                exact ⟨k, r, h2, g1, g2⟩) n true N.1 _ xs ρ cl cst h hxs aext.rf hR
              refine ⟨k, r, h', e1, ?_⟩
              rcases e2 with e2 | e2
              · exact axck_ok hlen hD hx k3 e2
              · exact e2
            · cases k3
        -- from the entry
        unfold aone at c5
        rw [hm] at c5
        dsimp only at c5
        split at c5
        · next xs hxs =>
          have hl : (lg_sl vs).length ≤ nL := by rw [alg_len hv]; exact able c1
          obtain ⟨k, r, h', e1, e2⟩ := arun_ok (ini := ini) (Q := aext ρ0) (Post := fun r h' => aEnd W G q.2.2.2.2.1 ρ0 h0 (aent q) q.2.2.2.1 r h') hX hG hL (fun _ _ a b => a.trans b) hcal (fun pc S ρ' cl' cst' h' hnt hq' hR' => by
            obtain ⟨N', n1, n2⟩ := List.any_eq_true.mp hnt
            rw [Bool.and_eq_true] at n2
            obtain ⟨ρc, y1, y2, y3, y4, y5, -⟩ := amN_ok (G := G) n2.2 hR'.1 hR'.2.1 hR'.2.2.1 hR'.2.2.2.1
            rw [← hlen, atake hq'] at y1
            have hF0 := aF_dn hq' hD hR'.2.2.2.2
            obtain ⟨k, r, h2, g1, g2⟩ := notes ((amv ρc N'.2.2.2.2.2).toNat + 1) N' n1 ρc cl' cst' h' (by omega) y1 ⟨y2, y3, y4, y5, hF0.ext y1⟩
            rw [Nat.eq_of_beq_eq_true n2.1] at g1
            exact ⟨k, r, h2, g1, g2⟩) n true 0 _ xs ρ0 (lv_args 0 vs) [] h0 hxs aext.rf ⟨hE, fun p hp => (aloc_ok _ vs 0 hv p hp).2, rfl, hH, aF.rf⟩
          refine ⟨r, h', zEv_le (by rw [Nat.mul_succ]; omega) (zEv_run hm hl e1), ?_⟩
          rcases e2 with e2 | e2
          · exact axck_ok hlen hD aext.rf c5 e2
          · exact e2
        · cases c5
      · cases c1
/-- a measure's most -/
def amb (q : aQ) (M : Nat) : Bool := match aub (aent q) (q.2.2.2.2.2.2.length + 1) q.2.2.2.2.2.2 with
  | some b => !ile (M : Int) (q.2.2.2.2.2.1 + b)
  | none => false
theorem amb_ok {W : aW} {q : aQ} {M : Nat} {ρ : List Int} (h : amb q M = true) (hE : aE W (aent q) ρ) : amv ρ q.2.2.2.2.2 < (M : Int) := by
  unfold amb at h
  split at h
  · next b hb =>
    have h1 := ile_f (by simpa using h)
    have h2 := aub_ok hE _ _ _ hb
    unfold amv
    omega
  · cases h
theorem aCon.all {W : aW} {G : aG} {C : zC} {q : aQ} {M : Nat} (h : aCon W G C q (fun ρ => amv ρ q.2.2.2.2.2 < (M : Int))) (hb : amb q M = true) : aCon W G C q (fun _ => True) := fun ρ h0 vs _ hE hv hH => h ρ h0 vs (amb_ok hb hE) hE hv hH
end
section
/-! Contracts by hand: what is held, what is put. -/
theorem aH_add {W : aW} {G : aG} {ρ : List Int} {m : aM} {h : zH} {q : aK} {b : aV} {a k : Nat} {v : Value} (hH : aH W G ρ m h) (hd : aden ρ q a k) (ha : a < W.1.length) (hk : k < apn (afm W (asrt W a))) (hv : rdx G h a k = some v) (hb : av ρ b v) : aH W G ρ ((q, b) :: m) h := by
  refine ⟨hH.1, fun a' k' ha' hk' => ?_, fun e he => ?_⟩
  · obtain ⟨w, g1, g2⟩ := hH.2.1 a' k' ha' hk'
    refine ⟨w, g1, ?_⟩
    rcases g2 with g2 | ⟨e, he, g2⟩
    · exact Or.inl g2
    · exact Or.inr ⟨e, List.mem_cons_of_mem _ he, g2⟩
  · rcases List.mem_cons.mp he with rfl | he
    · exact ⟨a, k, v, hd, ha, hk, hv, hb⟩
    · exact hH.2.2 e he
def qhc (q q1 : aQ) (E' : List aY) (m' : aM) : Bool := (match acon qW q.2.2.2.2.1 E' m' (aarg q) q1 with
  | some A => A.2.2.all (axck qW q)
  | none => false) && (q.2.2.2.2.1.all (fun d => Nat.beq d.2.1 0) && Nat.beq q1.1 q.1)
theorem qhc_ok {q q1 : aQ} {E' : List aY} {m' : aM} {C : zC} (h1 : aCon qW qG C q1 (fun _ => True)) (chk : qhc q q1 E' m' = true) (val : ∀ (ρ : List Int) (h : zH), aE qW (aent q) ρ → aH qW qG ρ (aem q) h → ∃ ρ', aext ρ ρ' ∧ aE qW E' ρ' ∧ aH qW qG ρ' m' h) : aCon qW qG C q (fun _ => True) := by
  intro ρ h vs _ hE hv hH
  unfold qhc at chk
  simp only [Bool.and_eq_true] at chk
  obtain ⟨c1, c2, c3⟩ := chk
  split at c1
  · next A hA =>
    obtain ⟨ρ', x1, x2, x3⟩ := val ρ h hE hH
    obtain ⟨r, h', g1, g2⟩ := acon_use (h0 := h) hA x2 x3 (hv.ext x1) aF.rf h1 (fun _ _ _ _ _ => trivial)
    rw [Nat.eq_of_beq_eq_true c3] at g1
    exact ⟨r, h', g1, axck_ok hE.1 (fun d hd => Or.inl (Nat.eq_of_beq_eq_true (List.all_eq_true.mp c2 d hd))) x1 c1 g2⟩
  · cases c1
/-- the cell of a symbol -/
theorem qcell {E : List aY} {ρ : List Int} {i so c : Nat} {y : Int} (hE : aE qW E ρ) (hi : E[i]? = some (2, (so : Int), y)) (hu : ∀ a : Nat, a < qW.1.length → (asrt qW a : Int) = (so : Int) → a = c) : ρ[i]? = some (c : Int) := by
  obtain ⟨z, z1, z2⟩ := hE.has hi
  obtain ⟨n, n1, n2, n3⟩ := (show ∃ n : Nat, z = (n : Int) ∧ n < qW.1.length ∧ (asrt qW n : Int) = (so : Int) from z2)
  rw [z1, n1, hu n n2 n3]
/-- no key of these stands for the place -/
def qnk (m : aM) (k : Nat) : Bool := m.all (fun e => Nat.beq e.1.1 1 && (Nat.beq e.1.2.1 0 && (ile 0 e.1.2.2 && (ile e.1.2.2 900 && !ieq e.1.2.2 (k : Int)))))
theorem qnk_ok {E : List aY} {ρ : List Int} {m : aM} {k a c : Nat} (hE : aE qW E ρ) (h : qnk m k = true) (hr : ρ[1]? = some (c : Int)) {e : aK × aV} (he : e ∈ m) (hd : aden ρ e.1 a k) : False := by
  have q := List.all_eq_true.mp h e he
  simp only [Bool.and_eq_true, Bool.not_eq_true'] at q
  obtain ⟨q1, q2, q3, q4, q5⟩ := q
  obtain ⟨⟨e1, e2, e3⟩, v⟩ := e
  have e1' : e1 = 1 := Nat.eq_of_beq_eq_true q1
  have e2' : e2 = 0 := Nat.eq_of_beq_eq_true q2
  have q3 := ile_iff.mp q3
  have q4 := ile_iff.mp q4
  have q3 : 0 ≤ e3 := q3
  have q4 : e3 ≤ 900 := q4
  subst e1' e2'
  have hd : aden ρ (1, 0, e3) a k := hd
  rw [show e3 = ((e3.toNat : Nat) : Int) by omega] at hd
  obtain ⟨-, e4⟩ := qden_u hE (by omega) hr hd
  have : e3 = (k : Int) := by omega
  rw [show ieq e3 (k : Int) = true by rw [this]; exact ieq_rf _] at q5
  cases q5
theorem qnk_o {E : List aY} {ρ : List Int} {m : aM} {k a c j : Nat} (hE : aE qW E ρ) (h : qnk m j = true) (hr : ρ[1]? = some (c : Int)) (hc : ¬ a = c) {e : aK × aV} (he : e ∈ m) (hd : aden ρ e.1 a k) : False := by
  have q := List.all_eq_true.mp h e he
  simp only [Bool.and_eq_true] at q
  obtain ⟨⟨e1, e2, e3⟩, v⟩ := e
  have e1' : e1 = 1 := Nat.eq_of_beq_eq_true q.1
  subst e1'
  have h1 := hd.1
  rw [hr] at h1
  injection h1 with h1
  omega
/-- a real place that isn't remembered lies in its type -/
theorem qreal {ρ : List Int} {m : aM} {h : zH} {a k : Nat} (hH : aH qW qG ρ m h) (ha : a < qW.1.length) (hk : k < (afm qW (asrt qW a)).2.2.1) (hk2 : k < apn (afm qW (asrt qW a))) (hn : ∀ e ∈ m, ¬ aden ρ e.1 a k) : ∃ v : Value, rd h a k = some v ∧ avt qW (apl (afm qW (asrt qW a)) k) v := by
  obtain ⟨v, g1, g2⟩ := hH.2.1 a k ha hk2
  rw [qrdx (qG_real ha hk)] at g1
  refine ⟨v, g1, ?_⟩
  rcases g2 with g2 | ⟨e, he, g2⟩
  · exact g2
  · exact (hn e he g2).elim
theorem qint {ρ : List Int} {m : aM} {h : zH} {a k : Nat} {l u : Int} (hH : aH qW qG ρ m h) (ha : a < qW.1.length) (hk : k < (afm qW (asrt qW a)).2.2.1) (hk2 : k < apn (afm qW (asrt qW a))) (hn : ∀ e ∈ m, ¬ aden ρ e.1 a k) (ht : apl (afm qW (asrt qW a)) k = (0, l, u)) : ∃ x : Int32, rd h a k = some (.int x) ∧ l ≤ x.toInt ∧ x.toInt ≤ u := by
  obtain ⟨v, g1, g2⟩ := qreal hH ha hk hk2 hn
  rw [ht] at g2
  obtain ⟨x, rfl, x1⟩ := g2
  exact ⟨x, g1, x1⟩
theorem av_toInt {ρ : List Int} {s : Nat} {c z : Int} {x : Int32} (hz : ρ[s]? = some z) (h : av ρ (.inl (s, c)) (.int x)) (h1 : -2147483648 ≤ z + c) (h2 : z + c ≤ 2147483647) : x.toInt = z + c := by
  obtain ⟨y, ⟨w, w1, w2⟩, y2⟩ := h
  cases y2
  rw [hz] at w1
  cases w1
  rw [w2, ai32 h1 h2]
theorem qhandO {C : zC} (h1 : aCon qW qG C qc16 (fun _ => True)) : aCon qW qG C qc15 (fun _ => True) := by
  refine qhc_ok (E' := aent qc15 ++ [(0, 0, 71)]) (m' := ((1, 0, 2), .inl (7, 0)) :: aem qc15) h1 (by decide +kernel) (fun ρ h hE hH => ?_)
  have hr : ρ[1]? = some ((2 : Nat) : Int) := qcell (so := 2) hE rfl (fun a => qun2)
  obtain ⟨z3, p3, q3⟩ := hE.has (k := 3) rfl
  obtain ⟨z4, p4, q4⟩ := hE.has (k := 4) rfl
  obtain ⟨z5, p5, q5⟩ := hE.has (k := 5) rfl
  have q3 : 0 ≤ z3 ∧ z3 ≤ 7 := q3
  have q4 : 0 ≤ z4 ∧ z4 ≤ 64 := q4
  have q5 : 0 ≤ z5 ∧ z5 ≤ 64 := q5
  obtain ⟨x, x1, x2, x3⟩ := qint (a := 2) (k := 2) (l := 0) (u := 72) hH (by decide +kernel) (by decide +kernel) (by decide +kernel) (fun e he => qnk_ok hE (by decide +kernel) hr he) (by decide +kernel)
  have f22 : qv h 2 2 = x.toInt := by rw [qv_on (by decide), qi_int x1]
  have g7 := qamg_g (k := 7) (v := .inl (3, 0)) hE hH (by decide) hr (qg7 _) rfl
  have g8 := qamg_g (k := 8) (v := .inl (4, 0)) hE hH (by decide) hr (qg8 _) rfl
  obtain ⟨w4, w41, w42, w43⟩ := qamg_r (k := 4) (v := .inl (5, 0)) hE hH (by decide) hr (qr24 h) (by decide) rfl
  obtain ⟨y, y1, rfl⟩ := (show ∃ y : Int32, ai ρ 5 0 y ∧ w4 = .int y from w42)
  have f24 := w43 y rfl
  have ey := av_toInt p5 (show av ρ (.inl (5, 0)) (.int y) from ⟨y, y1, rfl⟩) (by omega) (by omega)
  have hle := qgc_le (qv h)
  have e7 := av_toInt p3 g7 (by omega) (by omega)
  rw [ai32 (by omega) (by omega)] at e7
  have e8 := av_toInt p4 g8 (by omega) (by omega)
  rw [ai32 (by omega) (by omega)] at e8
  have h71 : x.toInt ≤ 71 := by omega
  refine ⟨ρ ++ [x.toInt], aext.one _, hE.push (t := (0, 0, 71)) ⟨x2, h71⟩, ?_⟩
  have hE2 := hE.push (t := (0, 0, 71)) (z := x.toInt) ⟨x2, h71⟩
  have hl : ρ.length = 7 := hE.1
  refine aH_add (a := 2) (k := 2) (v := .int x) (hH.ext (aext.one _)) (qden (k := 2) hE2 (by decide) ((aext.one _).get hr)) (by decide +kernel) (by decide +kernel) (by rw [qrdx (qr22 h)]; exact x1) ⟨x, ⟨x.toInt, ?_, by rw [Int.add_zero, Int32.ofInt_toInt]⟩, rfl⟩
  have := anew_get (ρ := ρ) x.toInt
  rw [hl] at this
  exact this
/-- how many knots are laid, where some are counted and not laid -/
theorem qN63 {E : List aY} {ρ : List Int} {m : aM} {h : zH} {z5 : Int} (hE : aE qW E ρ) (hH : aH qW qG ρ m h) (hr : ρ[1]? = some ((128 : Nat) : Int)) (hm : amg m (1, 0, 74) = some (.inl (5, 0))) (h33 : qnk m 33 = true) (p5 : ρ[5]? = some z5) (q5 : 1 ≤ z5 ∧ z5 ≤ 64) : ∃ x : Int32, rd h 130 17 = some (.int x) ∧ 0 ≤ x.toInt ∧ x.toInt ≤ 63 := by
  obtain ⟨x, x1, x2, x3⟩ := qint (a := 130) (k := 17) (l := 0) (u := 64) hH (by decide +kernel) (by decide +kernel) (by decide +kernel) (fun e he => qnk_o hE h33 hr (by decide) he) (by decide +kernel)
  obtain ⟨y, y1, y2, y3⟩ := qint (a := 128) (k := 33) (l := 0) (u := 64) hH (by decide +kernel) (by decide +kernel) (by decide +kernel) (fun e he => qnk_ok hE h33 hr he) (by decide +kernel)
  have f17 : qv h 130 17 = x.toInt := by rw [qv_on (by decide), qi_int x1]
  have f33 : qv h 128 33 = y.toInt := by rw [qv_on (by decide), qi_int y1]
  have g := qamg_g (k := 74) hE hH (by decide) hr (qg74 _) hm
  have e := av_toInt p5 g (by omega) (by omega)
  rw [ai32 (by omega) (by omega)] at e
  exact ⟨x, x1, x2, by omega⟩
theorem qhandP {q q1 : aQ} {C : zC} (h1 : aCon qW qG C q1 (fun _ => True)) (chk : qhc q q1 (aent q ++ [(0, 0, 63)]) (((8, 0, 17), .inl (9, 0)) :: aem q) = true) (e1 : (aent q)[1]? = some (2, 49, 49)) (e5 : (aent q)[5]? = some (0, 1, 64)) (e8 : (aent q)[8]? = some (2, 51, 51)) (hl : (aent q).length = 9) (hm : amg (aem q) (1, 0, 74) = some (.inl (5, 0))) (h33 : qnk (aem q) 33 = true) : aCon qW qG C q (fun _ => True) := by
  refine qhc_ok h1 chk (fun ρ h hE hH => ?_)
  have hr : ρ[1]? = some ((128 : Nat) : Int) := qcell (so := 49) hE e1 (fun a => qun49)
  have hr8 : ρ[8]? = some ((130 : Nat) : Int) := qcell (so := 51) hE e8 (fun a => qun51)
  obtain ⟨z5, p5, q5⟩ := hE.has e5
  have q5 : 1 ≤ z5 ∧ z5 ≤ 64 := q5
  obtain ⟨x, x1, x2, x3⟩ := qN63 hE hH hr hm h33 p5 q5
  have hE2 := hE.push (t := (0, 0, 63)) (z := x.toInt) ⟨x2, x3⟩
  refine ⟨ρ ++ [x.toInt], aext.one _, hE2, ?_⟩
  have hl : ρ.length = 9 := by rw [hE.1]; exact hl
  refine aH_add (a := 130) (k := 17) (v := .int x) (hH.ext (aext.one _)) (qden (k := 17) hE2 (by decide) ((aext.one _).get hr8)) (by decide +kernel) (by decide +kernel) (by rw [qrdx (qG_off (by decide) (by decide))]; exact x1) ⟨x, ⟨x.toInt, ?_, by rw [Int.add_zero, Int32.ofInt_toInt]⟩, rfl⟩
  have := anew_get (ρ := ρ) x.toInt
  rw [hl] at this
  exact this
theorem qhandB {C : zC} (h1 : aCon qW qG C qc79 (fun _ => True)) : aCon qW qG C qc78 (fun _ => True) := qhandP h1 (by decide +kernel) rfl rfl rfl rfl rfl (by decide +kernel)
theorem qhandC {C : zC} (h1 : aCon qW qG C qc81 (fun _ => True)) : aCon qW qG C qc80 (fun _ => True) := qhandP h1 (by decide +kernel) rfl rfl rfl rfl rfl (by decide +kernel)
theorem qhandN {C : zC} (h1 : aCon qW qG C qc86 (fun _ => True)) : aCon qW qG C qc85 (fun _ => True) := qhandP h1 (by decide +kernel) rfl rfl rfl rfl rfl (by decide +kernel)
theorem qhandT {C : zC} (h1 : aCon qW qG C qc88 (fun _ => True)) : aCon qW qG C qc87 (fun _ => True) := qhandP h1 (by decide +kernel) rfl rfl rfl rfl rfl (by decide +kernel)
theorem qhandM {C : zC} (h1 : aCon qW qG C qc84 (fun _ => True)) : aCon qW qG C qc83 (fun _ => True) := by
  refine qhc_ok (E' := (aent qc83).set 3 (0, 0, 6) ++ [(0, 0, 63)]) (m' := ((8, 0, 17), .inl (10, 0)) :: aem qc83) h1 (by decide +kernel) (fun ρ h hE hH => ?_)
  have hr : ρ[1]? = some ((128 : Nat) : Int) := qcell (so := 49) hE rfl (fun a => qun49)
  have hr8 : ρ[8]? = some ((130 : Nat) : Int) := qcell (so := 51) hE rfl (fun a => qun51)
  obtain ⟨z5, p5, q5⟩ := hE.has (k := 5) rfl
  have q5 : 1 ≤ z5 ∧ z5 ≤ 64 := q5
  obtain ⟨x, x1, x2, x3⟩ := qN63 hE hH hr rfl (by decide +kernel) p5 q5
  obtain ⟨z3, p3, q3⟩ := hE.has (k := 3) rfl
  have q3 : 0 ≤ z3 ∧ z3 ≤ 2147483632 := q3
  obtain ⟨z9, p9, q9⟩ := hE.has (k := 9) rfl
  have q9 : 0 ≤ z9 ∧ z9 ≤ 0 := q9
  obtain ⟨w6, w61, w62, w63⟩ := qamg_r (k := 26) (v := .inl (9, 0)) hE hH (by decide) hr (qr26 h) (by decide) rfl
  obtain ⟨y6, i6, rfl⟩ := (show ∃ y : Int32, ai ρ 9 0 y ∧ w6 = .int y from w62)
  have f6 := w63 y6 rfl
  have e6 := av_toInt p9 (show av ρ (.inl (9, 0)) (.int y6) from ⟨y6, i6, rfl⟩) (by omega) (by omega)
  obtain ⟨w7, w71, w72, w73⟩ := qamg_r (k := 27) (v := .inl (3, 15)) hE hH (by decide) hr (qr27 h) (by decide) rfl
  obtain ⟨y7, i7, rfl⟩ := (show ∃ y : Int32, ai ρ 3 15 y ∧ w7 = .int y from w72)
  have f7 := w73 y7 rfl
  have e7 := av_toInt p3 (show av ρ (.inl (3, 15)) (.int y7) from ⟨y7, i7, rfl⟩) (by omega) (by omega)
  have h6 : z3 ≤ 6 := by
    obtain ⟨v, v1, v2⟩ := hH.2.1 128 83 (by decide +kernel) (by decide +kernel)
    rw [qrdg (qg83 _)] at v1
    cases v1
    rcases v2 with v2 | ⟨e, he, v2⟩
    · have ht : apl (afm qW (asrt qW 128)) 83 = (0, -1, 21) := by decide +kernel
      rw [ht] at v2
      obtain ⟨u, u1, u2, u3⟩ := v2
      cases u1
      rw [if_pos (by omega), f7, ai32 (by omega) (by omega)] at u3
      omega
    · exact (qnk_ok hE (by decide +kernel) hr he v2).elim
  have hE1 := hE.set p3 (t := (0, 0, 6)) ⟨q3.1, h6⟩
  have hE2 := hE1.push (t := (0, 0, 63)) (z := x.toInt) ⟨x2, x3⟩
  refine ⟨ρ ++ [x.toInt], aext.one _, hE2, ?_⟩
  have hl : ρ.length = 10 := hE.1
  refine aH_add (a := 130) (k := 17) (v := .int x) (hH.ext (aext.one _)) (qden (k := 17) hE2 (by decide) ((aext.one _).get hr8)) (by decide +kernel) (by decide +kernel) (by rw [qrdx (qG_off (by decide) (by decide))]; exact x1) ⟨x, ⟨x.toInt, ?_, by rw [Int.add_zero, Int32.ofInt_toInt]⟩, rfl⟩
  have := anew_get (ρ := ρ) x.toInt
  rw [hl] at this
  exact this
end
