/-! The same with the depth of calls: a contract of measure m runs at depth (d + 1) (m + 1) beyond what it stands on. -/
theorem zEv_run {X : zX} {I : zI} {mcl : Nat → Nat} {mt : zM} {mi c : Nat} {ini : Bool} {nL : Nat} {rt : Option FieldType} {tab : Nat → Option (Instr × Nat)} {n d : Nat} {as : List Value} {h : zH} {r : Option Value} {h' : zH} (hm : mt mi = some (c, ini, nL, rt, tab)) (hl : (lg_sl as).length ≤ nL) (q : zRun X I mcl (zEv X I mcl mt d) c ini nL rt tab n 0 (lv_args 0 as) [] h r h') : zEv X I mcl mt (d + 1) mi as h r h' := ⟨c, ini, nL, rt, tab, n, hm, hl, q⟩
theorem aCon.mono {W : aW} {G : aG} {C C' : zC} {q : aQ} {P : List Int → Prop} (h : aCon W G C q P) (hC : ∀ mi as h r h', C mi as h r h' → C' mi as h r h') : aCon W G C' q P := fun ρ h0 vs hp hE hv hH => by
  obtain ⟨r, h', g1, g2⟩ := h ρ h0 vs hp hE hv hH
  exact ⟨r, h', hC _ _ _ _ _ g1, g2⟩
set_option maxHeartbeats 1000000 in
theorem acals_dp {W : aW} {G : aG} {Pt : aPt} {D : List aD} {h0 : zH} {Y X : zX} {I : zI} {mcl : Nat → Nat} {mt : zM} {K Kn : Nat → List aQ} {ms0 : aMs} {ρ0 : List Int} {B : Nat} (hX : aXX Y X) (hG : aGok W G Pt) (hL : ∀ s : Nat, (afm W s).2.2.1 < 1000000) (hms : ∀ t ∈ ms0.2, t.1 < ρ0.length)
    (hK : ∀ (mi : Nat) (q : aQ), q ∈ K mi → q.1 = mi ∧ aCon W G (zEv X I mcl mt B) q (fun _ => True)) (hKn : ∀ (mi : Nat) (q : aQ), q ∈ Kn mi → q.1 = mi ∧ aCon W G (zEv X I mcl mt B) q (fun ρ => amv ρ q.2.2.2.2.2 < amv ρ0 ms0)) : ∀ d : Nat, aCal W G D h0 (zEv X I mcl mt (d + B)) (aext ρ0) (acals (Y, I, mcl, W, Pt, D) mt K Kn ms0 d) := by
  intro d
  induction d with
  | zero => intro mi E as m xs ρ vs h hs; cases hs
  | succ d ih =>
    intro mi E as m xs ρ vs h hs hq hE hH hv hF
    unfold acals at hs
    split at hs
    · next ys hy =>
      cases hs
      obtain ⟨q, g1, A, g2, g3⟩ := atry_ok hy
      obtain ⟨k1, k2⟩ := hK mi q g1
      obtain ⟨r, h', c1, c2⟩ := acon_use g2 hE hH hv hF k2 (fun _ _ _ _ _ => trivial)
      rw [k1] at c1
      rw [g3] at c2
      exact ⟨r, h', zEv_le (by omega) c1, c2⟩
    · split at hs
      · next ys hy =>
        cases hs
        obtain ⟨q, g1, A, g2, g3, g4⟩ := atryn_ok hy
        obtain ⟨k1, k2⟩ := hKn mi q g1
        obtain ⟨r, h', c1, c2⟩ := acon_use g2 hE hH hv hF k2 (fun ρ' ρc x1 x2 x3 => by
          have h1 := alt_ok x2 x3 g4
          have h2 : amv ρ' ms0 = amv ρ0 ms0 := by
            unfold amv
            rw [avs_ext (hq.trans x1) hms]
          rw [h2] at h1
          exact h1)
        rw [k1] at c1
        rw [g3] at c2
        exact ⟨r, h', zEv_le (by omega) c1, c2⟩
      · cases hn : (anil (K mi) && anil (Kn mi)) with
        | false => rw [hn] at hs; cases hs
        | true =>
          rw [hn] at hs
          dsimp only [cond_true] at hs
          split at hs
          · next q hm =>
            obtain ⟨c, ini, nL, rt, tab⟩ := q
            cases hb : Nat.ble (as.map acat).sum nL with
            | false => rw [hb] at hs; cases hs
            | true =>
              rw [hb] at hs
              have hl : (lg_sl vs).length ≤ nL := by rw [alg_len hv]; exact able hb
              obtain ⟨k, r, h', e1, e2⟩ := arun_ok (ini := ini) (Post := fun _ _ => False) hX hG hL (fun _ _ a b => a.trans b) ih (fun _ _ _ _ _ _ hf _ _ => by cases hf) 1000 true 0 _ xs ρ (lv_args 0 vs) [] h hs hq ⟨hE, fun p hp => (aloc_ok as vs 0 hv p hp).2, rfl, hH, hF⟩
              rcases e2 with e2 | e2
              · exact ⟨r, h', zEv_le (by omega) (zEv_run hm hl e1), e2⟩
              · exact e2.elim
          · cases hs
set_option maxHeartbeats 2000000 in
theorem agroup_dp {W : aW} {G : aG} {Pt : aPt} {Y X : zX} {I : zI} {mcl : Nat → Nat} {mt : zM} {K Kn : Nat → List aQ} {d n B : Nat} (hX : aXX Y X) (hG : aGok W G Pt) (hL : ∀ s : Nat, (afm W s).2.2.1 < 1000000)
    (hK : ∀ (mi : Nat) (q : aQ), q ∈ K mi → q.1 = mi ∧ aCon W G (zEv X I mcl mt B) q (fun _ => True)) (hKn : ∀ (mi : Nat) (q : aQ), q ∈ Kn mi → q.1 = mi ∧ ∃ NS : List aN, ackq Y I mcl W Pt mt K Kn q NS d n = true) : ∀ (M : Nat) (mi : Nat) (q : aQ), q ∈ Kn mi → aCon W G (zEv X I mcl mt (B + (d + 1) * M)) q (fun ρ => amv ρ q.2.2.2.2.2 < (M : Int)) := by
    intro M
    induction M with
    | zero =>
      intro mi q hq ρ h vs hp hE
      obtain ⟨-, NS, hc⟩ := hKn mi q hq
      unfold ackq ack0 awf at hc
      simp only [Bool.and_eq_true] at hc
      have := ann_ok hE hc.1.1.2.2.2
      omega
    | succ M ih =>
      intro mi q hq ρ0 h0 vs hp hE hv hH
      obtain ⟨-, NS, hc⟩ := hKn mi q hq
      unfold ackq ack0 awf at hc
      simp only [Bool.and_eq_true] at hc
      obtain ⟨⟨⟨c1, c2, c3, c4⟩, c5⟩, c6⟩ := hc
      have hD : ∀ d ∈ q.2.2.2.2.1, d.2.1 = 0 ∨ d.2.2.1 < ρ0.length := fun d hd => by
        have := List.all_eq_true.mp c2 d hd
        rw [Bool.or_eq_true] at this
        rcases this with h | h
        · exact Or.inl (Nat.eq_of_beq_eq_true h)
        · refine Or.inr ?_
          rw [hE.1]
          have h2 : Nat.ble (aent q).length d.2.2.1 = false := by simpa using h
          cases hh : Nat.decLt d.2.2.1 (aent q).length with
          | isTrue h => exact h
          | isFalse h => rw [Nat.ble_eq_true_of_le (by omega)] at h2; cases h2
      have hms : ∀ t ∈ q.2.2.2.2.2.2, t.1 < ρ0.length := fun t ht => by
        have h := List.all_eq_true.mp c3 t ht
        rw [hE.1]
        have h2 : Nat.ble (aent q).length t.1 = false := by simpa using h
        cases hh : Nat.decLt t.1 (aent q).length with
        | isTrue h => exact h
        | isFalse h => rw [Nat.ble_eq_true_of_le (by omega)] at h2; cases h2
      have hcal := acals_dp (h0 := h0) (D := q.2.2.2.2.1) (ms0 := q.2.2.2.2.2) (ρ0 := ρ0) (B := B + (d + 1) * M) hX hG hL hms (fun mi' q' hq' => ⟨(hK mi' q' hq').1, (hK mi' q' hq').2.mono (fun _ _ _ _ _ z => zEv_le (by omega) z)⟩) (fun mi' q' hq' => ⟨(hKn mi' q' hq').1, fun ρ h vs hp' => ih mi' q' hq' ρ h vs (by
        have h9 : amv ρ q'.2.2.2.2.2 < amv ρ0 q.2.2.2.2.2 := hp'
        show amv ρ q'.2.2.2.2.2 < (M : Int)
        omega)⟩) d
      split at c1
      · next w hm =>
        obtain ⟨c, ini, nL, rt, tab⟩ := w
        have hlen : ρ0.length = (aent q).length := hE.1
        -- from a note, by its measure
        have notes : ∀ (m : Nat) (N : aN), N ∈ NS → ∀ (ρ : List Int) (cl : zL) (cst : List Value) (h : zH), amv ρ N.2.2.2.2.2 < (m : Int) → aext ρ0 ρ → aRel W G q.2.2.2.2.1 h0 ρ (N.2.1, N.2.2.1, N.2.2.2.1, N.2.2.2.2.1) cl cst h → ∃ (k : Nat) (r : Option Value) (h' : zH), zRun X I mcl (zEv X I mcl mt (d + (B + (d + 1) * M))) c ini nL rt tab k N.1 cl cst h r h' ∧ aEnd W G q.2.2.2.2.1 ρ0 h0 (aent q) q.2.2.2.1 r h' := by
          intro m
          induction m with
          | zero =>
            intro N hN ρ cl cst h hlt hx hR
            have := List.all_eq_true.mp c6 N hN
            unfold ackN anwf at this
            simp only [Bool.and_eq_true] at this
            have h1 := ann_ok hR.1 this.1.2
            omega
          | succ m ihm =>
            intro N hN ρ cl cst h hlt hx hR
            have hck := List.all_eq_true.mp c6 N hN
            unfold ackN anwf aone at hck
            simp only [Bool.and_eq_true] at hck
            obtain ⟨⟨k1, k2⟩, k3⟩ := hck
            rw [hm] at k3
            dsimp only at k3
            split at k3
            · next xs hxs =>
              have hmsN : ∀ t ∈ N.2.2.2.2.2.2, t.1 < ρ.length := fun t ht => by
                have h := List.all_eq_true.mp k1 t ht
                rw [hR.1.1]
                have h2 : Nat.ble N.2.1.length t.1 = false := by simpa using h
                cases hh : Nat.decLt t.1 N.2.1.length with
                | isTrue h => exact h
                | isFalse h => rw [Nat.ble_eq_true_of_le (by omega)] at h2; cases h2
              obtain ⟨k, r, h', e1, e2⟩ := arun_ok (ini := ini) (Q := aext ρ) (Post := fun r h' => aEnd W G q.2.2.2.2.1 ρ0 h0 (aent q) q.2.2.2.1 r h') hX hG hL (fun _ _ a b => a.trans b) (fun mi E as m xs ρ' vs h a b => hcal mi E as m xs ρ' vs h a (hx.trans b)) (fun pc S ρ' cl' cst' h' hnt hq' hR' => by
                obtain ⟨N', n1, n2⟩ := List.any_eq_true.mp hnt
                rw [Bool.and_eq_true] at n2
                obtain ⟨ρc, y1, y2, y3, y4, y5, y6⟩ := amN_ok (G := G) n2.2 hR'.1 hR'.2.1 hR'.2.2.1 hR'.2.2.2.1
                obtain ⟨ρ'', y7, y8⟩ := y6 _ rfl
                have hxx := hx.trans hq'
                rw [← hlen, atake hxx] at y1
                have hmv : amv ρ'' N.2.2.2.2.2 = amv ρ N.2.2.2.2.2 := by
                  unfold amv
                  rw [avs_ext (hq'.trans y7) hmsN]
                rw [hmv] at y8
                have hF0 := aF_dn hxx hD hR'.2.2.2.2
                obtain ⟨k, r, h2, g1, g2⟩ := ihm N' n1 ρc cl' cst' h' (by omega) y1 ⟨y2, y3, y4, y5, hF0.ext y1⟩
                rw [Nat.eq_of_beq_eq_true n2.1] at g1
                exact ⟨k, r, h2, g1, g2⟩) n true N.1 _ xs ρ cl cst h hxs aext.rf hR
              refine ⟨k, r, h', e1, ?_⟩
              rcases e2 with e2 | e2
              · exact axck_ok hlen hD hx k3 e2
              · exact e2
            · cases k3
        -- from the entry
        unfold aone at c5
        rw [hm] at c5
        dsimp only at c5
        split at c5
        · next xs hxs =>
          have hl : (lg_sl vs).length ≤ nL := by rw [alg_len hv]; exact able c1
          obtain ⟨k, r, h', e1, e2⟩ := arun_ok (ini := ini) (Q := aext ρ0) (Post := fun r h' => aEnd W G q.2.2.2.2.1 ρ0 h0 (aent q) q.2.2.2.1 r h') hX hG hL (fun _ _ a b => a.trans b) hcal (fun pc S ρ' cl' cst' h' hnt hq' hR' => by
            obtain ⟨N', n1, n2⟩ := List.any_eq_true.mp hnt
            rw [Bool.and_eq_true] at n2
            obtain ⟨ρc, y1, y2, y3, y4, y5, -⟩ := amN_ok (G := G) n2.2 hR'.1 hR'.2.1 hR'.2.2.1 hR'.2.2.2.1
            rw [← hlen, atake hq'] at y1
            have hF0 := aF_dn hq' hD hR'.2.2.2.2
            obtain ⟨k, r, h2, g1, g2⟩ := notes ((amv ρc N'.2.2.2.2.2).toNat + 1) N' n1 ρc cl' cst' h' (by omega) y1 ⟨y2, y3, y4, y5, hF0.ext y1⟩
            rw [Nat.eq_of_beq_eq_true n2.1] at g1
            exact ⟨k, r, h2, g1, g2⟩) n true 0 _ xs ρ0 (lv_args 0 vs) [] h0 hxs aext.rf ⟨hE, fun p hp => (aloc_ok _ vs 0 hv p hp).2, rfl, hH, aF.rf⟩
          refine ⟨r, h', zEv_le (by rw [Nat.mul_succ]; omega) (zEv_run hm hl e1), ?_⟩
          rcases e2 with e2 | e2
          · exact axck_ok hlen hD aext.rf c5 e2
          · exact e2
        · cases c5
      · cases c1
/-- a measure's most -/
def amb (q : aQ) (M : Nat) : Bool := match aub (aent q) (q.2.2.2.2.2.2.length + 1) q.2.2.2.2.2.2 with
  | some b => !ile (M : Int) (q.2.2.2.2.2.1 + b)
  | none => false
theorem amb_ok {W : aW} {q : aQ} {M : Nat} {ρ : List Int} (h : amb q M = true) (hE : aE W (aent q) ρ) : amv ρ q.2.2.2.2.2 < (M : Int) := by
  unfold amb at h
  split at h
  · next b hb =>
    have h1 := ile_f (by simpa using h)
    have h2 := aub_ok hE _ _ _ hb
    unfold amv
    omega
  · cases h
theorem aCon.all {W : aW} {G : aG} {C : zC} {q : aQ} {M : Nat} (h : aCon W G C q (fun ρ => amv ρ q.2.2.2.2.2 < (M : Int))) (hb : amb q M = true) : aCon W G C q (fun _ => True) := fun ρ h0 vs _ hE hv hH => h ρ h0 vs (amb_ok hb hE) hE hv hH
