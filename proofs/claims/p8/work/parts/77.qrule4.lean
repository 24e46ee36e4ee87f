/-! The rules of the reference's halves are right; all rules. -/
theorem qp1_of {F : qF} (h : qp2 F) (h4 : ∀ i : Nat, i < 3 → F 144 i = F 144 (3 + i)) (h5 : ∀ i : Nat, i < 3 → F 145 i = F 145 (3 + i)) (h6 : ∀ i : Nat, i < 64 → F 146 i = F 146 (64 + i)) (h7 : ∀ i : Nat, i < 64 → F 147 i = F 147 (64 + i)) : qp1 F := by
  obtain ⟨h0, h1, h2, h3⟩ := h
  have g : ∀ i : Nat, i < 64 → F 146 (0 + i) = F 146 (64 + i) ∧ F 147 (0 + i) = F 147 (64 + i) := fun i hi => by
    rw [Nat.zero_add]
    exact ⟨h6 i hi, h7 i hi⟩
  unfold qp1
  rw [show F 144 0 = F 144 3 from h4 0 (by omega), show F 144 1 = F 144 4 from h4 1 (by omega), show F 144 2 = F 144 5 from h4 2 (by omega), show F 145 0 = F 145 3 from h5 0 (by omega), show F 145 1 = F 145 4 from h5 1 (by omega), show F 145 2 = F 145 5 from h5 2 (by omega)]
  refine ⟨qlw_m h0 (fun i _ hi => g i ?_) h1, qlw_m h0 (fun i _ hi => g i ?_) h2, qlw_m h0 (fun i _ hi => g i ?_) h3⟩
  · have := h1.2.2.1; omega
  · have := h2.2.2.1; omega
  · have := h3.2.2.1; omega
theorem qpe_known {E : List aY} {ρ : List Int} {m : aM} {h : zH} {o gk c n : Nat} {l u : Int} (hE : aE qW E ρ) (hH : aH qW qG ρ m h) (hr : ρ[o]? = some ((128 : Nat) : Int)) (hk : gk < 1000) (hn : n ≤ 64) (hg : qgF (qv h) 128 gk = some ((qpe (qv h) c n n : Nat) : Int)) (hb : avb' E (amg m (o, 0, (gk : Int))) l u = true) : l ≤ (qpe (qv h) c n n : Nat) ∧ ((qpe (qv h) c n n : Nat) : Int) ≤ u := by
  unfold avb' at hb
  split at hb
  · next v hv =>
    have g := qamg_g hE hH hk hr hg hv
    have q := avb_i hE hb g
    have := qpe_le (qv h) c n n
    rw [ai32 (by omega) (by omega)] at q
    exact q
  · cases hb
theorem qgF_some {F F' : qF} {a k : Nat} {x y : Int} (h : qgF F' a k = qgF F a k) (h1 : qgF F' a k = some x) (h2 : qgF F a k = some y) : x = y := by
  rw [h1, h2] at h
  exact Option.some.inj h
theorem qUh_ok {E : List aY} {m : aM} {r so e c n gk kN : Nat} {v : aV} {o : Option (List aY × aM × List aK)} {ρ : List Int} {h h' : zH} {w : Value} (hU : qUh E m r (so : Int) e (n : Int) (kN : Int) v = some o) (hE : aE qW E ρ) (hH : aH qW qG ρ m h) (hv : av ρ v w) (hw : rd h' c kN = some w) (hF : qv h' = qud (qv h) c kN (qi h' c kN))
    (hu : ∀ a : Nat, a < qW.1.length → (asrt qW a : Int) = (so : Int) → a = c) (h128 : ¬ c = 128) (h2 : ¬ c = 2) (hkn : kN < n) (hn : n ≤ 64) (hp : qpr c (kN + n) = true) (hgk : qgk 128 gk = true) (hap : apl (afm qW (asrt qW 128)) gk = (0, -2147483648, 2147483647)) (he : 79 + (e : Int) = (gk : Int)) (hk1 : gk < 1000)
    (hgp : ∀ F : qF, qgF F 128 gk = some ((qpe F c n n : Nat) : Int)) (hdep : ∀ (z : Int) (a k : Nat), ¬ (a = 128 ∧ k = 78) → ¬ (a = 128 ∧ k = gk) → qgF (qud (qv h) c kN z) a k = qgF (qv h) a k) (h78 : ¬ gk = 78)
    (hrow : (e = 0 ∧ gk = 79 ∧ c = 144 ∧ n = 3) ∨ (e = 1 ∧ gk = 80 ∧ c = 145 ∧ n = 3) ∨ (e = 2 ∧ gk = 81 ∧ c = 146 ∧ n = 64) ∨ (e = 3 ∧ gk = 82 ∧ c = 147 ∧ n = 64)) : aUout qW qG ρ h h' o := by
  have hq78 := qbo_01 (qp1 (qv h'))
  unfold qUh at hU
  rw [he] at hU
  split at hU
  · cases hU
  · next q hq =>
    have hr := qmo_ok hE hH m (fun e he => he) hq
    have hdep' : ∀ a k : Nat, ¬ (a = 128 ∧ k = 78) → ¬ (a = 128 ∧ k = gk) → qgF (qv h') a k = qgF (qv h) a k := fun a k q1 q2 => by
      rw [hF]
      exact hdep _ a k q1 q2
    cases hb : (qas (amf E (so : Int) 0 ((kN : Int) + n) m) v && (ieq (kN : Int) 0 || avb' E (amg m (q, 0, (gk : Int))) (kN : Int) n)) with
    | false =>
      rw [hb] at hU
      cases hU
      have hE2 := hE.push (t := (0, 0, 1)) (z := qbo (qp1 (qv h'))) hq78
      have hr2 := (aext.one (ρ := ρ) (qbo (qp1 (qv h')))).get hr
      refine qmk _ (aext.one _) hE2 (qallc (qo1 (k := 78) hE2 (by decide +kernel) (by decide) hr2 (qg78 _) ?_) qall0) (qallc (qo2 hE2 hgk hk1 hr2 (hgp _) hap) qall0) (fun a k q1 q2 => hdep' a k (qnd (kk := 78) hE2 (by decide) hr2 (q1 _ List.mem_cons_self)) (qnd hE2 hk1 hr2 (q2 _ List.mem_cons_self)))
      rw [← hE.1]
      exact ⟨_, ⟨_, anew_get _, by rw [Int.add_zero]⟩, rfl⟩
    | true =>
      rw [hb] at hU
      rw [Bool.and_eq_true, Bool.or_eq_true] at hb
      obtain ⟨b1, b2⟩ := hb
      -- the place in the second half is the same
      have hsame : qv h' c kN = qv h' c (n + kN) := by
        unfold qas at b1
        split at b1
        · next w' hw' =>
          have hw2 : amf E (so : Int) 0 ((kN + n : Nat) : Int) m = some w' := by rw [← hw']; rfl
          obtain ⟨w0, p1, p2, p3⟩ := qamf_c hE hH hu h128 h2 (by omega) hp hw2
          rw [aveq_ok b1] at p2
          rw [hF, qud_same, qud_k (by omega), Nat.add_comm n kN, qv_on hp]
          unfold qi
          rw [hw, p1]
          rcases v with ⟨s, cc⟩ | s | s | k
          · obtain ⟨x, x1, rfl⟩ := hv
            obtain ⟨y, y1, rfl⟩ := p2
            rw [x1.inj y1]
          · obtain ⟨x, x1, rfl⟩ := hv
            obtain ⟨y, y1, rfl⟩ := p2
            rfl
          · obtain ⟨x, x1, rfl⟩ := hv
            obtain ⟨y, y1, rfl⟩ := p2
            rfl
          · have nx : ∀ u : Value, av ρ (.inr (.inr (.inr k))) u → ∀ x : Int32, ¬ u = .int x := fun u hu x e => by
              subst e
              obtain ⟨s, c, e, -⟩ := av_int hu
              cases e
            split
            · next x hx => cases hx; exact absurd rfl (nx _ hv x)
            · split
              · next x hx => cases hx; exact absurd rfl (nx _ p2 x)
              · rfl
        · cases b1
      have hpre : ∀ i : Nat, i < kN + 1 → qv h' c i = qv h' c (n + i) := fun i hi => by
        by_cases ei : i = kN
        · rw [ei]; exact hsame
        · rcases b2 with b2 | b2
          · have := ieq_ok b2
            omega
          · have q1 := (qpe_known hE hH hr hk1 hn (hgp _) b2).1
            rw [hF, qud_k ei, qud_k (by omega)]
            exact qpe_pre n kN (by omega) i (by omega)
      have hge : kN + 1 ≤ qpe (qv h') c n n := qpe_ge n (kN + 1) (by omega) hpre
      have hle := qpe_le (qv h') c n n
      have hE1 := hE.push (t := (0, (kN : Int) + 1, (n : Int))) (z := ((qpe (qv h') c n n : Nat) : Int)) ⟨by omega, by omega⟩
      have hr1 := (aext.one (ρ := ρ) ((qpe (qv h') c n n : Nat) : Int)).get hr
      have v1 : av (ρ ++ [((qpe (qv h') c n n : Nat) : Int)]) (.inl (E.length, 0)) (.int (Int32.ofInt ((qpe (qv h') c n n : Nat) : Int))) := by
        rw [← hE.1]
        exact ⟨_, ⟨_, anew_get _, by rw [Int.add_zero]⟩, rfl⟩
      have hU : (bif ieq ((kN : Int) + 1) n && (avb' E (amg m (q, 0, 77)) 1 1 && ((Nat.beq e 0 || avb' E (amg m (q, 0, 79)) 3 3) && ((Nat.beq e 1 || avb' E (amg m (q, 0, 80)) 3 3) && ((Nat.beq e 2 || avb' E (amg m (q, 0, 81)) 64 64) && (Nat.beq e 3 || avb' E (amg m (q, 0, 82)) 64 64))))) then some (some (E ++ [(0, (kN : Int) + 1, (n : Int))], [((q, 0, (gk : Int)), .inl (E.length, 0)), ((q, 0, 78), .inl (0, 1))], []))
        else some (some (E ++ [(0, (kN : Int) + 1, (n : Int)), (0, 0, 1)], [((q, 0, (gk : Int)), .inl (E.length, 0)), ((q, 0, 78), .inl (E.length + 1, 0))], []))) = some o := hU
      cases hb3 : (ieq ((kN : Int) + 1) n && (avb' E (amg m (q, 0, 77)) 1 1 && ((Nat.beq e 0 || avb' E (amg m (q, 0, 79)) 3 3) && ((Nat.beq e 1 || avb' E (amg m (q, 0, 80)) 3 3) && ((Nat.beq e 2 || avb' E (amg m (q, 0, 81)) 64 64) && (Nat.beq e 3 || avb' E (amg m (q, 0, 82)) 64 64)))))) with
      | false =>
        rw [hb3] at hU
        cases hU
        have hE2 := hE1.push (t := (0, 0, 1)) (z := qbo (qp1 (qv h'))) hq78
        have hx2 : aext ρ ((ρ ++ [((qpe (qv h') c n n : Nat) : Int)]) ++ [qbo (qp1 (qv h'))]) := (aext.one _).trans (aext.one _)
        rw [List.append_assoc E] at hE2
        have hr2 := hx2.get hr
        refine qmk _ hx2 hE2 (qallc (qo1 hE2 hgk hk1 hr2 (hgp _) (v1.ext (aext.one _))) (qallc (qo1 (k := 78) hE2 (by decide +kernel) (by decide) hr2 (qg78 _) ?_) qall0)) qall0 (fun a k q1 q2 => hdep' a k (qnd (kk := 78) hE2 (by decide) hr2 (q1 _ (List.Mem.tail _ (List.Mem.head _)))) (qnd hE2 hk1 hr2 (q1 _ (List.Mem.head _))))
        have e1 : E.length + 1 = (ρ ++ [((qpe (qv h') c n n : Nat) : Int)]).length := by rw [List.length_append, hE.1]; rfl
        rw [e1]
        exact ⟨_, ⟨_, anew_get _, by rw [Int.add_zero]⟩, rfl⟩
      | true =>
        rw [hb3] at hU
        cases hU
        simp only [Bool.and_eq_true, Bool.or_eq_true] at hb3
        obtain ⟨k1, k77, k0, ka, kb, kc⟩ := hb3
        have ek := ieq_ok k1
        have full : qpe (qv h') c n n = n := by omega
        -- laws laid are whole
        have hp2 : qp2 (qv h') := by
          unfold avb' at k77
          split at k77
          · next p hp' =>
            have P := qp2_of hE (qamg_g (k := 77) hE hH (by decide) hr (qg77 _) hp') k77
            have := qgF_some (hdep' 128 77 (by omega) (by omega)) (qg77 _) (qg77 _)
            rw [qbo_t P] at this
            exact qbo_1 this
          · cases k77
        have r0 : qpe (qv h') 144 3 3 = 3 := by
          rcases hrow with ⟨-, -, rfl, rfl⟩ | hrow
          · exact full
          · have k0 : avb' E (amg m (q, 0, 79)) 3 3 = true := by
              rcases k0 with k0 | k0
              · have := Nat.eq_of_beq_eq_true k0
                omega
              · exact k0
            have q1 := qpe_known (gk := 79) hE hH hr (by decide) (by decide) (qg79 _) k0
            have := qgF_some (hdep' 128 79 (by omega) (by omega)) (qg79 _) (qg79 _)
            omega
        have r1 : qpe (qv h') 145 3 3 = 3 := by
          rcases hrow with hrow | ⟨-, -, rfl, rfl⟩ | hrow
          · have ka : avb' E (amg m (q, 0, 80)) 3 3 = true := by
              rcases ka with ka | ka
              · have := Nat.eq_of_beq_eq_true ka
                omega
              · exact ka
            have q1 := qpe_known (gk := 80) hE hH hr (by decide) (by decide) (qg80 _) ka
            have := qgF_some (hdep' 128 80 (by omega) (by omega)) (qg80 _) (qg80 _)
            omega
          · exact full
          · have ka : avb' E (amg m (q, 0, 80)) 3 3 = true := by
              rcases ka with ka | ka
              · have := Nat.eq_of_beq_eq_true ka
                omega
              · exact ka
            have q1 := qpe_known (gk := 80) hE hH hr (by decide) (by decide) (qg80 _) ka
            have := qgF_some (hdep' 128 80 (by omega) (by omega)) (qg80 _) (qg80 _)
            omega
        have r2 : qpe (qv h') 146 64 64 = 64 := by
          by_cases e2 : e = 2
          · have : c = 146 ∧ n = 64 := by omega
            obtain ⟨rfl, rfl⟩ := this
            exact full
          · have kb : avb' E (amg m (q, 0, 81)) 64 64 = true := by
              rcases kb with kb | kb
              · exact absurd (Nat.eq_of_beq_eq_true kb) e2
              · exact kb
            have q1 := qpe_known (gk := 81) hE hH hr (by decide) (by decide) (qg81 _) kb
            have := qgF_some (hdep' 128 81 (by omega) (by omega)) (qg81 _) (qg81 _)
            omega
        have r3 : qpe (qv h') 147 64 64 = 64 := by
          by_cases e2 : e = 3
          · have : c = 147 ∧ n = 64 := by omega
            obtain ⟨rfl, rfl⟩ := this
            exact full
          · have kc : avb' E (amg m (q, 0, 82)) 64 64 = true := by
              rcases kc with kc | kc
              · exact absurd (Nat.eq_of_beq_eq_true kc) e2
              · exact kc
            have q1 := qpe_known (gk := 82) hE hH hr (by decide) (by decide) (qg82 _) kc
            have := qgF_some (hdep' 128 82 (by omega) (by omega)) (qg82 _) (qg82 _)
            omega
        have P1 : qp1 (qv h') := qp1_of hp2 (qpe_pre 3 3 (by omega)) (qpe_pre 3 3 (by omega)) (qpe_pre 64 64 (by omega)) (qpe_pre 64 64 (by omega))
        refine qmk _ (aext.one _) hE1 (qallc (qo1 hE1 hgk hk1 hr1 (hgp _) v1) (qallc (qo1 (k := 78) hE1 (by decide +kernel) (by decide) hr1 (qg78 _) ?_) qall0)) qall0 (fun a k q1 q2 => hdep' a k (qnd (kk := 78) hE1 (by decide) hr1 (q1 _ (List.Mem.tail _ (List.Mem.head _)))) (qnd hE1 hk1 hr1 (q1 _ (List.Mem.head _))))
        rw [qbo_t P1]
        exact ⟨_, ai_c hE1 1, rfl⟩
theorem qUks_ok {E : List aY} {m : aM} {r e c gk k : Nat} {q : aK} {o : Option (List aY × aM × List aK)} {ρ : List Int} {h h' : zH} {x : Int32} (hU : qUks E m r e q = some o) (hE : aE qW E ρ) (hH : aH qW qG ρ m h) (hx : ai ρ q.2.1 q.2.2 x) (hxk : x.toInt = (k : Int)) (hF : qv h' = qud (qv h) c k (qi h' c k)) (hk : 64 ≤ k) (hk2 : k < 128) (hgk : qgk 128 gk = true) (hap : apl (afm qW (asrt qW 128)) gk = (0, -2147483648, 2147483647)) (he : 79 + (e : Int) = (gk : Int)) (hk1 : gk < 1000) (hg : ∀ F : qF, ∃ g : Int, qgF F 128 gk = some g) (hdep : (k : Int) = qv h 130 17 + 64 → ∀ (z : Int) (a j : Nat), ¬ (a = 128 ∧ j = gk) → qgF (qud (qv h) c k z) a j = qgF (qv h) a j) : aUout qW qG ρ h h' o := by
  unfold qUks at hU
  rw [he] at hU
  split at hU
  · cases hU
  · next s hs =>
    have hr := qmo_ok hE hH m (fun e he => he) hs
    split at hU
    · next n hn =>
      cases hb : aveq (.inl (n.1, n.2 + 64)) (.inl q.2) with
      | false => rw [hb] at hU; cases hU
      | true =>
        rw [hb] at hU
        cases hU
        have e1 := aveq_ok hb
        have e2 : q.2 = (n.1, n.2 + 64) := (Sum.inl.inj e1).symm
        rw [e2] at hx
        obtain ⟨w0, n1, n2, n3⟩ := qamf_c (so := 51) (k0 := 17) hE hH (fun a => qun51) (by decide) (by decide) (by decide) (by decide) hn
        obtain ⟨y, y1, rfl⟩ := n2
        have e17 := n3 y rfl
        have hy : y.toInt = x.toInt + -64 := qi_add (qi_sub (hx.inj y1.add)) (by omega) (by omega)
        obtain ⟨g, hg'⟩ := hg (qv h')
        refine qmk ρ aext.rf hE qall0 (qallc (qo2 hE hgk hk1 hr hg' hap) qall0) (fun a j _ q2 => ?_)
        rw [hF]
        exact hdep (by omega) _ a j (qnd hE hk1 hr (q2 _ List.mem_cons_self))
    · cases hU
theorem qk144 {E : List aY} {ρ : List Int} {h h' : zH} {r k : Nat} {z : Int} (hk : 3 ≤ k) (hE : aE qW E ρ) (hr : ρ[r]? = some ((128 : Nat) : Int)) (hF : qv h' = qud (qv h) 144 k z) : aUout qW qG ρ h h' (some (E, [], [(r, 0, 75), (r, 0, 76), (r, 0, 77), (r, 0, 79)])) := by
  refine qmk ρ aext.rf hE qall0 (qallc (qo2 (k := 75) hE (by decide +kernel) (by decide) hr (qg75 _) (by decide +kernel)) (qallc (qo2 (k := 76) hE (by decide +kernel) (by decide) hr (qg76 _) (by decide +kernel)) (qallc (qo2 (k := 77) hE (by decide +kernel) (by decide) hr (qg77 _) (by decide +kernel)) (qallc (qo2 (k := 79) hE (by decide +kernel) (by decide) hr (qg79 _) (by decide +kernel)) qall0)))) (fun a j _ q2 => ?_)
  rw [hF]
  exact qd44b hk a j (qnd (kk := 75) hE (by decide) hr (q2 _ (List.Mem.head _))) (qnd (kk := 76) hE (by decide) hr (q2 _ (List.Mem.tail _ (List.Mem.head _)))) (qnd (kk := 77) hE (by decide) hr (q2 _ (List.Mem.tail _ (List.Mem.tail _ (List.Mem.head _))))) (qnd (kk := 79) hE (by decide) hr (q2 _ (List.Mem.tail _ (List.Mem.tail _ (List.Mem.tail _ (List.Mem.head _))))))
theorem qUsf_ok {E : List aY} {m : aM} {r k : Nat} {v : aV} {o : Option (List aY × aM × List aK)} {ρ : List Int} {h h' : zH} {w : Value} (hU : qUsf E m r v = some o) (hE : aE qW E ρ) (hH : aH qW qG ρ m h) (hv : av ρ v w) (hw : rd h' 144 k = some w) (hF : qv h' = qud (qv h) 144 k (qi h' 144 k)) (hk : 3 ≤ k) (hk2 : k < 6) : aUout qW qG ρ h h' o := by
  unfold qUsf at hU
  split at hU
  · cases hU
  · next q hq =>
    have hr := qmo_ok hE hH m (fun e he => he) hq
    split at hU
    · next n p2 hn hp =>
      cases hb : (aveq v (.inl n) && avb E p2 1 1) with
      | false =>
        rw [hb] at hU
        cases hU
        exact qk144 hk hE hr hF
      | true =>
        rw [hb] at hU
        cases hU
        rw [Bool.and_eq_true] at hb
        obtain ⟨b1, b2⟩ := hb
        obtain ⟨w0, n1, n2, n3⟩ := qamf_c (so := 51) (k0 := 17) hE hH (fun a => qun51) (by decide) (by decide) (by decide) (by decide) hn
        obtain ⟨y, y1, rfl⟩ := n2
        have e17 := n3 y rfl
        rw [aveq_ok b1] at hv
        obtain ⟨x, x1, rfl⟩ := hv
        have exy := x1.inj y1
        subst exy
        have g77 := qamg_g (k := 77) hE hH (by decide) hr (qg77 _) hp
        have P := qp2_of hE g77 b2
        have fk : qv h' 144 k = qv h 130 17 := by rw [hF, qud_same, qi_int hw, e17]
        have fo : ∀ b j : Nat, ¬ b = 144 → qv h' b j = qv h b j := fun b j hb => by rw [hF, qud_a hb]
        have fn : ∀ j : Nat, ¬ j = k → qv h' 144 j = qv h 144 j := fun j hj => by rw [hF, qud_k hj]
        obtain ⟨P0, P3, P4, P5⟩ := P
        have lw : ∀ i : Nat, 3 ≤ i → i < 6 → (qlw (qv h) 64 (qv h 144 i) (qv h 145 i) (qv h 130 17)) → qlw (qv h') 64 (qv h' 144 i) (qv h' 145 i) (qv h' 130 17) ∧ qv h' 144 i ≤ qv h 130 17 := fun i _ _ hl => by
          have hl0 := hl.1
          have hl1 := hl.2.1
          have hl2 := hl.2.2.1
          rw [fo 145 _ (by decide), fo 130 _ (by decide)]
          by_cases ei : i = k
          · rw [ei, fk]
            rw [ei] at hl0 hl1 hl2
            exact ⟨⟨by omega, by omega, by omega, fun q => by omega⟩, by omega⟩
          · rw [fn i ei]
            exact ⟨qlw_m (Int.le_refl _) (fun j _ _ => ⟨fo _ _ (by decide), fo _ _ (by decide)⟩) hl, by omega⟩
        have L3 := lw 3 (by omega) (by omega) P3
        have L4 := lw 4 (by omega) (by omega) P4
        have L5 := lw 5 (by omega) (by omega) P5
        have P' : qp2 (qv h') := ⟨by rw [fo _ _ (by decide)]; exact P0, L3.1, L4.1, L5.1⟩
        have hba : qba (qv h') = qv h 130 17 := by
          have l3 := L3.2
          have l4 := L4.2
          have l5 := L5.2
          unfold qba
          rcases (show k = 3 ∨ k = 4 ∨ k = 5 by omega) with rfl | rfl | rfl
          · rw [fk] at l3 ⊢; omega
          · rw [fk] at l4 ⊢; omega
          · rw [fk] at l5 ⊢; omega
        have hhb : qhb (qv h') = 0 := by
          unfold qhb
          rw [hba, fo _ _ (by decide), Nat.sub_self]
          rfl
        refine qmk ρ aext.rf hE (qallc (qo1 (k := 76) hE (by decide +kernel) (by decide) hr (qg76 _) ?_) (qallc (qo1 (k := 75) hE (by decide +kernel) (by decide) hr (qg75 _) ?_) (qallc (qo1 (k := 77) hE (by decide +kernel) (by decide) hr (qg77 _) ?_) qall0))) (qallc (qo2 (k := 79) hE (by decide +kernel) (by decide) hr (qg79 _) (by decide +kernel)) qall0) (fun a j q1 q2 => ?_)
        · rw [hba, e17, Int32.ofInt_toInt]
          exact ⟨x, x1, rfl⟩
        · rw [hhb]
          exact ⟨_, ai_c hE 0, rfl⟩
        · rw [qbo_t P']
          rw [qbo_t ⟨P0, P3, P4, P5⟩] at g77
          exact g77
        · rw [hF]
          exact qd44b hk a j (qnd (kk := 75) hE (by decide) hr (q1 _ (List.Mem.tail _ (List.Mem.head _)))) (qnd (kk := 76) hE (by decide) hr (q1 _ (List.Mem.head _))) (qnd (kk := 77) hE (by decide) hr (q1 _ (List.Mem.tail _ (List.Mem.tail _ (List.Mem.head _))))) (qnd (kk := 79) hE (by decide) hr (q2 _ (List.Mem.head _)))
    · cases hU
      exact qk144 hk hE hr hF
theorem qk145 {E : List aY} {ρ : List Int} {h h' : zH} {r k : Nat} {z : Int} (hk : 3 ≤ k) (hE : aE qW E ρ) (hr : ρ[r]? = some ((128 : Nat) : Int)) (hF : qv h' = qud (qv h) 145 k z) : aUout qW qG ρ h h' (some (E, [], [(r, 0, 77), (r, 0, 80)])) := by
  refine qmk ρ aext.rf hE qall0 (qallc (qo2 (k := 77) hE (by decide +kernel) (by decide) hr (qg77 _) (by decide +kernel)) (qallc (qo2 (k := 80) hE (by decide +kernel) (by decide) hr (qg80 _) (by decide +kernel)) qall0)) (fun a j _ q2 => ?_)
  rw [hF]
  exact qd45b hk a j (qnd (kk := 77) hE (by decide) hr (q2 _ (List.Mem.head _))) (qnd (kk := 80) hE (by decide) hr (q2 _ (List.Mem.tail _ (List.Mem.head _))))
theorem qUst_ok {E : List aY} {m : aM} {r k : Nat} {q : aK} {v : aV} {o : Option (List aY × aM × List aK)} {ρ : List Int} {h h' : zH} {w : Value} {xi : Int32} (hU : qUst E m r q v = some o) (hE : aE qW E ρ) (hH : aH qW qG ρ m h) (hv : av ρ v w) (hw : rd h' 145 k = some w) (hF : qv h' = qud (qv h) 145 k (qi h' 145 k)) (hxi : ai ρ q.2.1 q.2.2 xi) (hxk : xi.toInt = (k : Int)) (hk : 3 ≤ k) (hk2 : k < 6) : aUout qW qG ρ h h' o := by
  unfold qUst at hU
  split at hU
  · cases hU
  · next s hq =>
    have hr := qmo_ok hE hH m (fun e he => he) hq
    split at hU
    · next n p2 b gb gh hn hp hbb hgb hgh =>
      cases hb : (aveq v (.inl n) && (avb E p2 1 1 && (aveq b gb && avb E gh 1 1))) with
      | false =>
        rw [hb] at hU
        cases hU
        exact qk145 hk hE hr hF
      | true =>
        rw [hb] at hU
        cases hU
        rw [Bool.and_eq_true, Bool.and_eq_true, Bool.and_eq_true] at hb
        obtain ⟨b1, b2, b3, b4⟩ := hb
        obtain ⟨w0, n1, n2, n3⟩ := qamf_c (so := 51) (k0 := 17) hE hH (fun a => qun51) (by decide) (by decide) (by decide) (by decide) hn
        obtain ⟨y, y1, rfl⟩ := n2
        have e17 := n3 y rfl
        rw [aveq_ok b1] at hv
        obtain ⟨x, x1, rfl⟩ := hv
        have exy := x1.inj y1
        subst exy
        have g77 := qamg_g (k := 77) hE hH (by decide) hr (qg77 _) hp
        have g76 := qamg_g (k := 76) hE hH (by decide) hr (qg76 _) hgb
        have g75 := qamg_g (k := 75) hE hH (by decide) hr (qg75 _) hgh
        have P := qp2_of hE g77 b2
        have Pb := qp2_b P
        have f44 : qv h 144 k = qba (qv h) := by
          obtain ⟨j, wt, x', z1, z2, z3, z4, z5⟩ := qamf (so := 65) hE hH (fun a => qun65) (by decide) hbb
          have e := z1.inj hxi
          subst e
          have ej : j = k := by omega
          subst ej
          rw [qrdx (qG_off (by decide) (by decide))] at z4
          rw [aveq_ok b3] at z5
          obtain ⟨s', c', rfl, i1⟩ := av_int g76
          obtain ⟨x2, i2, rfl⟩ := z5
          rw [qv_on (by unfold qpr; simp [Nat.ble_eq]; omega), qi_int z4, i2.inj i1, ai32 (by omega) (by omega)]
        have h1 : qhn (qv h) 64 (qba (qv h)).toNat ((qv h 130 17).toNat - (qba (qv h)).toNat) = some 1 := by
          have q := avb_i hE b4 g75
          unfold qhb at q
          cases hz : qhn (qv h) 64 (qba (qv h)).toNat ((qv h 130 17).toNat - (qba (qv h)).toNat) with
          | none => rw [hz] at q; exact absurd q.1 (by decide)
          | some H =>
            rw [hz] at q
            have hl := qhn_le _ _ hz
            have q : 1 ≤ (Int32.ofInt (H : Int)).toInt ∧ (Int32.ofInt (H : Int)).toInt ≤ 1 := q
            rw [ai32 (by omega) (by omega)] at q
            rw [show H = 1 by omega]
        have fk : qv h' 145 k = qv h 130 17 := by rw [hF, qud_same, qi_int hw, e17]
        have fo : ∀ b j : Nat, ¬ b = 145 → qv h' b j = qv h b j := fun b j hb => by rw [hF, qud_a hb]
        have fn : ∀ j : Nat, ¬ j = k → qv h' 145 j = qv h 145 j := fun j hj => by rw [hF, qud_k hj]
        obtain ⟨P0, P3, P4, P5⟩ := P
        have lw : ∀ i : Nat, 3 ≤ i → i < 6 → (qlw (qv h) 64 (qv h 144 i) (qv h 145 i) (qv h 130 17)) → qlw (qv h') 64 (qv h' 144 i) (qv h' 145 i) (qv h' 130 17) := fun i _ _ hl => by
          rw [fo 144 _ (by decide), fo 130 _ (by decide)]
          by_cases ei : i = k
          · rw [ei, fk, f44]
            refine ⟨by omega, by omega, by omega, fun _ => ?_⟩
            rw [show (qv h 130 17 - qba (qv h)).toNat = (qv h 130 17).toNat - (qba (qv h)).toNat by omega, ← h1]
            exact qhn_c _ (fun j _ => ⟨fo _ _ (by decide), fo _ _ (by decide)⟩)
          · rw [fn i ei]
            exact qlw_m (Int.le_refl _) (fun j _ _ => ⟨fo _ _ (by decide), fo _ _ (by decide)⟩) hl
        have P' : qp2 (qv h') := ⟨by rw [fo _ _ (by decide)]; exact P0, lw 3 (by omega) (by omega) P3, lw 4 (by omega) (by omega) P4, lw 5 (by omega) (by omega) P5⟩
        refine qmk ρ aext.rf hE (qallc (qo1 (k := 77) hE (by decide +kernel) (by decide) hr (qg77 _) ?_) qall0) (qallc (qo2 (k := 80) hE (by decide +kernel) (by decide) hr (qg80 _) (by decide +kernel)) qall0) (fun a j q1 q2 => ?_)
        · rw [qbo_t P']
          rw [qbo_t ⟨P0, P3, P4, P5⟩] at g77
          exact g77
        · rw [hF]
          exact qd45b hk a j (qnd (kk := 77) hE (by decide) hr (q1 _ (List.Mem.head _))) (qnd (kk := 80) hE (by decide) hr (q2 _ (List.Mem.head _)))
    · cases hU
      exact qk145 hk hE hr hF
theorem qr26 (h : zH) : qG 128 26 h = none := rfl
theorem qr27 (h : zH) : qG 128 27 h = none := rfl
theorem qnz_ok {W : aW} {E : List aY} {ρ : List Int} {v : aV} {w : Value} (hE : aE W E ρ) (h : qnz E v = true) (hv : av ρ v w) : ∃ x : Int32, w = .int x ∧ ¬ x.toInt = 0 := by
  unfold qnz at h
  rw [Bool.or_eq_true] at h
  rcases h with h | h
  · obtain ⟨x, e, x1, x2⟩ := avb_ok hE h hv
    exact ⟨x, e, by omega⟩
  · obtain ⟨x, e, x1, x2⟩ := avb_ok hE h hv
    exact ⟨x, e, by omega⟩
theorem qo83 {E : List aY} {ρ : List Int} {h' : zH} {r : Nat} (hE : aE qW E ρ) (hr : ρ[r]? = some ((128 : Nat) : Int)) (hb : qv h' 128 26 = 0 → -1 ≤ qv h' 128 27 ∧ qv h' 128 27 ≤ 21) : ∃ (a j : Nat) (x : Int32), aden ρ (r, 0, 83) a j ∧ a < qW.1.length ∧ (afm qW (asrt qW a)).2.2.1 ≤ j ∧ qG a j h' = some x ∧ avt qW (apl (afm qW (asrt qW a)) j) (.int x) := by
  refine ⟨128, 83, _, qden (k := 83) hE (by decide) hr, by decide +kernel, by decide +kernel, qG_on (qg83 _), ?_⟩
  have ht : apl (afm qW (asrt qW 128)) 83 = (0, -1, 21) := by decide +kernel
  rw [ht]
  refine ⟨_, rfl, ?_⟩
  by_cases q : qv h' 128 26 = 0
  · rw [if_pos q]
    have := hb q
    rw [ai32 (by omega) (by omega)]
    exact this
  · rw [if_neg q]
    decide
theorem qf83 {E : List aY} {ρ : List Int} {h h' : zH} {r : Nat} (hE : aE qW E ρ) (hr : ρ[r]? = some ((128 : Nat) : Int)) (hd : ∀ a k : Nat, ¬ (a = 128 ∧ k = 83) → qgF (qv h') a k = qgF (qv h) a k) : aUout qW qG ρ h h' (some (E ++ [(0, -2147483648, 2147483647)], [((r, 0, 83), .inl (E.length, 0))], [])) := by
  have hb : -2147483648 ≤ (if qv h' 128 26 = 0 then qv h' 128 27 else 0) ∧ (if qv h' 128 26 = 0 then qv h' 128 27 else 0) ≤ 2147483647 := by
    by_cases q : qv h' 128 26 = 0
    · rw [if_pos q]
      exact qv_b h' 128 27
    · rw [if_neg q]
      decide
  have hE2 := hE.push (t := (0, -2147483648, 2147483647)) (z := (if qv h' 128 26 = 0 then qv h' 128 27 else 0)) hb
  have hr2 := (aext.one (ρ := ρ) (if qv h' 128 26 = 0 then qv h' 128 27 else 0)).get hr
  refine qmk _ (aext.one _) hE2 (qallc (qo1 (k := 83) hE2 (by decide +kernel) (by decide) hr2 (qg83 _) ?_) qall0) qall0 (fun a k q1 _ => hd a k (qnd (kk := 83) hE2 (by decide) hr2 (q1 _ List.mem_cons_self)))
  rw [← hE.1]
  exact ⟨_, ⟨_, anew_get _, by rw [Int.add_zero]⟩, rfl⟩
theorem qUso_ok {E : List aY} {m : aM} {r : Nat} {v : aV} {o : Option (List aY × aM × List aK)} {ρ : List Int} {h h' : zH} {w : Value} (hU : qUso E m r v = some o) (hE : aE qW E ρ) (hH : aH qW qG ρ m h) (hr : ρ[r]? = some ((128 : Nat) : Int)) (hv : av ρ v w) (hw : rd h' 128 26 = some w) (hF : qv h' = qud (qv h) 128 26 (qi h' 128 26)) : aUout qW qG ρ h h' o := by
  have hd : ∀ a k : Nat, ¬ (a = 128 ∧ k = 83) → qgF (qv h') a k = qgF (qv h) a k := fun a k q => by
    rw [hF]
    exact qd26 a k q
  unfold qUso at hU
  cases hb : (qnz E v || avb' E (amg m (r, 0, 27)) (-1) 21) with
  | false =>
    rw [hb] at hU
    cases hU
    exact qf83 hE hr hd
  | true =>
    rw [hb] at hU
    cases hU
    refine qmk ρ aext.rf hE qall0 (qallc (qo83 hE hr (fun q => ?_)) qall0) (fun a k _ q2 => hd a k (qnd (kk := 83) hE (by decide) hr (q2 _ List.mem_cons_self)))
    rw [Bool.or_eq_true] at hb
    rcases hb with hb | hb
    · obtain ⟨x, rfl, hx⟩ := qnz_ok hE hb hv
      rw [hF, qud_same, qi_int hw] at q
      exact absurd q hx
    · unfold avb' at hb
      split at hb
      · next k0 hk0 =>
        obtain ⟨w0, p1, p2, p3⟩ := qamg_r (k := 27) hE hH (by decide) hr (qr27 h) (by decide) hk0
        obtain ⟨y, rfl, y1, y2⟩ := avb_ok hE hb p2
        rw [hF, qud_k (by decide), p3 y rfl]
        exact ⟨y1, y2⟩
      · cases hb
theorem qUva_ok {E : List aY} {m : aM} {r : Nat} {v : aV} {o : Option (List aY × aM × List aK)} {ρ : List Int} {h h' : zH} {w : Value} (hU : qUva E m r v = some o) (hE : aE qW E ρ) (hH : aH qW qG ρ m h) (hr : ρ[r]? = some ((128 : Nat) : Int)) (hv : av ρ v w) (hw : rd h' 128 27 = some w) (hF : qv h' = qud (qv h) 128 27 (qi h' 128 27)) : aUout qW qG ρ h h' o := by
  have hd : ∀ a k : Nat, ¬ (a = 128 ∧ k = 83) → qgF (qv h') a k = qgF (qv h) a k := fun a k q => by
    rw [hF]
    exact qd27 a k q
  unfold qUva at hU
  cases hb : (avb E v (-1) 21 || qnz' E (amg m (r, 0, 26))) with
  | false =>
    rw [hb] at hU
    cases hU
    exact qf83 hE hr hd
  | true =>
    rw [hb] at hU
    cases hU
    refine qmk ρ aext.rf hE qall0 (qallc (qo83 hE hr (fun q => ?_)) qall0) (fun a k _ q2 => hd a k (qnd (kk := 83) hE (by decide) hr (q2 _ List.mem_cons_self)))
    rw [Bool.or_eq_true] at hb
    rcases hb with hb | hb
    · obtain ⟨x, rfl, x1, x2⟩ := avb_ok hE hb hv
      rw [hF, qud_same, qi_int hw]
      exact ⟨x1, x2⟩
    · unfold qnz' at hb
      split at hb
      · next k0 hk0 =>
        obtain ⟨w0, p1, p2, p3⟩ := qamg_r (k := 26) hE hH (by decide) hr (qr26 h) (by decide) hk0
        obtain ⟨y, e, y1⟩ := qnz_ok hE hb p2
        rw [hF, qud_k (by decide), p3 y e] at q
        exact absurd q y1
      · cases hb
