theorem aofl_ok {W : aW} {s : Int} {ci k : Nat} (h : aofl W s ci k = true) : (afm W s.toNat).1 = ci ∧ (afm W s.toNat).2.1 = 0 ∧ k < (afm W s.toNat).2.2.1 ∧ k < apn (afm W s.toNat) := by
  unfold aofl at h
  simp only [Bool.and_eq_true] at h
  exact ⟨Nat.eq_of_beq_eq_true h.1, Nat.eq_of_beq_eq_true h.2.1, able h.2.2.1, able h.2.2.2⟩
theorem aro_ok {W : aW} {s : Int} {tag kd : Nat} {p : Int × Int} {x : Int32} (h : aro W s tag kd p = true) (hx : p.1 ≤ x.toInt ∧ x.toInt ≤ p.2) (hkd : kd ≠ 0) : (afm W s.toNat).1 = tag ∧ (afm W s.toNat).2.1 = kd ∧ 0 ≤ p.1 ∧ x.toInt = (x.toInt.toNat : Int) ∧ x.toInt.toNat < (afm W s.toNat).2.2.1 ∧ x.toInt.toNat < apn (afm W s.toNat) ∧ zidx x (afm W s.toNat).2.2.1 = true ∧ x.toNatClampNeg = x.toInt.toNat := by
  unfold aro at h
  simp only [Bool.and_eq_true, Bool.not_eq_true'] at h
  obtain ⟨h1, h2, h3, h4⟩ := h
  have h3 := ile_iff.mp h3
  have h4 := ile_f h4
  have e2 := Nat.eq_of_beq_eq_true h2
  have hc : x.toNatClampNeg = x.toInt.toNat := rfl
  refine ⟨Nat.eq_of_beq_eq_true h1, e2, h3, by omega, by omega, ?_, ?_, hc⟩
  · unfold apn
    rw [e2]
    cases kd with
    | zero => exact absurd rfl hkd
    | succ n => show _ < (afm W s.toNat).2.2.1; omega
  · unfold zidx
    rw [hc, Bool.and_eq_true]
    refine ⟨?_, decide_eq_true (by omega)⟩
    rw [Bool.not_eq_true', decide_eq_false_iff_not]
    intro q
    have := Int32.lt_iff_toInt_lt.mp q
    rw [show (0 : Int32).toInt = 0 from rfl] at this
    omega
theorem axi_ok {p : Int × Int} {x : Int32} {n : Nat} (h : (ile 0 p.1 && !ile (n : Int) p.2) = true) (hx : p.1 ≤ x.toInt ∧ x.toInt ≤ p.2) : zidx x n = true ∧ x.toNatClampNeg = x.toInt.toNat := by
  simp only [Bool.and_eq_true, Bool.not_eq_true'] at h
  have h3 := ile_iff.mp h.1
  have h4 := ile_f h.2
  have hc : x.toNatClampNeg = x.toInt.toNat := rfl
  refine ⟨?_, hc⟩
  unfold zidx
  rw [hc, Bool.and_eq_true]
  refine ⟨?_, decide_eq_true (by omega)⟩
  rw [Bool.not_eq_true', decide_eq_false_iff_not]
  intro q
  have := Int32.lt_iff_toInt_lt.mp q
  rw [show (0 : Int32).toInt = 0 from rfl] at this
  omega
theorem aix_den {W : aW} {E : List aY} {ρ : List Int} {r a si : Nat} {ci : Int} {p : Int × Int} {x : Int32} (hE : aE W E ρ) (hp : aiv E si ci = some p) (hx : ai ρ si ci x) (har : ρ[r]? = some (a : Int)) (h : x.toInt = (x.toInt.toNat : Int)) : aden ρ (r, aix si ci p) a x.toInt.toNat := ⟨har, x, aix_ok hE hp hx, h⟩
theorem agetD {α : Type} {l : List α} {k : Nat} {d : α} (h : k < l.length) : l[k]? = some (l.getD k d) := by
  rw [List.getD_eq_getElem?_getD, List.getElem?_eq_getElem h]
  rfl
theorem aden0 {W : aW} {E : List aY} {ρ : List Int} {r a k : Nat} (hE : aE W E ρ) (hk : k < 1000000) (har : ρ[r]? = some (a : Int)) : aden ρ (r, 0, (k : Int)) a k := ⟨har, Int32.ofInt k, ai_c hE _, ai32 (by omega) (by omega)⟩
theorem aland1 {x : Int32} (h : x.toInt = 0 ∨ x.toInt = 1) : x &&& 1 = x := by
  rcases h with q | q
  · have e : x = 0 := Int32.toInt_inj.mp q
    subst e
    rfl
  · have e : x = 1 := Int32.toInt_inj.mp q
    subst e
    rfl
set_option maxHeartbeats 4000000 in
theorem astH_ok {W : aW} {G : aG} {Pt : aPt} {D : List aD} {h0 : zH} {ρ : List Int} {Y X : zX} {ini : Bool} {c : Nat} {i : Instr} {pc : Nat} {E : List aY} {ls : aLs} {st : List aV} {m : aM} {os : List aO} {cl : zL} {cst : List Value} {h : zH} (hX : aXX Y X) (hG : aGok W G Pt) (hL : ∀ s : Nat, (afm W s).2.2.1 < 1000000) (hs : astH Y c W Pt D i pc E ls st m = some os) (hR : aRel W G D h0 ρ (E, ls, st, m) cl cst h) : aGoalH W G D h0 ρ X ini c i pc os cl cst h := by
  have hE : aE W E ρ := hR.1
  have hst : aSt ρ st cst := hR.2.2.1
  have hSh : aSh W h := hR.2.2.2.1.1
  obtain ⟨x1, x2, x3, x4, x5, x6, x7, x8⟩ := hX
  have push : ∀ {i : Instr} {pc' : Nat} {a : aV} {v : Value} {rest : List aV} {cr : List Value}, aSt ρ rest cr → av ρ a v → zstH X ini c i pc cl cst h = some (pc', cl, v :: cr, h) → aGoalH W G D h0 ρ X ini c i pc [(pc', E, ls, a :: rest, m)] cl cst h := fun hr hv hz => ⟨_, _, _, hz, _, List.mem_cons_self, ρ, aext.rf, hR.1, hR.2.1, ⟨_, _, rfl, hv, hr⟩, hR.2.2.2.1, hR.2.2.2.2⟩
  have cell : ∀ {r a : Nat} {s s' : Int}, E[r]? = some (2, s, s') → ρ[r]? = some (a : Int) → ∃ e : zE, h[a]? = some e ∧ ash (afm W s.toNat) e := fun hr har => by
    obtain ⟨ha, rfl⟩ := asort_of hE hr har
    exact hSh _ ha
  cases i with
  | getfield j =>
    dsimp only [astH] at hs
    split at hs
    · next r rest =>
      split at hs
      · next ci k hf =>
        split at hs
        · next s s' hr =>
          cases hb : aofl W s ci k with
          | false => rw [hb] at hs; cases hs
          | true =>
            rw [hb] at hs
            obtain ⟨b1, b2, b3, b4⟩ := aofl_ok hb
            obtain ⟨a, cr, rfl, har, hst⟩ := asr hst
            obtain ⟨e, g1, g2⟩ := cell hr har
            obtain ⟨fs, rfl, g3⟩ := ash0 g2 b2
            have hk := hL s.toNat
            refine ardo_ok hs hR hG hr har (aden0 hE (by omega) har) b3 b4 (by omega) (by omega) (by omega) hst (fun v hv => ?_)
            have hv' : fs[k]? = some v := by
              unfold rd at hv
              rw [g1] at hv
              exact hv
            dsimp only [zstH]
            rw [← x1, hf, g1]
            dsimp only
            rw [hv']
            dsimp only
            rw [if_pos b1]
        · cases hs
      · cases hs
    · next e rest =>
      cases hb : Nat.beq e 999 with
      | true => rw [hb] at hs; cases hs
      | false =>
        rw [hb] at hs
        dsimp only [cond_false] at hs
        split at hs
        · next v hv =>
          split at hs
          · next a ha =>
            cases hs
            obtain ⟨w, cr, rfl, hw, hst⟩ := hst
            rw [avx hw hb] at push ⊢
            refine push hst (aconv_ok hE ha) ?_
            dsimp only [zstH]
            rw [← x3, hv]
          · cases hs
        · cases hs
    · cases hs
  | putfield j =>
    dsimp only [astH] at hs
    split at hs
    · next b r rest =>
      split at hs
      · next ci k hf =>
        split at hs
        · next s s' hr =>
          cases hb : (aofl W s ci k && (!zfin Y ci k && afty E (zty Y ci k) b)) with
          | false => rw [hb] at hs; cases hs
          | true =>
            rw [hb] at hs
            simp only [Bool.and_eq_true, Bool.not_eq_true'] at hb
            obtain ⟨b1, b2, b3, b4⟩ := aofl_ok hb.1
            obtain ⟨v, cr, rfl, hv, hst⟩ := hst
            obtain ⟨a, cr, rfl, har, hst⟩ := asr hst
            obtain ⟨e, g1, g2⟩ := cell hr har
            obtain ⟨fs, rfl, g3⟩ := ash0 g2 b2
            have hk := hL s.toNat
            obtain ⟨f1, f2⟩ := afty_ok hE hb.2.2 hv
            refine awro_ok (e := ((afm W s.toNat).1, .inr (.inr (.inr fs)))) (e' := (ci, .inr (.inr (.inr (fs.set k v))))) hs hR hG hr har (aden0 hE (by omega) har) b3 b4 (by omega) (by omega) hst hv g1 ?_ ?_ (fun j hj => ?_) ?_
            · refine ⟨b1.symm, ?_⟩
              rw [b2]
              show (fs.set k v).length = _
              rw [List.length_set, g3]
            · show (fs.set k v)[k]? = some v
              exact List.getElem?_set_self (by omega)
            · show (fs.set k v)[j]? = fs[j]?
              exact List.getElem?_set_ne (Ne.symm hj)
            · have hp : zputs X ini c ci k v = true := by
                unfold zputs
                rw [← x6, hb.2.1, ← x5]
                simp only [Bool.not_false, Bool.true_or, Bool.true_and, Bool.and_eq_true]
                exact ⟨decide_eq_true f1, f2⟩
              dsimp only [zstH]
              rw [← x1, hf, g1]
              dsimp only
              rw [if_pos ⟨b1, by omega, hp⟩]
        · cases hs
      · cases hs
    · cases hs
  | getstatic j =>
    dsimp only [astH] at hs
    split at hs
    · next k hk =>
      cases hs
      rcases x7 _ _ _ hk with ⟨e, w, g1, g2⟩ | g1
      · cases e
        refine push hst (a := .inr (.inr (.inr 999))) (v := w) g2 ?_
        dsimp only [zstH]
        rw [g1]
      · cases hb : Nat.beq k 999 with
        | false =>
          refine push hst (avx_mk hb) ?_
          dsimp only [zstH]
          rw [g1]
        | true =>
          have e := Nat.eq_of_beq_eq_true hb
          subst e
          refine push hst (a := .inr (.inr (.inr 999))) (v := .retAddr 999) (Or.inr ⟨999, rfl⟩) ?_
          dsimp only [zstH]
          rw [g1]
    · next x hk =>
      cases hs
      rcases x7 _ _ _ hk with ⟨e, w, g1, g2⟩ | g1
      · cases e
      · refine push hst (aconv_ok (v := .int x) hE rfl) ?_
        dsimp only [zstH]
        rw [g1]
    · cases hs
  | ldc j =>
    dsimp only [astH] at hs
    split at hs
    · next k hk =>
      cases hb : Nat.beq k 999 with
      | true => rw [hb] at hs; cases hs
      | false =>
        rw [hb] at hs
        cases hs
        refine push hst (avx_mk hb) ?_
        dsimp only [zstH]
        rw [← x2, hk]
    · next x hk =>
      cases hs
      refine push hst (aconv_ok (v := .int x) hE rfl) ?_
      dsimp only [zstH]
      rw [← x2, hk]
    · cases hs
  | ldc_w j =>
    dsimp only [astH] at hs
    split at hs
    · next x hk =>
      cases hs
      refine push hst (aconv_ok (v := .int x) hE rfl) ?_
      dsimp only [zstH]
      rw [← x2, hk]
    · cases hs
  | ldc2_w j =>
    dsimp only [astH] at hs
    split at hs
    · next x hk =>
      cases hs
      obtain ⟨g1, g2⟩ := anewl hE x (t := (1, x.toInt, x.toInt)) ⟨⟨Int.le_refl _, Int.le_refl _⟩, abl x⟩
      refine ⟨_, .long x :: cst, h, ?_, _, List.mem_cons_self, _, aext.one _, hR.mk2 (aext.one _) g1 ⟨_, _, rfl, g2, hst.ext (aext.one _)⟩⟩
      dsimp only [zstH]
      rw [← x2, hk]
    · cases hs
  | iaload =>
    dsimp only [astH] at hs
    split at hs
    · next si ci r rest =>
      split at hs
      · next s s' p hr hp =>
        cases hb : aro W s 0 1 p with
        | false => rw [hb] at hs; cases hs
        | true =>
          rw [hb] at hs
          obtain ⟨x, cr, rfl, hx, hst⟩ := as1 hst
          obtain ⟨a, cr, rfl, har, hst⟩ := asr hst
          have hxp := aiv_in hE hp hx
          obtain ⟨b1, b2, b3, b4, b5, b6, b7, b8⟩ := aro_ok hb hxp (by decide)
          obtain ⟨e, g1, g2⟩ := cell hr har
          obtain ⟨l, rfl, g3⟩ := ash1 g2 (Or.inl b2)
          refine ardo_ok hs hR hG hr har (aix_den hE hp hx har b4) b5 b6 b3 (by omega) (by omega) hst (fun v hv => ?_)
          have hv' : v = .int (l.getD x.toInt.toNat 0) := by
            have hv2 : (l[x.toInt.toNat]?.map Value.int) = some v := by
              unfold rd at hv
              rw [g1] at hv
              exact hv
            rw [agetD (l := l) (d := 0) (by omega)] at hv2
            exact (Option.some.inj hv2).symm
          rw [b1] at g1
          dsimp only [zstH]
          rw [g1]
          show (if zidx x l.length = true then _ else none) = _
          rw [g3, b7, if_pos rfl, b8, hv']
      · cases hs
    · next si ci e rest =>
      cases hb : Nat.beq e 999 with
      | true => rw [hb] at hs; cases hs
      | false =>
        rw [hb] at hs
        dsimp only [cond_false] at hs
        split at hs
        · next l p hl hp =>
          cases h1 : (ile 0 p.1 && !ile (l.length : Int) p.2) with
          | false => rw [h1] at hs; cases hs
          | true =>
            rw [h1] at hs
            obtain ⟨x, cr, rfl, hx, hst⟩ := as1 hst
            obtain ⟨w, cr, rfl, hw, hrs⟩ := hst
            have hw' := avx hw hb
            subst hw'
            have hxp := aiv_in hE hp hx
            obtain ⟨c1, c2⟩ := axi_ok h1 hxp
            have hz : zstH X ini c .iaload pc cl (.int x :: .retAddr e :: cr) h = some (pc + 1, cl, .int (l.getD x.toInt.toNat 0) :: cr, h) := by
              dsimp only [zstH]
              rw [x4 _ _ hl]
              dsimp only
              rw [c1, if_pos rfl, c2]
            dsimp only [cond_true] at hs
            cases h2 : ieq p.1 p.2 with
            | true =>
              rw [h2] at hs
              cases hs
              obtain ⟨-, e2⟩ := ais h2 hxp
              rw [e2] at hz
              exact push hrs (aconv_ok (v := .int (l.getD p.1.toNat 0)) hE rfl) hz
            | false =>
              rw [h2] at hs
              cases hs
              obtain ⟨g1, g2⟩ := anewi hE (l.getD x.toInt.toNat 0) (aFI_ok _)
              exact ⟨_, _, h, hz, _, List.mem_cons_self, _, aext.one _, hR.mk2 (aext.one _) g1 (aps g2 (hrs.ext (aext.one _)))⟩
        · cases hs
    · cases hs
  | baload =>
    dsimp only [astH] at hs
    split at hs
    · next si ci r rest =>
      split at hs
      · next s s' p hr hp =>
        cases hb : aro W s 2 2 p with
        | false => rw [hb] at hs; cases hs
        | true =>
          rw [hb] at hs
          obtain ⟨x, cr, rfl, hx, hst⟩ := as1 hst
          obtain ⟨a, cr, rfl, har, hst⟩ := asr hst
          have hxp := aiv_in hE hp hx
          obtain ⟨b1, b2, b3, b4, b5, b6, b7, b8⟩ := aro_ok hb hxp (by decide)
          obtain ⟨e, g1, g2⟩ := cell hr har
          obtain ⟨l, rfl, g3⟩ := ash1 g2 (Or.inr b2)
          refine ardo_ok hs hR hG hr har (aix_den hE hp hx har b4) b5 b6 b3 (by omega) (by omega) hst (fun v hv => ?_)
          have hv' : v = .int (l.getD x.toInt.toNat 0) := by
            have hv2 : (l[x.toInt.toNat]?.map Value.int) = some v := by
              unfold rd at hv
              rw [g1] at hv
              exact hv
            rw [agetD (l := l) (d := 0) (by omega)] at hv2
            exact (Option.some.inj hv2).symm
          rw [b1] at g1
          dsimp only [zstH]
          rw [g1]
          show (if zidx x l.length = true then _ else none) = _
          rw [g3, b7, if_pos rfl, b8, hv']
      · cases hs
    · next si ci e rest =>
      cases hb : Nat.beq e 999 with
      | true => rw [hb] at hs; cases hs
      | false =>
        rw [hb] at hs
        dsimp only [cond_false] at hs
        split at hs
        · next l p hl hp =>
          cases h1 : (ile 0 p.1 && !ile (l.length : Int) p.2) with
          | false => rw [h1] at hs; cases hs
          | true =>
            rw [h1] at hs
            obtain ⟨x, cr, rfl, hx, hst⟩ := as1 hst
            obtain ⟨w, cr, rfl, hw, hrs⟩ := hst
            have hw' := avx hw hb
            subst hw'
            have hxp := aiv_in hE hp hx
            obtain ⟨c1, c2⟩ := axi_ok h1 hxp
            have hz : zstH X ini c .baload pc cl (.int x :: .retAddr e :: cr) h = some (pc + 1, cl, .int (l.getD x.toInt.toNat 0) :: cr, h) := by
              dsimp only [zstH]
              rw [x4 _ _ hl]
              dsimp only
              rw [c1, if_pos rfl, c2]
            dsimp only [cond_true] at hs
            cases h2 : ieq p.1 p.2 with
            | true =>
              rw [h2] at hs
              cases hs
              obtain ⟨-, e2⟩ := ais h2 hxp
              rw [e2] at hz
              exact push hrs (aconv_ok (v := .int (l.getD p.1.toNat 0)) hE rfl) hz
            | false =>
              rw [h2] at hs
              cases hs
              obtain ⟨g1, g2⟩ := anewi hE (l.getD x.toInt.toNat 0) (aFI_ok _)
              exact ⟨_, _, h, hz, _, List.mem_cons_self, _, aext.one _, hR.mk2 (aext.one _) g1 (aps g2 (hrs.ext (aext.one _)))⟩
        · cases hs
    · cases hs
  | laload =>
    dsimp only [astH] at hs
    split at hs
    · next si ci r rest =>
      split at hs
      · next s s' p hr hp =>
        cases hb : aro W s 1 3 p with
        | false => rw [hb] at hs; cases hs
        | true =>
          rw [hb] at hs
          obtain ⟨x, cr, rfl, hx, hst⟩ := as1 hst
          obtain ⟨a, cr, rfl, har, hst⟩ := asr hst
          have hxp := aiv_in hE hp hx
          obtain ⟨b1, b2, b3, b4, b5, b6, b7, b8⟩ := aro_ok hb hxp (by decide)
          obtain ⟨e, g1, g2⟩ := cell hr har
          obtain ⟨l, rfl, g3⟩ := ash3 g2 b2
          refine ardo_ok hs hR hG hr har (aix_den hE hp hx har b4) b5 b6 b3 (by omega) (by omega) hst (fun v hv => ?_)
          have hv' : v = .long (l.getD x.toInt.toNat 0) := by
            have hv2 : (l[x.toInt.toNat]?.map Value.long) = some v := by
              unfold rd at hv
              rw [g1] at hv
              exact hv
            rw [agetD (l := l) (d := 0) (by omega)] at hv2
            exact (Option.some.inj hv2).symm
          rw [b1] at g1
          dsimp only [zstH]
          rw [g1]
          show (if zidx x l.length = true then _ else none) = _
          rw [g3, b7, if_pos rfl, b8, hv']
      · cases hs
    · cases hs
  | aaload =>
    dsimp only [astH] at hs
    split at hs
    · next si ci r rest =>
      split at hs
      · next s s' p hr hp =>
        cases hb : aro W s 3 4 p with
        | false => rw [hb] at hs; cases hs
        | true =>
          rw [hb] at hs
          obtain ⟨x, cr, rfl, hx, hst⟩ := as1 hst
          obtain ⟨a, cr, rfl, har, hst⟩ := asr hst
          have hxp := aiv_in hE hp hx
          obtain ⟨b1, b2, b3, b4, b5, b6, b7, b8⟩ := aro_ok hb hxp (by decide)
          obtain ⟨e, g1, g2⟩ := cell hr har
          obtain ⟨l, rfl, g3⟩ := ash4 g2 b2
          refine ardo_ok hs hR hG hr har (aix_den hE hp hx har b4) b5 b6 b3 (by omega) (by omega) hst (fun v hv => ?_)
          have hv' : v = zrv (l.getD x.toInt.toNat none) := by
            have hv2 : (l[x.toInt.toNat]?.map zrv) = some v := by
              unfold rd at hv
              rw [g1] at hv
              exact hv
            rw [agetD (l := l) (d := none) (by omega)] at hv2
            exact (Option.some.inj hv2).symm
          rw [b1] at g1
          dsimp only [zstH]
          rw [g1]
          show (if zidx x l.length = true then _ else none) = _
          rw [g3, b7, if_pos rfl, b8, hv']
      · cases hs
    · cases hs
  | iastore =>
    dsimp only [astH] at hs
    split at hs
    · next b si ci r rest =>
      obtain ⟨sv, cv⟩ := b
      split at hs
      · next s s' p hr hp =>
        cases hb : aro W s 0 1 p with
        | false => rw [hb] at hs; cases hs
        | true =>
          rw [hb] at hs
          obtain ⟨y, cr, rfl, hy, hst⟩ := as1 hst
          obtain ⟨x, cr, rfl, hx, hst⟩ := as1 hst
          obtain ⟨a, cr, rfl, har, hst⟩ := asr hst
          have hxp := aiv_in hE hp hx
          obtain ⟨b1, b2, b3, b4, b5, b6, b7, b8⟩ := aro_ok hb hxp (by decide)
          obtain ⟨e, g1, g2⟩ := cell hr har
          obtain ⟨l, rfl, g3⟩ := ash1 g2 (Or.inl b2)
          refine awro_ok (e := ((afm W s.toNat).1, .inl l)) (e' := (0, .inl (l.set x.toInt.toNat y))) hs hR hG hr har (aix_den hE hp hx har b4) b5 b6 (by omega) (by omega) hst ⟨y, hy, rfl⟩ g1 ?_ ?_ (fun j hj => ?_) ?_
          · refine ⟨b1.symm, ?_⟩
            rw [b2]
            show (l.set x.toInt.toNat y).length = _
            rw [List.length_set, g3]
          · show ((l.set x.toInt.toNat y)[x.toInt.toNat]?.map Value.int) = some (.int y)
            rw [List.getElem?_set_self (by omega)]
            rfl
          · show ((l.set x.toInt.toNat y)[j]?.map Value.int) = (l[j]?.map Value.int)
            rw [List.getElem?_set_ne (Ne.symm hj)]
          · rw [b1] at g1
            dsimp only [zstH]
            rw [g1]
            show (if zidx x l.length = true then _ else none) = _
            rw [g3, b7, if_pos rfl, b8]
      · cases hs
    · cases hs
  | bastore =>
    dsimp only [astH] at hs
    split at hs
    · next sv cv si ci r rest =>
      split at hs
      · next s s' p hr hp =>
        cases hb : (aro W s 2 2 p && afty E .boolean (.inl (sv, cv))) with
        | false => rw [hb] at hs; cases hs
        | true =>
          rw [hb] at hs
          rw [Bool.and_eq_true] at hb
          obtain ⟨hb, hbo⟩ := hb
          obtain ⟨y, cr, rfl, hy, hst⟩ := as1 hst
          obtain ⟨x, cr, rfl, hx, hst⟩ := as1 hst
          obtain ⟨a, cr, rfl, har, hst⟩ := asr hst
          have hxp := aiv_in hE hp hx
          obtain ⟨b1, b2, b3, b4, b5, b6, b7, b8⟩ := aro_ok hb hxp (by decide)
          obtain ⟨e, g1, g2⟩ := cell hr har
          obtain ⟨l, rfl, g3⟩ := ash1 g2 (Or.inr b2)
          have hy1 : y &&& 1 = y := by
            have := (afty_ok (t := .boolean) hE hbo (v := .int y) ⟨y, hy, rfl⟩).1
            have h9 : Value.int (y &&& 1) = Value.int y := this
            injection h9
          refine awro_ok (e := ((afm W s.toNat).1, .inl l)) (e' := (2, .inl (l.set x.toInt.toNat y))) hs hR hG hr har (aix_den hE hp hx har b4) b5 b6 (by omega) (by omega) hst ⟨y, hy, rfl⟩ g1 ?_ ?_ (fun j hj => ?_) ?_
          · refine ⟨b1.symm, ?_⟩
            rw [b2]
            show (l.set x.toInt.toNat y).length = _
            rw [List.length_set, g3]
          · show ((l.set x.toInt.toNat y)[x.toInt.toNat]?.map Value.int) = some (.int y)
            rw [List.getElem?_set_self (by omega)]
            rfl
          · show ((l.set x.toInt.toNat y)[j]?.map Value.int) = (l[j]?.map Value.int)
            rw [List.getElem?_set_ne (Ne.symm hj)]
          · rw [b1] at g1
            dsimp only [zstH]
            rw [g1]
            show (if zidx x l.length = true then _ else none) = _
            rw [g3, b7, if_pos rfl, b8, hy1]
      · cases hs
    · cases hs
  | lastore =>
    dsimp only [astH] at hs
    split at hs
    · next sv si ci r rest =>
      split at hs
      · next s s' p hr hp =>
        cases hb : aro W s 1 3 p with
        | false => rw [hb] at hs; cases hs
        | true =>
          rw [hb] at hs
          obtain ⟨y, cr, rfl, hy, hst⟩ := asl hst
          obtain ⟨x, cr, rfl, hx, hst⟩ := as1 hst
          obtain ⟨a, cr, rfl, har, hst⟩ := asr hst
          have hxp := aiv_in hE hp hx
          obtain ⟨b1, b2, b3, b4, b5, b6, b7, b8⟩ := aro_ok hb hxp (by decide)
          obtain ⟨e, g1, g2⟩ := cell hr har
          obtain ⟨l, rfl, g3⟩ := ash3 g2 b2
          refine awro_ok (e := ((afm W s.toNat).1, .inr (.inl l))) (e' := (1, .inr (.inl (l.set x.toInt.toNat y)))) hs hR hG hr har (aix_den hE hp hx har b4) b5 b6 (by omega) (by omega) hst hy g1 ?_ ?_ (fun j hj => ?_) ?_
          · refine ⟨b1.symm, ?_⟩
            rw [b2]
            show (l.set x.toInt.toNat y).length = _
            rw [List.length_set, g3]
          · show ((l.set x.toInt.toNat y)[x.toInt.toNat]?.map Value.long) = some (.long y)
            rw [List.getElem?_set_self (by omega)]
            rfl
          · show ((l.set x.toInt.toNat y)[j]?.map Value.long) = (l[j]?.map Value.long)
            rw [List.getElem?_set_ne (Ne.symm hj)]
          · rw [b1] at g1
            dsimp only [zstH]
            rw [g1]
            show (if zidx x l.length = true then _ else none) = _
            rw [g3, b7, if_pos rfl, b8]
      · cases hs
    · cases hs
  | arraylength =>
    dsimp only [astH] at hs
    split at hs
    · next r rest =>
      split at hs
      · next s s' hr =>
        obtain ⟨a, cr, rfl, har, hst⟩ := asr hst
        obtain ⟨e, g1, g2⟩ := cell hr har
        have hk := hL s.toNat
        have fin : zstH X ini c .arraylength pc cl (.ref a :: cr) h = some (pc + 1, cl, .int (Int32.ofNat (afm W s.toNat).2.2.1) :: cr, h) → aGoalH W G D h0 ρ X ini c .arraylength pc [(pc + 1, E, ls, .inl (0, ((afm W s.toNat).2.2.1 : Int)) :: rest, m)] cl (.ref a :: cr) h := fun hz => by
          refine push hst ⟨_, ?_, rfl⟩ hz
          exact ai_c hE _
        cases hb : ((Nat.beq (afm W s.toNat).1 0 && Nat.beq (afm W s.toNat).2.1 1) || ((Nat.beq (afm W s.toNat).1 2 && Nat.beq (afm W s.toNat).2.1 2) || ((Nat.beq (afm W s.toNat).1 1 && Nat.beq (afm W s.toNat).2.1 3) || (Nat.beq (afm W s.toNat).1 3 && Nat.beq (afm W s.toNat).2.1 4)))) with
        | false => rw [hb] at hs; cases hs
        | true =>
          rw [hb] at hs
          cases hs
          simp only [Bool.or_eq_true, Bool.and_eq_true] at hb
          refine fin ?_
          rcases hb with ⟨q1, q2⟩ | ⟨q1, q2⟩ | ⟨q1, q2⟩ | ⟨q1, q2⟩
          · obtain ⟨l, rfl, g3⟩ := ash1 g2 (Or.inl (Nat.eq_of_beq_eq_true q2))
            rw [Nat.eq_of_beq_eq_true q1] at g1
            dsimp only [zstH]
            rw [g1]
            show some (pc + 1, cl, Value.int (Int32.ofNat l.length) :: cr, h) = _
            rw [g3]
          · obtain ⟨l, rfl, g3⟩ := ash1 g2 (Or.inr (Nat.eq_of_beq_eq_true q2))
            rw [Nat.eq_of_beq_eq_true q1] at g1
            dsimp only [zstH]
            rw [g1]
            show some (pc + 1, cl, Value.int (Int32.ofNat l.length) :: cr, h) = _
            rw [g3]
          · obtain ⟨l, rfl, g3⟩ := ash3 g2 (Nat.eq_of_beq_eq_true q2)
            rw [Nat.eq_of_beq_eq_true q1] at g1
            dsimp only [zstH]
            rw [g1]
            show some (pc + 1, cl, Value.int (Int32.ofNat l.length) :: cr, h) = _
            rw [g3]
          · obtain ⟨l, rfl, g3⟩ := ash4 g2 (Nat.eq_of_beq_eq_true q2)
            rw [Nat.eq_of_beq_eq_true q1] at g1
            dsimp only [zstH]
            rw [g1]
            show some (pc + 1, cl, Value.int (Int32.ofNat l.length) :: cr, h) = _
            rw [g3]
      · cases hs
    · next e rest =>
      cases hb : Nat.beq e 999 with
      | true => rw [hb] at hs; cases hs
      | false =>
        rw [hb] at hs
        dsimp only [cond_false] at hs
        split at hs
        · next b l hl =>
          cases hs
          obtain ⟨w, cr, rfl, hw, hrs⟩ := hst
          have hw' := avx hw hb
          subst hw'
          refine push hrs ⟨Int32.ofNat l.length, ai_c hE _, rfl⟩ ?_
          dsimp only [zstH]
          rw [x4 _ _ hl]
        · cases hs
    · cases hs
  | _ => cases hs
