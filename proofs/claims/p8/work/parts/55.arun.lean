/-! Runs: steps, calls, ends. -/
def astp (Y : zX) (c nL : Nat) (W : aW) (Pt : aPt) (D : List aD) (i : Instr) (pc : Nat) (S : aS) : Option (List aO) := match astL nL i pc S.1 S.2.1 S.2.2.1 S.2.2.2 with
  | some os => some os
  | none => match astI i pc S.1 S.2.1 S.2.2.1 S.2.2.2 with
    | some os => some os
    | none => astH Y c W Pt D i pc S.1 S.2.1 S.2.2.1 S.2.2.2
theorem zIL {X : zX} {i : Instr} {pc nL : Nat} {ls : zL} {st : List Value} {h : zH} {q : Nat × zL × List Value × zH} (hq : zstL nL i pc ls st h = some q) : zstI X i pc ls st h = none := by
  cases i with
  | iconst n => rfl
  | bipush n => rfl
  | sipush n => rfl
  | lconst n => rfl
  | iload_n k => rfl
  | iload k => rfl
  | lload_n k => rfl
  | lload k => rfl
  | aload_n k => rfl
  | aload k => rfl
  | istore_n k => rfl
  | istore k => rfl
  | lstore_n k => rfl
  | lstore k => rfl
  | astore_n k => rfl
  | astore k => rfl
  | iinc k n => rfl
  | _ => cases hq
theorem zIH {X : zX} {ini : Bool} {c : Nat} {i : Instr} {pc nL : Nat} {ls : zL} {st : List Value} {h : zH} {q : Nat × zL × List Value × zH} (hq : zstH X ini c i pc ls st h = some q) : zstI X i pc ls st h = none ∧ zstL nL i pc ls st h = none := by
  cases i with
  | getfield j => exact ⟨rfl, rfl⟩
  | putfield j => exact ⟨rfl, rfl⟩
  | getstatic j => exact ⟨rfl, rfl⟩
  | ldc j => exact ⟨rfl, rfl⟩
  | ldc_w j => exact ⟨rfl, rfl⟩
  | ldc2_w j => exact ⟨rfl, rfl⟩
  | iaload => exact ⟨rfl, rfl⟩
  | baload => exact ⟨rfl, rfl⟩
  | laload => exact ⟨rfl, rfl⟩
  | aaload => exact ⟨rfl, rfl⟩
  | iastore => exact ⟨rfl, rfl⟩
  | bastore => exact ⟨rfl, rfl⟩
  | lastore => exact ⟨rfl, rfl⟩
  | aastore => exact ⟨rfl, rfl⟩
  | arraylength => exact ⟨rfl, rfl⟩
  | new j => exact ⟨rfl, rfl⟩
  | newarray t => exact ⟨rfl, rfl⟩
  | anewarray j => exact ⟨rfl, rfl⟩
  | _ => cases hq
theorem astp_ok {W : aW} {G : aG} {Pt : aPt} {D : List aD} {h0 : zH} {ρ : List Int} {Y X : zX} {ini : Bool} {c nL : Nat} {i : Instr} {pc : Nat} {S : aS} {os : List aO} {cl : zL} {cst : List Value} {h : zH} (hX : aXX Y X) (hG : aGok W G Pt) (hL : ∀ s : Nat, (afm W s).2.2.1 < 1000000) (hs : astp Y c nL W Pt D i pc S = some os) (hR : aRel W G D h0 ρ S cl cst h) : ∃ (pc' : Nat) (cl' : zL) (cst' : List Value) (h' : zH), zstep X nL ini c i pc cl cst h = some (pc', cl', cst', h') ∧ ∃ S' : aS, (pc', S') ∈ os ∧ ∃ ρ', aext ρ ρ' ∧ aRel W G D h0 ρ' S' cl' cst' h' := by
  unfold astp at hs
  split at hs
  · next os' h1 =>
    cases hs
    obtain ⟨pc', cl', cst', g1, S', g2, ρ', g3, g4⟩ := astL_ok h1 hR
    refine ⟨pc', cl', cst', h, ?_, S', g2, ρ', g3, g4⟩
    unfold zstep
    rw [zIL g1, g1]
  · split at hs
    · next os' h1 =>
      cases hs
      obtain ⟨pc', cst', g1, S', g2, ρ', g3, g4⟩ := astI_ok (X := X) h1 hR
      refine ⟨pc', cl, cst', h, ?_, S', g2, ρ', g3, g4⟩
      unfold zstep
      rw [g1]
    · obtain ⟨pc', cst', h', g1, S', g2, ρ', g3, g4⟩ := astH_ok (ini := ini) hX hG hL hs hR
      refine ⟨pc', cl, cst', h', ?_, S', g2, ρ', g3, g4⟩
      obtain ⟨k1, k2⟩ := zIH (nL := nL) g1
      unfold zstep
      rw [k1, k2]
      exact g1
def azw (r : List aV) : Bool := Nat.ble (r.map acat).sum 8
theorem azw_ok {ρ : List Int} {r : List aV} {cr : List Value} (h : azw r = true) (hr : aSt ρ r cr) : zw8 cr = true := by
  unfold zw8
  rw [hr.cat]
  exact decide_eq_true (able h)
/-- Math's methods -/
def amath (I : zI) (c : Nat) (i : Instr) (E : List aY) (st : List aV) : Option (List (List aY × List aV)) := match i with
  | .invokestatic j => match I c j with
    | some (5, _, _) => match st with
      | .inl (s', c') :: .inl (s, c) :: r => match aiv E s c, aiv E s' c' with
        | some p, some q => bif azw r then some [(E ++ [(0, imx p.1 q.1, imx p.2 q.2)], .inl (E.length, 0) :: r)] else none
        | _, _ => none
      | _ => none
    | some (6, _, _) => match st with
      | .inl (s', c') :: .inl (s, c) :: r => match aiv E s c, aiv E s' c' with
        | some p, some q => bif azw r then some [(E ++ [(0, imn p.1 q.1, imn p.2 q.2)], .inl (E.length, 0) :: r)] else none
        | _, _ => none
      | _ => none
    | some (7, _, _) => match st with
      | .inl (s, c) :: r => match aiv E s c with
        | some p => bif azw r then some [(E ++ [bif ile p.1 (-2147483648) then aFI else (0, 0, imx (-p.1) p.2)], .inl (E.length, 0) :: r)] else none
        | none => none
      | _ => none
    | some (8, _, _) => match st with
      | .inr (.inl _) :: .inr (.inl _) :: r => bif azw r then some [(E ++ [aFL], .inr (.inl E.length) :: r)] else none
      | _ => none
    | some (9, _, _) => match st with
      | .inr (.inl _) :: .inr (.inl _) :: r => bif azw r then some [(E ++ [aFL], .inr (.inl E.length) :: r)] else none
      | _ => none
    | some (10, _, _) => match st with
      | .inr (.inl s) :: r => match alv E s with
        | some p => bif azw r then (bif an0 p then some [(E ++ [(1, 1, 9223372036854775807)], .inr (.inl E.length) :: r), (E ++ [(1, -9223372036854775808, -9223372036854775808)], .inr (.inl E.length) :: r)] else some [(E ++ [aFL], .inr (.inl E.length) :: r)]) else none
        | none => none
      | _ => none
    | _ => none
  | _ => none
theorem amath_ok {W : aW} {I : zI} {c : Nat} {i : Instr} {E : List aY} {st : List aV} {os : List (List aY × List aV)} {ρ : List Int} {cst : List Value} (hs : amath I c i E st = some os) (hE : aE W E ρ) (hst : aSt ρ st cst) : ∃ cst', zobjI I c i cst = some cst' ∧ ∃ o ∈ os, ∃ ρ', aext ρ ρ' ∧ aE W o.1 ρ' ∧ aSt ρ' o.2 cst' := by
  cases i with
  | invokestatic j =>
    dsimp only [amath] at hs
    split at hs
    · next hI =>
      split at hs
      · next s' c' s c0 r =>
        split at hs
        · next p q hp hq =>
          cases hz : azw r with
          | false => rw [hz] at hs; cases hs
          | true =>
            rw [hz] at hs
            cases hs
            obtain ⟨y, cr, rfl, hy, hst⟩ := as1 hst
            obtain ⟨x, cr, rfl, hx, hst⟩ := as1 hst
            have ix := aiv_in hE hp hx
            have iy := aiv_in hE hq hy
            obtain ⟨g1, g2⟩ := anewi hE (if x < y then y else x) (t := (0, imx p.1 q.1, imx p.2 q.2)) (by
              rw [imx_eq, imx_eq]
              split
              · next hh => have := Int32.lt_iff_toInt_lt.mp hh; exact ⟨by omega, by omega⟩
              · next hh => have := mt Int32.lt_iff_toInt_lt.mpr hh; exact ⟨by omega, by omega⟩)
            refine ⟨_, ?_, _, List.mem_cons_self, _, aext.one _, g1, aps g2 (hst.ext (aext.one _))⟩
            simp only [zobjI, hI]
            rw [if_pos (azw_ok hz hst)]
        · cases hs
      · cases hs
    · next hI =>
      split at hs
      · next s' c' s c0 r =>
        split at hs
        · next p q hp hq =>
          cases hz : azw r with
          | false => rw [hz] at hs; cases hs
          | true =>
            rw [hz] at hs
            cases hs
            obtain ⟨y, cr, rfl, hy, hst⟩ := as1 hst
            obtain ⟨x, cr, rfl, hx, hst⟩ := as1 hst
            have ix := aiv_in hE hp hx
            have iy := aiv_in hE hq hy
            obtain ⟨g1, g2⟩ := anewi hE (if y < x then y else x) (t := (0, imn p.1 q.1, imn p.2 q.2)) (by
              rw [imn_eq, imn_eq]
              split
              · next hh => have := Int32.lt_iff_toInt_lt.mp hh; exact ⟨by omega, by omega⟩
              · next hh => have := mt Int32.lt_iff_toInt_lt.mpr hh; exact ⟨by omega, by omega⟩)
            refine ⟨_, ?_, _, List.mem_cons_self, _, aext.one _, g1, aps g2 (hst.ext (aext.one _))⟩
            simp only [zobjI, hI]
            rw [if_pos (azw_ok hz hst)]
        · cases hs
      · cases hs
    · next hI =>
      split at hs
      · next s c0 r =>
        split at hs
        · next p hp =>
          cases hz : azw r with
          | false => rw [hz] at hs; cases hs
          | true =>
            rw [hz] at hs
            cases hs
            obtain ⟨x, cr, rfl, hx, hst⟩ := as1 hst
            have ix := aiv_in hE hp hx
            obtain ⟨g1, g2⟩ := anewi hE (if 0 ≤ x then x else 0 - x) (t := bif ile p.1 (-2147483648) then aFI else (0, 0, imx (-p.1) p.2)) (by
              cases hb : ile p.1 (-2147483648) with
              | true => exact aFI_ok _
              | false =>
                have hb := ile_f hb
                have e0 : (0 : Int32).toInt = 0 := rfl
                show 0 ≤ _ ∧ _ ≤ imx (-p.1) p.2
                rw [imx_eq]
                split
                · next hh => have := Int32.le_iff_toInt_le.mp hh; rw [e0] at this; exact ⟨by omega, by omega⟩
                · next hh =>
                  have := mt Int32.le_iff_toInt_le.mpr hh
                  rw [e0] at this
                  have h9 := ab x
                  rw [aofsub, e0, ai32 (by omega) (by omega)]
                  exact ⟨by omega, by omega⟩)
            refine ⟨_, ?_, _, List.mem_cons_self, _, aext.one _, g1, aps g2 (hst.ext (aext.one _))⟩
            simp only [zobjI, hI]
            rw [if_pos (azw_ok hz hst)]
        · cases hs
      · cases hs
    · next hI =>
      split at hs
      · next s' s r =>
        cases hz : azw r with
        | false => rw [hz] at hs; cases hs
        | true =>
          rw [hz] at hs
          cases hs
          obtain ⟨y, cr, rfl, hy, hst⟩ := asl hst
          obtain ⟨x, cr, rfl, hx, hst⟩ := asl hst
          obtain ⟨g1, g2⟩ := anewl hE (if y < x then x else y) (aFL_ok _)
          refine ⟨_, ?_, _, List.mem_cons_self, _, aext.one _, g1, ⟨_, _, rfl, g2, hst.ext (aext.one _)⟩⟩
          simp only [zobjI, hI]
          rw [if_pos (azw_ok hz hst)]
      · cases hs
    · next hI =>
      split at hs
      · next s' s r =>
        cases hz : azw r with
        | false => rw [hz] at hs; cases hs
        | true =>
          rw [hz] at hs
          cases hs
          obtain ⟨y, cr, rfl, hy, hst⟩ := asl hst
          obtain ⟨x, cr, rfl, hx, hst⟩ := asl hst
          obtain ⟨g1, g2⟩ := anewl hE (if y < x then y else x) (aFL_ok _)
          refine ⟨_, ?_, _, List.mem_cons_self, _, aext.one _, g1, ⟨_, _, rfl, g2, hst.ext (aext.one _)⟩⟩
          simp only [zobjI, hI]
          rw [if_pos (azw_ok hz hst)]
      · cases hs
    · next hI =>
      split at hs
      · next s r =>
        split at hs
        · next p hp =>
          cases hz : azw r with
          | false => rw [hz] at hs; cases hs
          | true =>
            rw [hz] at hs
            dsimp only [cond_true] at hs
            obtain ⟨x, cr, rfl, hx, hst⟩ := asl hst
            obtain ⟨x', e, -, hb⟩ := alv_ok hE hp hx
            cases e
            have hz2 : zobjI I c (.invokestatic j) (.long x :: cr) = some (.long (if 0 < x then x else -x) :: cr) := by
              simp only [zobjI, hI]
              rw [if_pos (azw_ok hz hst)]
            cases h0 : an0 p with
            | false =>
              rw [h0] at hs
              cases hs
              obtain ⟨g1, g2⟩ := anewl hE (if 0 < x then x else -x) (aFL_ok _)
              exact ⟨_, hz2, _, List.mem_cons_self, _, aext.one _, g1, ⟨_, _, rfl, g2, hst.ext (aext.one _)⟩⟩
            | true =>
              rw [h0] at hs
              cases hs
              have hne := an0l h0 hb
              have e0 : (0 : Int64).toInt = 0 := rfl
              have hxb := abl x
              by_cases hp0 : 0 < x
              · have hp1 := Int64.lt_iff_toInt_lt.mp hp0
                rw [e0] at hp1
                obtain ⟨g1, g2⟩ := anewl hE (if 0 < x then x else -x) (t := (1, 1, 9223372036854775807)) (by
                  rw [if_pos hp0]
                  exact ⟨⟨by omega, by omega⟩, by omega, by omega⟩)
                exact ⟨_, hz2, _, List.mem_cons_self, _, aext.one _, g1, ⟨_, _, rfl, g2, hst.ext (aext.one _)⟩⟩
              · have hp1 := mt Int64.lt_iff_toInt_lt.mpr hp0
                rw [e0] at hp1
                have hx0 : x.toInt ≠ 0 := fun q => hne (Int64.toInt_inj.mp (by rw [q]; rfl))
                have en : -x = Int64.ofInt (-x.toInt) := by rw [Int64.ofInt_neg, Int64.ofInt_toInt]
                by_cases hm : x.toInt = -9223372036854775808
                · obtain ⟨g1, g2⟩ := anewl hE (if 0 < x then x else -x) (t := (1, -9223372036854775808, -9223372036854775808)) (by
                    rw [if_neg hp0, en, hm]
                    exact ⟨⟨by decide, by decide⟩, by decide, by decide⟩)
                  exact ⟨_, hz2, _, List.mem_cons_of_mem _ List.mem_cons_self, _, aext.one _, g1, ⟨_, _, rfl, g2, hst.ext (aext.one _)⟩⟩
                · obtain ⟨g1, g2⟩ := anewl hE (if 0 < x then x else -x) (t := (1, 1, 9223372036854775807)) (by
                    rw [if_neg hp0, en, ai64 (by omega) (by omega)]
                    exact ⟨⟨by omega, by omega⟩, by omega, by omega⟩)
                  exact ⟨_, hz2, _, List.mem_cons_self, _, aext.one _, g1, ⟨_, _, rfl, g2, hst.ext (aext.one _)⟩⟩
        · cases hs
      · cases hs
    · cases hs
  | _ => cases hs
/-- a call: method, arguments, what is left of the stack -/
def acal (Y : zX) (I : zI) (mcl : Nat → Nat) (W : aW) (c : Nat) (i : Instr) (E : List aY) (st : List aV) : Option (Nat × List aV × List aV) := match i with
  | .invokevirtual j => match I c j with
    | some (1, mi, n) => match st.drop n with
      | .inr (.inr (.inl r)) :: rest => match E[r]? with
        | some (2, s, _) => bif (Nat.beq (afm W s.toNat).1 (mcl mi) && Nat.beq (afm W s.toNat).2.1 0) && (Nat.ble n st.length && azw rest) then some (mi, .inr (.inr (.inl r)) :: (st.take n).reverse, rest) else none
        | _ => none
      | .inr (.inr (.inr e)) :: rest => bif Nat.beq e 999 then none else (match zxcl Y e with
        | some k => bif Nat.beq k (mcl mi) && (Nat.ble n st.length && azw rest) then some (mi, .inr (.inr (.inr e)) :: (st.take n).reverse, rest) else none
        | none => none)
      | _ => none
    | _ => none
  | .invokestatic j => match I c j with
    | some (2, mi, n) => bif Nat.ble n st.length && azw (st.drop n) then some (mi, (st.take n).reverse, st.drop n) else none
    | _ => none
  | .invokespecial j => match I c j with
    | some (4, mi, n) => match st.drop n with
      | .inr (.inr (.inl r)) :: rest => bif Nat.ble n st.length && azw rest then some (mi, .inr (.inr (.inl r)) :: (st.take n).reverse, rest) else none
      | _ => none
    | _ => none
  | _ => none
theorem acal_ok {W : aW} {Y X : zX} {I : zI} {mcl : Nat → Nat} {c : Nat} {i : Instr} {E : List aY} {st as rest : List aV} {mi : Nat} {ρ : List Int} {cst : List Value} {h : zH} (hX : aXX Y X) (hs : acal Y I mcl W c i E st = some (mi, as, rest)) (hE : aE W E ρ) (hSh : aSh W h) (hst : aSt ρ st cst) : ∃ vs cr, zcall X I mcl c i cst h = some (mi, vs, cr) ∧ aSt ρ as vs ∧ aSt ρ rest cr := by
  have hlen := hst.len
  cases i with
  | invokevirtual j =>
    dsimp only [acal] at hs
    split at hs
    · next mi' n hI =>
      have hd := hst.drop n
      have ht := (hst.take n).rev
      split at hs
      · next r rest' hdr =>
        split at hs
        · next s s' hr =>
          cases hb : ((Nat.beq (afm W s.toNat).1 (mcl mi') && Nat.beq (afm W s.toNat).2.1 0) && (Nat.ble n st.length && azw rest')) with
          | false => rw [hb] at hs; cases hs
          | true =>
            rw [hb] at hs
            cases hs
            simp only [Bool.and_eq_true] at hb
            obtain ⟨⟨b1, b2⟩, b3, b4⟩ := hb
            rw [hdr] at hd
            obtain ⟨a, cr, e1, har, hcr⟩ := asr hd
            obtain ⟨ha, hso⟩ := asort_of hE hr har
            obtain ⟨e, g1, g2⟩ := hSh _ ha
            have e2 : s.toNat = asrt W a := by omega
            rw [e2] at b1 b2
            obtain ⟨fs, rfl, g3⟩ := ash0 g2 (Nat.eq_of_beq_eq_true b2)
            refine ⟨.ref a :: (cst.take n).reverse, cr, ?_, ⟨_, _, rfl, ⟨a, har, rfl⟩, ht⟩, hcr⟩
            simp only [zcall, hI, e1, g1]
            rw [if_pos ⟨Nat.eq_of_beq_eq_true b1, by rw [hlen]; exact able b3, azw_ok b4 hcr⟩]
        · cases hs
      · next e rest' hdr =>
        cases hq : Nat.beq e 999 with
        | true => rw [hq] at hs; cases hs
        | false =>
          rw [hq] at hs
          dsimp only [cond_false] at hs
          split at hs
          · next k hk =>
            cases hb : (Nat.beq k (mcl mi') && (Nat.ble n st.length && azw rest')) with
            | false => rw [hb] at hs; cases hs
            | true =>
              rw [hb] at hs
              cases hs
              simp only [Bool.and_eq_true] at hb
              obtain ⟨b1, b3, b4⟩ := hb
              rw [hdr] at hd
              obtain ⟨w, cr, e1, hw, hcr⟩ := hd
              have hw' := avx hw hq
              subst hw'
              refine ⟨.retAddr e :: (cst.take n).reverse, cr, ?_, ⟨_, _, rfl, hw, ht⟩, hcr⟩
              simp only [zcall, hI, e1]
              rw [if_pos ⟨by rw [← hX.2.2.2.2.2.2.2, hk, Nat.eq_of_beq_eq_true b1], by rw [hlen]; exact able b3, azw_ok b4 hcr⟩]
          · cases hs
      · cases hs
    · cases hs
  | invokestatic j =>
    dsimp only [acal] at hs
    split at hs
    · next mi' n hI =>
      have hd := hst.drop n
      have ht := (hst.take n).rev
      cases hb : (Nat.ble n st.length && azw (st.drop n)) with
      | false => rw [hb] at hs; cases hs
      | true =>
        rw [hb] at hs
        cases hs
        simp only [Bool.and_eq_true] at hb
        refine ⟨(cst.take n).reverse, cst.drop n, ?_, ht, hd⟩
        simp only [zcall, hI]
        rw [if_pos ⟨by rw [hlen]; exact able hb.1, azw_ok hb.2 hd⟩]
    · cases hs
  | invokespecial j =>
    dsimp only [acal] at hs
    split at hs
    · next mi' n hI =>
      have hd := hst.drop n
      have ht := (hst.take n).rev
      split at hs
      · next r rest' hdr =>
        cases hb : (Nat.ble n st.length && azw rest') with
        | false => rw [hb] at hs; cases hs
        | true =>
          rw [hb] at hs
          cases hs
          simp only [Bool.and_eq_true] at hb
          rw [hdr] at hd
          obtain ⟨a, cr, e1, har, hcr⟩ := asr hd
          refine ⟨.ref a :: (cst.take n).reverse, cr, ?_, ⟨_, _, rfl, ⟨a, har, rfl⟩, ht⟩, hcr⟩
          simp only [zcall, hI, e1]
          rw [if_pos ⟨by rw [hlen]; exact able hb.1, azw_ok hb.2 hcr⟩]
      · cases hs
    · cases hs
  | _ => cases hs
