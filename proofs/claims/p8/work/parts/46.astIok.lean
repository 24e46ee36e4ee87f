theorem as1 {ρ : List Int} {s : Nat} {c : Int} {r : List aV} {cst : List Value} (h : aSt ρ (.inl (s, c) :: r) cst) : ∃ (x : Int32) (cr : List Value), cst = .int x :: cr ∧ ai ρ s c x ∧ aSt ρ r cr := by
  obtain ⟨b, cr, rfl, ⟨x, h1, rfl⟩, h2⟩ := h
  exact ⟨x, cr, rfl, h1, h2⟩
theorem asl {ρ : List Int} {s : Nat} {r : List aV} {cst : List Value} (h : aSt ρ (.inr (.inl s) :: r) cst) : ∃ (x : Int64) (cr : List Value), cst = .long x :: cr ∧ av ρ (.inr (.inl s)) (.long x) ∧ aSt ρ r cr := by
  obtain ⟨b, cr, rfl, h1, h2⟩ := h
  obtain ⟨z, g1, rfl⟩ := id h1
  exact ⟨_, cr, rfl, h1, h2⟩
theorem asr {ρ : List Int} {s : Nat} {r : List aV} {cst : List Value} (h : aSt ρ (.inr (.inr (.inl s)) :: r) cst) : ∃ (a : Nat) (cr : List Value), cst = .ref a :: cr ∧ ρ[s]? = some (a : Int) ∧ aSt ρ r cr := by
  obtain ⟨b, cr, rfl, ⟨n, h1, rfl⟩, h2⟩ := h
  exact ⟨n, cr, rfl, h1, h2⟩
theorem aps {ρ : List Int} {s : Nat} {c : Int} {r : List aV} {x : Int32} {cr : List Value} (h1 : ai ρ s c x) (h2 : aSt ρ r cr) : aSt ρ (.inl (s, c) :: r) (.int x :: cr) := ⟨_, _, rfl, ⟨x, h1, rfl⟩, h2⟩
theorem apr {ρ : List Int} {s a : Nat} {r : List aV} {cr : List Value} (h1 : ρ[s]? = some (a : Int)) (h2 : aSt ρ r cr) : aSt ρ (.inr (.inr (.inl s)) :: r) (.ref a :: cr) := ⟨_, _, rfl, ⟨a, h1, rfl⟩, h2⟩
theorem aj_ok {pc : Nat} {off : Int} {ls : zL} {st : List Value} {h : zH} (hq : ile 0 ((pc : Int) + off) = true) : zjump pc off ls st h = some (aj pc off, ls, st, h) := by
  unfold zjump
  rw [if_pos (ile_iff.mp hq)]
  rfl
theorem abr_ok {b : Bool} {pc : Nat} {off : Int} {ls : zL} {st : List Value} {h : zH} (hq : ile 0 ((pc : Int) + off) = true) : zbr b pc off ls st h = some (if b = true then aj pc off else pc + 3, ls, st, h) := by
  unfold zbr
  rw [if_pos (ile_iff.mp hq)]
  cases b <;> rfl
theorem lg_lt {x y : Int64} (h : x < y) : lg_cmp x y = -1 := by
  have h' := Int64.lt_iff_toInt_lt.mp h
  unfold lg_cmp
  rw [if_neg (fun q => by have q' : y < x := q; have := Int64.lt_iff_toInt_lt.mp q'; omega), if_neg (fun q => by rw [q] at h'; omega)]
theorem lg_eq {x : Int64} : lg_cmp x x = 0 := by
  unfold lg_cmp
  rw [if_neg (fun q => by have q' : x < x := q; have := Int64.lt_iff_toInt_lt.mp q'; omega), if_pos rfl]
theorem lg_gt {x y : Int64} (h : y < x) : lg_cmp x y = 1 := by
  unfold lg_cmp
  rw [if_pos h]
theorem an0l {q : Int × Int} {y : Int64} (h : an0 q = true) (hy : q.1 ≤ y.toInt ∧ y.toInt ≤ q.2) : ¬ y = 0 := by
  intro e
  subst e
  have e0 : (0 : Int64).toInt = 0 := rfl
  rw [e0] at hy
  unfold an0 at h
  rw [Bool.or_eq_true] at h
  rcases h with h | h
  · have := ile_f (by simpa using h); omega
  · have := ile_f (by simpa using h); omega
theorem ai2c {x : Int32} (h1 : 0 ≤ x.toInt) (h2 : x.toInt ≤ 65535) : (x.toUInt32 % 65536).toInt32 = x := by
  have hn := atonat h1
  apply Int32.toBitVec_inj.mp
  apply BitVec.eq_of_toNat_eq
  have e1 : (x.toUInt32 % 65536).toInt32.toBitVec.toNat = x.toUInt32.toNat % 65536 := by
    show (x.toUInt32 % 65536).toNat = _
    rw [UInt32.toNat_mod]
    rfl
  have e2 : x.toUInt32.toNat = x.toBitVec.toNat := rfl
  rw [e1, e2]
  omega
theorem asw_no : ∀ (l : List (Int × Int)) (d k : Int), k ∉ l.map (fun q => q.1) → Op.lookupswitch.offset l d k = d
  | [], d, k, _ => rfl
  | (a, o) :: r, d, k, h => by
    rw [Op.lookupswitch.offset_cons, if_neg (fun e => h (by rw [← e]; exact List.mem_cons_self))]
    exact asw_no r d k (fun q => h (List.mem_cons_of_mem _ q))
theorem asw_all : ∀ (l : List (Int × Int)) (d k : Int) (p : Int → Bool), l.all (fun q => p q.2) = true → p d = true → p (Op.lookupswitch.offset l d k) = true
  | [], d, k, p, _, h => h
  | (a, o) :: r, d, k, p, h1, h2 => by
    rw [List.all_cons, Bool.and_eq_true] at h1
    rw [Op.lookupswitch.offset_cons]
    split
    · exact h1.1
    · exact asw_all r d k p h1.2 h2
def aGoal (W : aW) (G : aG) (D : List aD) (h0 : zH) (ρ : List Int) (X : zX) (i : Instr) (pc : Nat) (os : List aO) (cl : zL) (cst : List Value) (h : zH) : Prop := ∃ (pc' : Nat) (cst' : List Value), zstI X i pc cl cst h = some (pc', cl, cst', h) ∧ ∃ S' : aS, (pc', S') ∈ os ∧ ∃ ρ', aext ρ ρ' ∧ aRel W G D h0 ρ' S' cl cst' h
theorem aGoal1 {W : aW} {G : aG} {D : List aD} {h0 : zH} {ρ ρ' : List Int} {X : zX} {i : Instr} {pc pc' : Nat} {E E' : List aY} {ls : aLs} {st st' : List aV} {m : aM} {cl : zL} {cst cst' : List Value} {h : zH} (hR : aRel W G D h0 ρ (E, ls, st, m) cl cst h) (hz : zstI X i pc cl cst h = some (pc', cl, cst', h)) (hx : aext ρ ρ') (hE : aE W E' ρ') (hs : aSt ρ' st' cst') : aGoal W G D h0 ρ X i pc [(pc', E', ls, st', m)] cl cst h :=
  ⟨pc', cst', hz, _, List.mem_cons_self, ρ', hx, hR.mk2 hx hE hs⟩
theorem agoal_br {W : aW} {G : aG} {D : List aD} {h0 : zH} {ρ : List Int} {X : zX} {i : Instr} {pc : Nat} {off : Int} {S : aS} {s s' : Nat} {c c' : Int} {cd : aCnd} {x y : Int32} {p q : Int × Int} {cl : zL} {cst cr : List Value} {h : zH} (hR : aRel W G D h0 ρ S cl cr h) (hp : aiv S.1 s c = some p) (hq : aiv S.1 s' c' = some q) (hx : ai ρ s c x) (hy : ai ρ s' c' y) (hz : zstI X i pc cl cst h = some (if zicmp cd x y = true then aj pc off else pc + 3, cl, cr, h)) : aGoal W G D h0 ρ X i pc ((abrs S s c s' c' cd).map (fun S => (aj pc off, S)) ++ (abrs S s c s' c' (aneg cd)).map (fun S => (pc + 3, S))) cl cst h := by
  cases hc : zicmp cd x y with
  | true =>
    obtain ⟨S', g1, ρ', x1, g2⟩ := abrs_ok hR hp hq hx hy hc
    rw [if_pos hc] at hz
    exact ⟨_, _, hz, S', List.mem_append_left _ (List.mem_map.mpr ⟨S', g1, rfl⟩), ρ', x1, g2⟩
  | false =>
    obtain ⟨S', g1, ρ', x1, g2⟩ := abrs_ok hR hp hq hx hy (aneg_ok hc)
    rw [if_neg (by rw [hc]; decide)] at hz
    exact ⟨_, _, hz, S', List.mem_append_right _ (List.mem_map.mpr ⟨S', g1, rfl⟩), ρ', x1, g2⟩
theorem abin_goal {W : aW} {G : aG} {D : List aD} {h0 : zH} {ρ : List Int} {X : zX} {i : Instr} {pc : Nat} {E : List aY} {ls : aLs} {st : List aV} {m : aM} {os : List aO} {cl : zL} {cst : List Value} {h : zH} (hs : (bif aib i then (match st with
    | .inl (s', c') :: .inl (s, c) :: r => match aiv E s c, aiv E s' c' with
      | some p, some q => match abin i E s c s' c' p q with
        | (E', v) => some [(pc + 1, E', ls, v :: r, m)]
      | _, _ => none
    | _ => none) else (bif aL2 i then (match st with
      | .inr (.inl _) :: .inr (.inl _) :: r => some [(pc + 1, E ++ [aFL], ls, .inr (.inl E.length) :: r, m)]
      | _ => none) else (bif aLs2 i then (match st with
        | .inl (s, c) :: .inr (.inl _) :: r => match aiv E s c with
          | some _ => some [(pc + 1, E ++ [aFL], ls, .inr (.inl E.length) :: r, m)]
          | none => none
        | _ => none) else none))) = some os) (hR : aRel W G D h0 ρ (E, ls, st, m) cl cst h) : aGoal W G D h0 ρ X i pc os cl cst h := by
  have hE := hR.1
  have hst : aSt ρ st cst := hR.2.2.1
  cases h1 : aib i with
  | true =>
    rw [h1] at hs
    dsimp only [cond_true] at hs
    split at hs
    · next s' c' s c r =>
      split at hs
      · next p q hp hq =>
        obtain ⟨y, cr, rfl, hy, hst⟩ := as1 hst
        obtain ⟨x, cr, rfl, hx, hst⟩ := as1 hst
        cases hs
        obtain ⟨ρ', g1, g2, g3⟩ := abin_ok (i := i) hE hp hq hx hy
        exact aGoal1 hR (abn_st h1 pc x y cl cr h) g1 g2 ⟨_, _, rfl, g3, hst.ext g1⟩
      · cases hs
    · cases hs
  | false =>
    rw [h1] at hs
    dsimp only [cond_false] at hs
    cases h2 : aL2 i with
    | true =>
      rw [h2] at hs
      dsimp only [cond_true] at hs
      split at hs
      · next s' s r =>
        cases hs
        obtain ⟨y, cr, rfl, hy, hst⟩ := asl hst
        obtain ⟨x, cr, rfl, hx, hst⟩ := asl hst
        obtain ⟨z, hz⟩ := aL2_st (X := X) h2 pc x y
        obtain ⟨g1, g2⟩ := anewl hE z (aFL_ok z)
        exact aGoal1 hR (hz cl cr h) (aext.one _) g1 ⟨_, _, rfl, g2, hst.ext (aext.one _)⟩
      · cases hs
    | false =>
      rw [h2] at hs
      dsimp only [cond_false] at hs
      cases h3 : aLs2 i with
      | true =>
        rw [h3] at hs
        dsimp only [cond_true] at hs
        split at hs
        · next s c s2 r =>
          split at hs
          · cases hs
            obtain ⟨y, cr, rfl, hy, hst⟩ := as1 hst
            obtain ⟨x, cr, rfl, hx, hst⟩ := asl hst
            obtain ⟨z, hz⟩ := aLs2_st (X := X) h3 pc x y
            obtain ⟨g1, g2⟩ := anewl hE z (aFL_ok z)
            exact aGoal1 hR (hz cl cr h) (aext.one _) g1 ⟨_, _, rfl, g2, hst.ext (aext.one _)⟩
          · cases hs
        · cases hs
      | false => rw [h3] at hs; cases hs
set_option maxHeartbeats 4000000 in
theorem astI_ok {W : aW} {G : aG} {D : List aD} {h0 : zH} {ρ : List Int} {X : zX} {i : Instr} {pc : Nat} {E : List aY} {ls : aLs} {st : List aV} {m : aM} {os : List aO} {cl : zL} {cst : List Value} {h : zH} (hs : astI i pc E ls st m = some os) (hR : aRel W G D h0 ρ (E, ls, st, m) cl cst h) : aGoal W G D h0 ρ X i pc os cl cst h := by
  have hE : aE W E ρ := hR.1
  have hst : aSt ρ st cst := hR.2.2.1
  cases i with
  | idiv =>
    dsimp only [astI] at hs
    split at hs
    · next s' c' s c r =>
      split at hs
      · next p q hp hq =>
        obtain ⟨y, cr, rfl, hy, hst⟩ := as1 hst
        obtain ⟨x, cr, rfl, hx, hst⟩ := as1 hst
        cases h0' : an0 q with
        | false => rw [h0'] at hs; cases hs
        | true =>
          rw [h0'] at hs
          cases hs
          obtain ⟨g1, g2⟩ := anewi hE (x / y) (adv_ok (aiv_in hE hp hx) (aiv_in hE hq hy))
          refine aGoal1 hR ?_ (aext.one _) g1 (aps g2 (hst.ext (aext.one _)))
          dsimp only [zstI]
          rw [if_neg (an0_ok h0' (aiv_in hE hq hy))]
      · cases hs
    · cases hs
  | irem =>
    dsimp only [astI] at hs
    split at hs
    · next s' c' s c r =>
      split at hs
      · next p q hp hq =>
        obtain ⟨y, cr, rfl, hy, hst⟩ := as1 hst
        obtain ⟨x, cr, rfl, hx, hst⟩ := as1 hst
        cases h0' : an0 q with
        | false => rw [h0'] at hs; cases hs
        | true =>
          rw [h0'] at hs
          cases hs
          obtain ⟨g1, g2⟩ := anewi hE (x - x / y * y) (arm_ok (aiv_in hE hp hx) (aiv_in hE hq hy))
          refine aGoal1 hR ?_ (aext.one _) g1 (aps g2 (hst.ext (aext.one _)))
          dsimp only [zstI]
          rw [if_neg (an0_ok h0' (aiv_in hE hq hy))]
      · cases hs
    · cases hs
  | ineg =>
    dsimp only [astI] at hs
    split at hs
    · next s c r =>
      split at hs
      · next p hp =>
        obtain ⟨x, cr, rfl, hx, hst⟩ := as1 hst
        cases hs
        have hb := aiv_in hE hp hx
        obtain ⟨g1, g2⟩ := anewi hE (-x) (t := acl (-p.2) (-p.1)) (by rw [aofneg]; exact acl_ok (by omega) (by omega))
        exact aGoal1 hR rfl (aext.one _) g1 (aps g2 (hst.ext (aext.one _)))
      · cases hs
    · cases hs
  | ldiv =>
    dsimp only [astI] at hs
    split at hs
    · next s' s r =>
      split at hs
      · next q hq =>
        obtain ⟨y, cr, rfl, hy, hst⟩ := asl hst
        obtain ⟨x, cr, rfl, hx, hst⟩ := asl hst
        obtain ⟨y', e, -, hb⟩ := alv_ok hE hq hy
        cases e
        cases h0' : an0 q with
        | false => rw [h0'] at hs; cases hs
        | true =>
          rw [h0'] at hs
          cases hs
          obtain ⟨g1, g2⟩ := anewl hE (x / y) (aFL_ok _)
          refine aGoal1 hR ?_ (aext.one _) g1 ⟨_, _, rfl, g2, hst.ext (aext.one _)⟩
          dsimp only [zstI]
          rw [if_neg (an0l h0' hb)]
      · cases hs
    · cases hs
  | lrem =>
    dsimp only [astI] at hs
    split at hs
    · next s' s r =>
      split at hs
      · next q hq =>
        obtain ⟨y, cr, rfl, hy, hst⟩ := asl hst
        obtain ⟨x, cr, rfl, hx, hst⟩ := asl hst
        obtain ⟨y', e, -, hb⟩ := alv_ok hE hq hy
        cases e
        cases h0' : an0 q with
        | false => rw [h0'] at hs; cases hs
        | true =>
          rw [h0'] at hs
          cases hs
          obtain ⟨g1, g2⟩ := anewl hE (x - x / y * y) (aFL_ok _)
          refine aGoal1 hR ?_ (aext.one _) g1 ⟨_, _, rfl, g2, hst.ext (aext.one _)⟩
          dsimp only [zstI]
          rw [if_neg (an0l h0' hb)]
      · cases hs
    · cases hs
  | lneg =>
    dsimp only [astI] at hs
    split at hs
    · cases hs
      obtain ⟨x, cr, rfl, hx, hst⟩ := asl hst
      obtain ⟨g1, g2⟩ := anewl hE (-x) (aFL_ok _)
      exact aGoal1 hR rfl (aext.one _) g1 ⟨_, _, rfl, g2, hst.ext (aext.one _)⟩
    · cases hs
  | lcmp =>
    dsimp only [astI] at hs
    split at hs
    · next s' s r =>
      split at hs
      · next p q hp hq =>
        cases hs
        obtain ⟨y, cr, rfl, hy, hst⟩ := asl hst
        obtain ⟨x, cr, rfl, hx, hst⟩ := asl hst
        obtain ⟨y', e, hy1, hb⟩ := alv_ok hE hq hy
        cases e
        obtain ⟨x', e, hx1, ha⟩ := alv_ok hE hp hx
        cases e
        have fin : ∀ (z : Int) (E' : List aY) (os : List aO), aE W E' ρ → lg_cmp x y = Int32.ofInt z → (pc + 1, E', ls, .inl (0, z) :: r, m) ∈ os → aGoal W G D h0 ρ X .lcmp pc os cl (.long y :: .long x :: cr) h := fun z E' os hE' hz hm => by
          refine ⟨pc + 1, .int (lg_cmp x y) :: cr, rfl, _, hm, ρ, aext.rf, hR.mk2 aext.rf hE' ?_⟩
          rw [hz]
          exact aps (ai_c hE z) hst
        have hxb := abl x
        have hyb := abl y
        rcases Int.lt_trichotomy x.toInt y.toInt with hl | hl | hl
        · obtain ⟨E', g1, g2⟩ := acut2_ok (q := (aXl.1, q.2 - 1)) (q' := (p.1 + 1, aXl.2)) hE hx1 hy1 ⟨hxb.1, by show _ ≤ q.2 - 1; omega⟩ ⟨by show p.1 + 1 ≤ _; omega, hyb.2⟩
          exact fin (-1) E' _ g2 ((lg_lt (Int64.lt_iff_toInt_lt.mpr hl)).trans (by decide)) (List.mem_append_left _ (List.mem_map.mpr ⟨E', g1, rfl⟩))
        · have e : x = y := Int64.toInt_inj.mp hl
          subst e
          obtain ⟨E', g1, g2⟩ := acut2_ok (q := q) (q' := p) hE hx1 hy1 hb ha
          exact fin 0 E' _ g2 lg_eq (List.mem_append_right _ (List.mem_append_left _ (List.mem_map.mpr ⟨E', g1, rfl⟩)))
        · obtain ⟨E', g1, g2⟩ := acut2_ok (q := (q.1 + 1, aXl.2)) (q' := (aXl.1, p.2 - 1)) hE hx1 hy1 ⟨by show q.1 + 1 ≤ _; omega, hxb.2⟩ ⟨hyb.1, by show _ ≤ p.2 - 1; omega⟩
          exact fin 1 E' _ g2 (lg_gt (Int64.lt_iff_toInt_lt.mpr hl)) (List.mem_append_right _ (List.mem_append_right _ (List.mem_map.mpr ⟨E', g1, rfl⟩)))
      · cases hs
    · cases hs
  | i2l =>
    dsimp only [astI] at hs
    split at hs
    · next s c r =>
      split at hs
      · next p hp =>
        obtain ⟨x, cr, rfl, hx, hst⟩ := as1 hst
        cases hs
        have hb := aiv_in hE hp hx
        obtain ⟨g1, g2⟩ := anewl hE x.toInt64 (t := (1, p.1, p.2)) (by rw [Int32.toInt_toInt64]; exact ⟨hb, by have := ab x; omega, by have := ab x; omega⟩)
        exact aGoal1 hR rfl (aext.one _) g1 ⟨_, _, rfl, g2, hst.ext (aext.one _)⟩
      · cases hs
    · cases hs
  | l2i =>
    dsimp only [astI] at hs
    split at hs
    · cases hs
      obtain ⟨x, cr, rfl, hx, hst⟩ := asl hst
      obtain ⟨g1, g2⟩ := anewi hE x.toInt32 (aFI_ok _)
      exact aGoal1 hR rfl (aext.one _) g1 (aps g2 (hst.ext (aext.one _)))
    · cases hs
  | i2c =>
    dsimp only [astI] at hs
    split at hs
    · next s c r =>
      split at hs
      · next p hp =>
        obtain ⟨x, cr, rfl, hx, hst⟩ := as1 hst
        have hb := aiv_in hE hp hx
        cases h1 : (ile 0 p.1 && ile p.2 65535) with
        | false => rw [h1] at hs; cases hs
        | true =>
          rw [h1] at hs
          cases hs
          rw [Bool.and_eq_true] at h1
          have h2 := ile_iff.mp h1.1
          have h3 := ile_iff.mp h1.2
          refine aGoal1 hR (cst' := .int x :: cr) ?_ aext.rf hE (aps hx hst)
          dsimp only [zstI]
          rw [ai2c (by omega) (by omega)]
      · cases hs
    · cases hs
  | dup =>
    dsimp only [astI] at hs
    split at hs
    · next q r =>
      obtain ⟨s, c⟩ := q
      cases hs
      obtain ⟨x, cr, rfl, hx, hst⟩ := as1 hst
      exact aGoal1 hR rfl aext.rf hE (aps hx (aps hx hst))
    · cases hs
      obtain ⟨x, cr, rfl, hx, hst⟩ := asr hst
      exact aGoal1 hR rfl aext.rf hE (apr hx (apr hx hst))
    · cases hs
  | dup2 =>
    dsimp only [astI] at hs
    split at hs
    · next q a r =>
      obtain ⟨s, c⟩ := q
      cases hs
      obtain ⟨x, cr, rfl, hx, hst⟩ := as1 hst
      obtain ⟨y, cr, rfl, hy, hst⟩ := asr hst
      exact aGoal1 hR rfl aext.rf hE (aps hx (apr hy (aps hx (apr hy hst))))
    · cases hs
  | pop =>
    dsimp only [astI] at hs
    split at hs
    · next q r =>
      obtain ⟨s, c⟩ := q
      cases hs
      obtain ⟨x, cr, rfl, hx, hst⟩ := as1 hst
      exact aGoal1 hR rfl aext.rf hE hst
    · cases hs
      obtain ⟨x, cr, rfl, hx, hst⟩ := asr hst
      exact aGoal1 hR rfl aext.rf hE hst
    · cases hs
  | ifCond cd off =>
    dsimp only [astI] at hs
    split at hs
    · next s c r =>
      split at hs
      · next p q hp hq =>
        obtain ⟨x, cr, rfl, hx, hst⟩ := as1 hst
        cases h1 : ile 0 ((pc : Int) + off) with
        | false => rw [h1] at hs; cases hs
        | true =>
          rw [h1] at hs
          cases hs
          refine agoal_br (S := (E, ls, r, m)) (x := x) (y := 0) (hR.mk2 aext.rf hE hst) hp hq hx (ai_c hE 0) ?_
          dsimp only [zstI]
          rw [abr_ok h1]
      · cases hs
    · cases hs
  | if_icmp cd off =>
    dsimp only [astI] at hs
    split at hs
    · next s' c' s c r =>
      split at hs
      · next p q hp hq =>
        obtain ⟨y, cr, rfl, hy, hst⟩ := as1 hst
        obtain ⟨x, cr, rfl, hx, hst⟩ := as1 hst
        cases h1 : ile 0 ((pc : Int) + off) with
        | false => rw [h1] at hs; cases hs
        | true =>
          rw [h1] at hs
          cases hs
          refine agoal_br (S := (E, ls, r, m)) (x := x) (y := y) (hR.mk2 aext.rf hE hst) hp hq hx hy ?_
          dsimp only [zstI]
          rw [abr_ok h1]
      · cases hs
    · cases hs
  | goto off =>
    dsimp only [astI] at hs
    cases h1 : ile 0 ((pc : Int) + off) with
    | false => rw [h1] at hs; cases hs
    | true =>
      rw [h1] at hs
      cases hs
      exact aGoal1 hR (aj_ok h1) aext.rf hE hst
  | tableswitch d lo hi offs =>
    dsimp only [astI] at hs
    split at hs
    · next s c r =>
      split at hs
      · next p hp =>
        obtain ⟨x, cr, rfl, hx, hst⟩ := as1 hst
        cases h1 : ((offs.toList.all (fun o => ile 0 ((pc : Int) + o)) && ile 0 ((pc : Int) + d)) && (ile lo hi && Nat.beq (hi - lo + 1).toNat offs.size)) with
        | false => rw [h1] at hs; cases hs
        | true =>
          rw [h1] at hs
          cases hs
          simp only [Bool.and_eq_true] at h1
          obtain ⟨⟨h2, h3⟩, h4, h5⟩ := h1
          have h4 := ile_iff.mp h4
          have h5 := Nat.eq_of_beq_eq_true h5
          have key : ∀ off : Int, atgt d lo hi offs x.toInt = some off → (x.toInt ∉ arange lo (hi - lo + 1).toNat → off = d) → ile 0 ((pc : Int) + off) = true → zstI X (.tableswitch d lo hi offs) pc cl (.int x :: cr) h = zjump pc off cl cr h → aGoal W G D h0 ρ X (.tableswitch d lo hi offs) pc (asw (atgt d lo hi offs) (arange lo (hi - lo + 1).toNat) d pc E s c p (ls, r, m)) cl (.int x :: cr) h := fun off k1 k2 k3 k4 => by
            obtain ⟨E', g1, g2⟩ := asw_ok (S := (ls, r, m)) (pc := pc) hE hp hx k1 k2
            exact ⟨_, _, k4.trans (aj_ok k3), _, g1, ρ, aext.rf, hR.mk2 aext.rf g2 hst⟩
          by_cases hb : x.toInt < lo ∨ hi < x.toInt
          · refine key d ?_ (fun _ => rfl) h3 ?_
            · unfold atgt
              rw [show (ile lo x.toInt && ile x.toInt hi) = false by
                rw [Bool.and_eq_false_iff]
                rcases hb with hb | hb
                · left
                  cases hq : ile lo x.toInt with
                  | false => rfl
                  | true => have := ile_iff.mp hq; omega
                · right
                  cases hq : ile x.toInt hi with
                  | false => rfl
                  | true => have := ile_iff.mp hq; omega]
              rfl
            · dsimp only [zstI]
              rw [if_pos hb]
          · have hlt : (x.toInt - lo).toNat < offs.size := by omega
            have hget : offs[(x.toInt - lo).toNat]? = some offs[(x.toInt - lo).toNat] := Array.getElem?_eq_getElem hlt
            refine key offs[(x.toInt - lo).toNat] ?_ (fun q => absurd (arange_mem (by omega) (by omega)) q) ?_ ?_
            · unfold atgt
              rw [ile_iff.mpr (by omega), ile_iff.mpr (by omega)]
              exact hget
            · exact List.all_eq_true.mp h2 _ (Array.mem_toList_iff.mpr (Array.getElem_mem hlt))
            · dsimp only [zstI]
              rw [if_neg hb, hget]
      · cases hs
    · cases hs
  | lookupswitch d ps =>
    dsimp only [astI] at hs
    split at hs
    · next s c r =>
      split at hs
      · next p hp =>
        obtain ⟨x, cr, rfl, hx, hst⟩ := as1 hst
        cases h1 : ((ps.toList.all (fun q => ile 0 ((pc : Int) + q.2)) && ile 0 ((pc : Int) + d)) && (ps.toList.zip (ps.toList.drop 1)).all (fun q => !ile q.2.1 q.1.1)) with
        | false => rw [h1] at hs; cases hs
        | true =>
          rw [h1] at hs
          cases hs
          simp only [Bool.and_eq_true] at h1
          obtain ⟨⟨h2, h3⟩, h4⟩ := h1
          have hsort : (ps.toList.zip (ps.toList.drop 1)).all (fun (a, next) => a.1 < next.1) = true := by
            rw [List.all_eq_true] at h4 ⊢
            intro q hq
            have := ile_f (by simpa using h4 q hq)
            exact decide_eq_true this
          obtain ⟨E', g1, g2⟩ := asw_ok (S := (ls, r, m)) (pc := pc) (tg := fun x => some (Op.lookupswitch.offset ps.toList d x)) (ks := ps.toList.map (fun q => q.1)) (d := d) hE hp hx rfl (fun q => asw_no _ _ _ q)
          refine ⟨_, cr, ?_, _, g1, ρ, aext.rf, hR.mk2 aext.rf g2 hst⟩
          dsimp only [zstI]
          rw [if_pos hsort]
          exact aj_ok (asw_all ps.toList d x.toInt (fun o => ile 0 ((pc : Int) + o)) h2 h3)
      · cases hs
    · cases hs
  | _ => exact abin_goal hs hR
