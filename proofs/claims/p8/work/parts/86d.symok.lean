/-! Symbols: the rules are sound; so are runs. -/
theorem ystepI {X : zX} {nL : Nat} {ini : Bool} {c : Nat} {i : Instr} {pc : Nat} {ls : zL} {st : List Value} {h : zH} {q : Nat × zL × List Value × zH} (hs : zstI X i pc ls st h = some q) : zstep X nL ini c i pc ls st h = some q := by
  unfold zstep
  rw [hs]
theorem ystepL {X : zX} {nL : Nat} {ini : Bool} {c : Nat} {i : Instr} {pc : Nat} {ls : zL} {st : List Value} {h : zH} {q : Nat × zL × List Value × zH} (hs : zstL nL i pc ls st h = some q) : zstep X nL ini c i pc ls st h = some q := by
  unfold zstep
  rw [yI_no hs, hs]
theorem ystepH {X : zX} {nL : Nat} {ini : Bool} {c : Nat} {i : Instr} {pc : Nat} {ls : zL} {st : List Value} {h : zH} {q : Nat × zL × List Value × zH} (hs : zstH X ini c i pc ls st h = some q) : zstep X nL ini c i pc ls st h = some q := by
  unfold zstep
  rw [(yIL_no (X' := X) (nL := nL) hs).1, (yIL_no (X' := X) (nL := nL) hs).2, hs]
theorem ysw_no : ∀ (l : List (Int × Int)) (d k : Int), k ∉ l.map (fun q => q.1) → Op.lookupswitch.offset l d k = d
  | [], d, k, _ => rfl
  | (a, o) :: r, d, k, h => by
    rw [Op.lookupswitch.offset_cons, if_neg (fun e => h (by rw [← e]; exact List.mem_cons_self))]
    exact ysw_no r d k (fun e => h (List.mem_cons_of_mem _ e))
theorem yG_push {E : yE} {ρ : yR} {z : Int32} (hG : yG E ρ) : yG (E.1 ++ [(-2147483648, 2147483647)], E.2) (ρ.1 ++ [z], ρ.2) := by
  refine ⟨by simp [hG.1], hG.2.1, fun k q x hk hx => ?_⟩
  have hk' : (E.1 ++ [(-2147483648, 2147483647)])[k]? = some q := hk
  have hx' : (ρ.1 ++ [z])[k]? = some x := hx
  by_cases h : k < E.1.length
  · rw [List.getElem?_append_left h] at hk'
    rw [List.getElem?_append_left (by rw [hG.1]; exact h)] at hx'
    exact hG.2.2 _ _ _ hk' hx'
  · rw [List.getElem?_append_right (by omega)] at hk'
    have hz1 : k - E.1.length < 1 := (List.getElem?_eq_some_iff.mp hk').1
    rw [show k - E.1.length = 0 by omega] at hk'
    cases hk'
    exact yb x
theorem yarr_set {ρ : yR} {fs : List Value} {l : List Int32} {v : Value} {x : Int32} {n : Nat} (h : yvs ρ fs (l.map Value.int)) (hv : yv ρ v (.int x)) : yvs ρ (fs.set n v) ((l.set n x).map Value.int) := by
  rw [List.map_set]
  exact yA.set hv h
theorem yarr_map {ρ : yR} : ∀ (l : List Int32), yvs ρ (l.map Value.int) (l.map Value.int)
  | [] => rfl
  | a :: l => ⟨_, _, rfl, rfl, yarr_map l⟩
theorem yce_arr {ρ : yR} {fs : List Value} {c : zE} (h : yce ρ (100, .inr (.inr (.inr fs))) c) : ∃ l : List Int32, c = (0, .inl l) ∧ yvs ρ fs (l.map Value.int) := by
  have h' : if 100 < 100 then ∃ gs : List Value, c = (100, .inr (.inr (.inr gs))) ∧ yvs ρ fs gs else 100 = 100 ∧ ∃ l : List Int32, c = (0, .inl l) ∧ yvs ρ fs (l.map .int) := h
  rw [if_neg (by decide)] at h'
  exact h'.2
theorem yce_am {ρ : yR} {fs : List Value} {l : List Int32} (h : yvs ρ fs (l.map Value.int)) : yce ρ (100, .inr (.inr (.inr fs))) (0, .inl l) := by
  show (if 100 < 100 then ∃ gs : List Value, ((0, Sum.inl l) : zE) = (100, .inr (.inr (.inr gs))) ∧ yvs ρ fs gs else 100 = 100 ∧ ∃ l' : List Int32, ((0, Sum.inl l) : zE) = (0, .inl l') ∧ yvs ρ fs (l'.map .int))
  rw [if_neg (by decide)]
  exact ⟨rfl, l, rfl, h⟩
/-- what a rule owes: one of its ends is the machine's next state, or the same state (then the instruction is looked at again) -/
def yOk (X : zX) (nL : Nat) (ini : Bool) (c : Nat) (i : Instr) (pc : Nat) (ρ : yR) (cl : zL) (cst : List Value) (ch : zH) (ss : List yS) : Prop :=
  ∃ s ∈ ss, ∃ (ρ' : yR) (cl' : zL) (cst' : List Value) (ch' : zH), yext ρ ρ' ∧ yG s.1 ρ' ∧ yls ρ' s.2.2.1 cl' ∧ yvs ρ' s.2.2.2.1 cst' ∧ yhs ρ' s.2.2.2.2 ch' ∧ (zstep X nL ini c i pc cl cst ch = some (s.2.1, cl', cst', ch') ∨ (s.2.1 = pc ∧ cl' = cl ∧ cst' = cst ∧ ch' = ch))
theorem ybr_two {X : zX} {nL : Nat} {ini : Bool} {c : Nat} {i : Instr} {pc : Nat} {off : Int} {cd : Jvm.ClassFile.Cond} {E : yE} {ρ : yR} {a b : Value} {ls cl : zL} {r cr cst : List Value} {h ch : zH} {x y : Int32} (hG : yG E ρ) (h0 : 0 ≤ (pc : Int) + off) (ha : (yiv E a).isSome = true) (hb : (yiv E b).isSome = true) (hva : yv ρ a (.int x)) (hvb : yv ρ b (.int y)) (hl : yls ρ ls cl) (hr : yvs ρ r cr) (hh : yhs ρ h ch) (hz : zstI X i pc cl cst ch = zbr (zicmp cd x y) pc off cl cr ch) :
    yOk X nL ini c i pc ρ cl cst ch ((ybrs E a b cd).map (fun e => (e, ((pc : Int) + off).toNat, ls, r, h)) ++ (ybrs E a b (yneg cd)).map (fun e => (e, pc + 3, ls, r, h))) := by
  cases hc : zicmp cd x y with
  | true =>
    obtain ⟨E', m, g⟩ := ybrs_ok hG ha hb hva hvb hc
    refine ⟨_, List.mem_append_left _ (List.mem_map.mpr ⟨E', m, rfl⟩), ρ, cl, cr, ch, yext.rf, g, hl, hr, hh, Or.inl (ystepI ?_)⟩
    rw [hz, hc]
    unfold zbr
    rw [if_pos h0, if_pos rfl]
  | false =>
    obtain ⟨E', m, g⟩ := ybrs_ok hG ha hb hva hvb (yneg_ok hc)
    refine ⟨_, List.mem_append_right _ (List.mem_map.mpr ⟨E', m, rfl⟩), ρ, cl, cr, ch, yext.rf, g, hl, hr, hh, Or.inl (ystepI ?_)⟩
    rw [hz, hc]
    unfold zbr
    rw [if_pos h0, if_neg (by decide)]
set_option maxHeartbeats 8000000 in
theorem ysy_ok {X0 X : zX} {nL : Nat} {ini : Bool} {c : Nat} {i : Instr} {pc : Nat} {E : yE} {ρ : yR} {ls cl : zL} {st cst : List Value} {h ch : zH} {ss : List yS} (hX : yXX X0 X) (hs : ysy X0 nL c i pc E ls st h = some ss) (hG : yG E ρ) (hl : yls ρ ls cl) (hst : yvs ρ st cst) (hh : yhs ρ h ch) : yOk X nL ini c i pc ρ cl cst ch ss := by
  obtain ⟨x1, x2, x3, x4, x5, ⟨x6, x7, x8, x9, x10⟩, x11, x12⟩ := id hX
  cases i with
  | iload_n k =>
    dsimp only [ysy] at hs
    split at hs
    · next hg =>
      cases hs
      obtain ⟨v, g, e⟩ := yget hl hg
      obtain ⟨x, e1, rfl⟩ := id e
      exact ⟨_, List.mem_cons_self, ρ, cl, _, ch, yext.rf, hG, hl, y0 (ynorm_ok hG e) hst, hh, Or.inl (ystepL (by dsimp only [zstL]; rw [g]))⟩
    · cases hs
  | iload k =>
    dsimp only [ysy] at hs
    split at hs
    · next hg =>
      cases hs
      obtain ⟨v, g, e⟩ := yget hl hg
      obtain ⟨x, e1, rfl⟩ := id e
      exact ⟨_, List.mem_cons_self, ρ, cl, _, ch, yext.rf, hG, hl, y0 (ynorm_ok hG e) hst, hh, Or.inl (ystepL (by dsimp only [zstL]; rw [g]))⟩
    · cases hs
  | istore_n k =>
    dsimp only [ysy] at hs
    split at hs
    · split at hs
      · next q =>
        cases hs
        obtain ⟨b, cr, rfl, e, hr⟩ := hst
        obtain ⟨x, e1, rfl⟩ := id e
        exact ⟨_, List.mem_cons_self, ρ, _, cr, ch, yext.rf, hG, yset1 hl e, hr, hh, Or.inl (ystepL (by dsimp only [zstL]; rw [if_pos q]))⟩
      · cases hs
    · cases hs
  | istore k =>
    dsimp only [ysy] at hs
    split at hs
    · split at hs
      · next q =>
        cases hs
        obtain ⟨b, cr, rfl, e, hr⟩ := hst
        obtain ⟨x, e1, rfl⟩ := id e
        exact ⟨_, List.mem_cons_self, ρ, _, cr, ch, yext.rf, hG, yset1 hl e, hr, hh, Or.inl (ystepL (by dsimp only [zstL]; rw [if_pos q]))⟩
      · cases hs
    · cases hs
  | ifCond cd off =>
    dsimp only [ysy] at hs
    split at hs
    · split at hs
      · next q =>
        cases hs
        obtain ⟨b, cr, rfl, e, hr⟩ := hst
        obtain ⟨p, hp⟩ := Option.isSome_iff_exists.mp q.2
        obtain ⟨x, rfl, -⟩ := yiv_ok hG hp e
        exact ybr_two hG q.1 q.2 rfl e (yv_r rfl) hl hr hh rfl
      · cases hs
    · cases hs
  | if_icmp cd off =>
    dsimp only [ysy] at hs
    split at hs
    · split at hs
      · next q =>
        cases hs
        obtain ⟨b, cr, rfl, e, b2, cr2, rfl, e2, hr⟩ := hst
        obtain ⟨p, hp⟩ := Option.isSome_iff_exists.mp q.2.1
        obtain ⟨p2, hp2⟩ := Option.isSome_iff_exists.mp q.2.2
        obtain ⟨x, rfl, -⟩ := yiv_ok hG hp e2
        obtain ⟨y, rfl, -⟩ := yiv_ok hG hp2 e
        exact ybr_two hG q.1 q.2.1 q.2.2 e2 e hl hr hh rfl
      · cases hs
    · cases hs
  | tableswitch d lo hi offs =>
    dsimp only [ysy] at hs
    split at hs
    · next s r =>
      split at hs
      · next p hp =>
        split at hs
        · next q =>
          cases hs
          obtain ⟨b, cr, rfl, e, hr⟩ := hst
          obtain ⟨x, e1, rfl⟩ := id e
          by_cases hk : x.toInt ∈ yrange lo (hi - lo + 1).toNat
          · obtain ⟨E', m, g⟩ := yone_ok (pc := pc) (ls := ls) (r := r) (h := h) hG hp e1 hk
            exact ⟨_, List.mem_append_left _ m, ρ, cl, _, ch, yext.rf, g, hl, y0 (yv_r rfl) hr, hh, Or.inr ⟨rfl, rfl, rfl, rfl⟩⟩
          · have hb := hG.2.2 _ _ _ hp e1
            obtain ⟨g, m, hg⟩ := ygap_ok _ p.1 p.2 x.toInt hb.1 hb.2 hk
            refine ⟨_, List.mem_append_right _ (List.mem_map.mpr ⟨g, m, rfl⟩), ρ, cl, cr, ch, yext.rf, yG_set hG e1 hg, hl, hr, hh, Or.inl (ystepI ?_)⟩
            have hn : x.toInt < lo ∨ hi < x.toInt := by
              by_cases h1 : x.toInt < lo
              · exact Or.inl h1
              · by_cases h2 : hi < x.toInt
                · exact Or.inr h2
                · exact absurd (yrange_mem (by omega) (by omega)) hk
            dsimp only [zstI]
            rw [if_pos hn]
            unfold zjump
            rw [if_pos q]
        · cases hs
      · cases hs
    · cases hs
  | lookupswitch d ps =>
    dsimp only [ysy] at hs
    split at hs
    · next s r =>
      split at hs
      · next p hp =>
        split at hs
        · next q =>
          cases hs
          obtain ⟨b, cr, rfl, e, hr⟩ := hst
          obtain ⟨x, e1, rfl⟩ := id e
          by_cases hk : x.toInt ∈ ps.toList.map (fun q => q.1)
          · obtain ⟨E', m, g⟩ := yone_ok (pc := pc) (ls := ls) (r := r) (h := h) hG hp e1 hk
            exact ⟨_, List.mem_append_left _ m, ρ, cl, _, ch, yext.rf, g, hl, y0 (yv_r rfl) hr, hh, Or.inr ⟨rfl, rfl, rfl, rfl⟩⟩
          · have hb := hG.2.2 _ _ _ hp e1
            obtain ⟨g, m, hg⟩ := ygap_ok _ p.1 p.2 x.toInt hb.1 hb.2 hk
            refine ⟨_, List.mem_append_right _ (List.mem_map.mpr ⟨g, m, rfl⟩), ρ, cl, cr, ch, yext.rf, yG_set hG e1 hg, hl, hr, hh, Or.inl (ystepI ?_)⟩
            dsimp only [zstI]
            rw [if_pos q.2, ysw_no _ _ _ hk]
            unfold zjump
            rw [if_pos q.1]
        · cases hs
      · cases hs
    · cases hs
  | iaload =>
    dsimp only [ysy] at hs
    split at hs
    · next s r =>
      split at hs
      · next p hp =>
        split at hs
        · next q =>
          cases hs
          obtain ⟨b, cr, rfl, e, hr⟩ := hst
          obtain ⟨x, e1, rfl⟩ := id e
          have hb := hG.2.2 _ _ _ hp e1
          obtain ⟨E', m, g⟩ := yone_ok (pc := pc) (ls := ls) (r := r) (h := h) hG hp e1 (yrange_mem (n := (p.2 - p.1 + 1).toNat) hb.1 (by omega))
          exact ⟨_, m, ρ, cl, _, ch, yext.rf, g, hl, y0 (yv_r rfl) hr, hh, Or.inr ⟨rfl, rfl, rfl, rfl⟩⟩
        · cases hs
      · cases hs
    · cases hs
  | putfield j =>
    dsimp only [ysy] at hs
    split at hs
    · split at hs
      · next q1 q2 =>
        split at hs
        · next q =>
          cases hs
          obtain ⟨rfl, q5, q6, q7⟩ := q
          obtain ⟨b, cr, rfl, e, b2, cr2, rfl, e2, hr⟩ := hst
          obtain rfl := e2
          obtain ⟨x, e1, rfl⟩ := id e
          obtain ⟨f1, f2⟩ := x1 _ _ _ q1
          obtain ⟨b, g1, g2⟩ := yA.get hh q2
          obtain ⟨gs, rfl, g3⟩ := yce_obj g2 f2
          refine ⟨_, List.mem_cons_self, ρ, cl, cr2, _, yext.rf, hG, hl, hr, yA.set (yce_mk f2 (yA.set e g3)) hh, Or.inl (ystepH ?_)⟩
          dsimp only [zstH]
          rw [f1, g1]
          dsimp only
          rw [if_pos ⟨rfl, by rw [yA.len g3]; exact q5, by
            rw [yputs_eq hX]
            unfold zputs
            rw [q6, q7]
            simp [zdry, narrow, fits]⟩]
        · cases hs
      · cases hs
    · cases hs
  | iastore =>
    dsimp only [ysy] at hs
    split at hs
    · split at hs
      · next q2 =>
        split at hs
        · next q =>
          cases hs
          obtain ⟨rfl, q5, q6⟩ := q
          obtain ⟨b, cr, rfl, e, b2, cr2, rfl, e2, b3, cr3, rfl, e3, hr⟩ := hst
          obtain rfl := e2
          obtain rfl := e3
          obtain ⟨p, hp⟩ := Option.isSome_iff_exists.mp q6
          obtain ⟨x, rfl, -⟩ := yiv_ok hG hp e
          obtain ⟨b, g1, g2⟩ := yA.get hh q2
          obtain rfl := yce_ints g2
          refine ⟨_, List.mem_cons_self, ρ, cl, cr3, _, yext.rf, hG, hl, hr, yA.set (yce_am (yarr_set (yarr_map _) e)) hh, Or.inl (ystepH ?_)⟩
          dsimp only [zstH]
          rw [g1]
          exact if_pos q5
        · cases hs
      · next q2 =>
        split at hs
        · next q =>
          cases hs
          obtain ⟨rfl, q5, q6⟩ := q
          obtain ⟨b, cr, rfl, e, b2, cr2, rfl, e2, b3, cr3, rfl, e3, hr⟩ := hst
          obtain rfl := e2
          obtain rfl := e3
          obtain ⟨p, hp⟩ := Option.isSome_iff_exists.mp q6
          obtain ⟨x, rfl, -⟩ := yiv_ok hG hp e
          obtain ⟨b, g1, g2⟩ := yA.get hh q2
          obtain ⟨l, rfl, g3⟩ := yce_arr g2
          have hlen := yA.len g3
          rw [List.length_map] at hlen
          refine ⟨_, List.mem_cons_self, ρ, cl, cr3, _, yext.rf, hG, hl, hr, yA.set (yce_am (yarr_set g3 e)) hh, Or.inl (ystepH ?_)⟩
          dsimp only [zstH]
          rw [g1]
          exact if_pos (by rw [hlen]; exact q5)
        · cases hs
      · cases hs
    · cases hs
  | _ =>
    first
    | exact nomatch (show (none : Option (List yS)) = some _ from hs)
    | (dsimp only [ysy] at hs
       split at hs
       · split at hs
         · next q =>
           cases hs
           obtain ⟨qb, qa, qc, ql⟩ := q
           obtain ⟨b, cr, rfl, e, b2, cr2, rfl, e2, hr⟩ := hst
           obtain ⟨p, hp⟩ := Option.isSome_iff_exists.mp qa
           obtain ⟨p2, hp2⟩ := Option.isSome_iff_exists.mp qc
           obtain ⟨x, rfl, -⟩ := yiv_ok hG hp e2
           obtain ⟨y, rfl, -⟩ := yiv_ok hG hp2 e
           obtain ⟨z, hz⟩ := ybin_ok (X := X) qb pc x y
           have hx : yext ρ (ρ.1 ++ [z], ρ.2) := ⟨⟨[z], rfl⟩, ⟨[], by simp⟩, rfl⟩
           refine ⟨_, List.mem_cons_self, (ρ.1 ++ [z], ρ.2), cl, _, ch, hx, yG_push hG, hl.ext hx, y0 (v := .int z) ⟨z, ?_, rfl⟩ (yvs.ext hx hr), hh.ext hx, Or.inl (ystepI (hz cl cr2 ch))⟩
           show (ρ.1 ++ [z])[(UInt32.ofNat _).toNat]? = some z
           rw [UInt32.toNat_ofNat_of_lt' (by exact ql), ← hG.1]
           simp
         · cases hs
       · cases hs)
