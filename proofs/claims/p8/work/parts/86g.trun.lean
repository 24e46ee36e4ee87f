/-! Runs with symbols over a tree of cells. -/
abbrev fO : Type := yE × Option Value × fH
def fcall (X : zX) (I : zI) (mcl : Nat → Nat) (c : Nat) (i : Instr) (st : List Value) (h : fH) : Option (Nat × List Value × List Value) :=
  match i with
  | .invokevirtual j => match I c j with
    | some (1, mi, n) => match st.drop n with
      | .ref b :: r => match hget h b with
        | some (ci, .inr (.inr (.inr _))) => if ci = mcl mi ∧ n ≤ st.length ∧ zw8 r = true then some (mi, .ref b :: (st.take n).reverse, r) else none
        | _ => none
      | .retAddr b :: r => if zxcl X b = some (mcl mi) ∧ n ≤ st.length ∧ zw8 r = true then some (mi, .retAddr b :: (st.take n).reverse, r) else none
      | _ => none
    | _ => none
  | .invokestatic j => match I c j with
    | some (2, mi, n) => if n ≤ st.length ∧ zw8 (st.drop n) = true then some (mi, (st.take n).reverse, st.drop n) else none
    | _ => none
  | .invokespecial j => match I c j with
    | some (3, mi, n) => match st.drop n with
      | .ref b :: r => if n ≤ st.length ∧ zw8 r = true then some (mi, .ref b :: (st.take n).reverse, r) else none
      | _ => none
    | some (4, mi, n) => match st.drop n with
      | .ref b :: r => if n ≤ st.length ∧ zw8 r = true then some (mi, .ref b :: (st.take n).reverse, r) else none
      | _ => none
    | _ => none
  | _ => none
theorem fcall_ok {X : zX} {I : zI} {mcl : Nat → Nat} {c : Nat} {i : Instr} {st : List Value} {h : fH} (hk : hok h) : fcall X I mcl c i st h = zcall X I mcl c i st (hL h) := by
  unfold fcall zcall
  simp only [hget_ok hk]
  rfl
/-- symbols put into cells -/
def fsyH (X : zX) (c : Nat) (i : Instr) (pc : Nat) (E : yE) (ls : zL) (st : List Value) (h : fH) : Option (yE × Nat × zL × List Value × fH) :=
  match i with
  | .putfield j => match st with
    | .float s :: .ref a :: r => match zfld X c j, hget h a with
      | some (ci, k), some (ci', .inr (.inr (.inr fs))) => if ci' = ci ∧ k < fs.length ∧ zfin X ci k = false ∧ zty X ci k = .int then some (E, pc + 3, ls, r, hset h a (ci, .inr (.inr (.inr (fs.set k (.float s)))))) else none
      | _, _ => none
    | _ => none
  | .iastore => match st with
    | v :: .int n :: .ref a :: r => match hget h a with
      | some (t, .inl l) => if t = 0 ∧ zidx n l.length = true ∧ (yiv E v).isSome = true then some (E, pc + 1, ls, r, hset h a (100, .inr (.inr (.inr ((l.map Value.int).set n.toNatClampNeg v))))) else none
      | some (t, .inr (.inr (.inr fs))) => if t = 100 ∧ zidx n fs.length = true ∧ (yiv E v).isSome = true then some (E, pc + 1, ls, r, hset h a (100, .inr (.inr (.inr (fs.set n.toNatClampNeg v))))) else none
      | _ => none
    | _ => none
  | _ => none
theorem fsyH_ok {X : zX} {nL c : Nat} {i : Instr} {pc : Nat} {E : yE} {ls : zL} {st : List Value} {h : fH} {s : yE × Nat × zL × List Value × fH} (hk : hok h) (hs : fsyH X c i pc E ls st h = some s) : ysy X nL c i pc E ls st (hL h) = some [(s.1, s.2.1, s.2.2.1, s.2.2.2.1, hL s.2.2.2.2)] ∧ hok s.2.2.2.2 := by
  cases i with
  | putfield j =>
    dsimp only [fsyH] at hs
    split at hs
    · split at hs
      · next q1 q2 =>
        split at hs
        · next q3 =>
          cases hs
          rw [hget_ok hk] at q2
          refine ⟨?_, (hset_ok hk q2).2⟩
          dsimp only [ysy]
          rw [q1, q2]
          dsimp only
          rw [if_pos q3, (hset_ok hk q2).1]
        · cases hs
      · cases hs
    · cases hs
  | iastore =>
    dsimp only [fsyH] at hs
    split at hs
    · split at hs
      · next q2 =>
        split at hs
        · next q3 =>
          cases hs
          rw [hget_ok hk] at q2
          refine ⟨?_, (hset_ok hk q2).2⟩
          dsimp only [ysy]
          rw [q2]
          dsimp only
          rw [if_pos q3, (hset_ok hk q2).1]
        · cases hs
      · next q2 =>
        split at hs
        · next q3 =>
          cases hs
          rw [hget_ok hk] at q2
          refine ⟨?_, (hset_ok hk q2).2⟩
          dsimp only [ysy]
          rw [q2]
          dsimp only
          rw [if_pos q3, (hset_ok hk q2).1]
        · cases hs
      · cases hs
    · cases hs
  | _ => exact nomatch (show (none : Option (yE × Nat × zL × List Value × fH)) = some _ from hs)
def yhp (h : zH) (s : yS) : yS := (s.1, s.2.1, s.2.2.1, s.2.2.2.1, h)
set_option maxHeartbeats 4000000 in
/-- a rule that goes through without any cell goes through with all -/
theorem ysy_dry {X : zX} {nL c : Nat} {i : Instr} {pc : Nat} {E : yE} {ls : zL} {st : List Value} {ss : List yS} (hs : ysy X nL c i pc E ls st [] = some ss) (h : zH) : ysy X nL c i pc E ls st h = some (ss.map (yhp h)) := by
  cases i with
  | putfield j =>
    exfalso
    dsimp only [ysy] at hs
    split at hs
    · split at hs
      · next q2 => simp at q2
      · cases hs
    · cases hs
  | iastore =>
    exfalso
    dsimp only [ysy] at hs
    split at hs
    · split at hs
      · next q2 => simp at q2
      · next q2 => simp at q2
      · cases hs
    · cases hs
  | iload_n k =>
    dsimp only [ysy] at hs ⊢
    split at hs
    · cases hs; rfl
    · cases hs
  | iload k =>
    dsimp only [ysy] at hs ⊢
    split at hs
    · cases hs; rfl
    · cases hs
  | istore_n k =>
    dsimp only [ysy] at hs ⊢
    split at hs
    · split at hs
      · next q => cases hs; rw [if_pos q]; rfl
      · cases hs
    · cases hs
  | istore k =>
    dsimp only [ysy] at hs ⊢
    split at hs
    · split at hs
      · next q => cases hs; rw [if_pos q]; rfl
      · cases hs
    · cases hs
  | ifCond cd off =>
    dsimp only [ysy] at hs ⊢
    split at hs
    · split at hs
      · next q =>
        cases hs
        rw [if_pos q, List.map_append, List.map_map, List.map_map]
        rfl
      · cases hs
    · cases hs
  | if_icmp cd off =>
    dsimp only [ysy] at hs ⊢
    split at hs
    · split at hs
      · next q =>
        cases hs
        rw [if_pos q, List.map_append, List.map_map, List.map_map]
        rfl
      · cases hs
    · cases hs
  | tableswitch d lo hi offs =>
    dsimp only [ysy] at hs ⊢
    split at hs
    · split at hs
      · next p hp =>
        split at hs
        · next q =>
          cases hs
          rw [if_pos q]
          unfold yone
          rw [List.map_append, List.map_map, List.map_map]
          rfl
        · cases hs
      · cases hs
    · cases hs
  | lookupswitch d ps =>
    dsimp only [ysy] at hs ⊢
    split at hs
    · split at hs
      · next p hp =>
        split at hs
        · next q =>
          cases hs
          rw [if_pos q]
          unfold yone
          rw [List.map_append, List.map_map, List.map_map]
          rfl
        · cases hs
      · cases hs
    · cases hs
  | iaload =>
    dsimp only [ysy] at hs ⊢
    split at hs
    · split at hs
      · next p hp =>
        split at hs
        · next q =>
          cases hs
          rw [if_pos q]
          unfold yone
          rw [List.map_map]
          rfl
        · cases hs
      · cases hs
    · cases hs
  | _ =>
    first
    | exact nomatch (show (none : Option (List yS)) = some _ from hs)
    | (dsimp only [ysy] at hs ⊢
       split at hs
       · split at hs
         · next q => cases hs; rw [if_pos q]; rfl
         · cases hs
       · cases hs)
def fget (B pc : Nat) : Nat := Nat.mod (Nat.shiftRight B (Nat.mul 40 pc)) 1099511627776
noncomputable def fst2 (X : zX) (nL : Nat) (ini : Bool) (c : Nat) (w : Nat) (pc : Nat) (ls : zL) (st : List Value) (h : fH) : Option (Nat × zL × List Value × fH) := fstep X nL ini c (Nat.mod w 256) (Nat.mod (Nat.div w 256) 65536) (Nat.div w 16777216) pc ls st h
def fdec2 (w : Nat) : Instr := fdec (Nat.mod w 256) (Nat.mod (Nat.div w 256) 65536) (Nat.div w 16777216)
noncomputable def fslow (X : zX) (I : zI) (mcl : Nat → Nat) (C : Nat → yE → List Value → fH → Option (List fO)) (c : Nat) (nL : Nat) (rt : Option FieldType) (tab : Nat → Option (Instr × Nat)) (k : yE → Nat → zL → List Value → fH → Option (List fO)) (E : yE) (pc : Nat) (ls : zL) (st : List Value) (h : fH) : Option (List fO) := match tab pc with
  | none => none
  | some (i, _) => match zret rt i st with
    | some r => some [(E, r, h)]
    | none => match fcall X I mcl c i st h with
      | some (mi, as, rest) => match C mi E as h with
        | some os => yseq (fun o => k o.1 (pc + 3) ls (o.2.1.toList ++ rest) o.2.2) os
        | none => none
      | none => match zobjI I c i st with
        | some rest => k E (pc + 3) ls rest h
        | none => match zstI X i pc ls st [] with
          | some (pc1, ls1, st1, _) => k E pc1 ls1 st1 h
          | none => match ysy X nL c i pc E ls st [] with
            | some ss => yseq (fun s => k s.1 s.2.1 s.2.2.1 s.2.2.2.1 h) ss
            | none => match fsyH X c i pc E ls st h with
              | some s => k s.1 s.2.1 s.2.2.1 s.2.2.2.1 s.2.2.2.2
              | none => none
noncomputable def fnext (X : zX) (I : zI) (mcl : Nat → Nat) (C : Nat → yE → List Value → fH → Option (List fO)) (c : Nat) (ini : Bool) (nL : Nat) (rt : Option FieldType) (tab : Nat → Option (Instr × Nat)) (B : Nat) (k : yE → Nat → zL → List Value → fH → Option (List fO)) (E : yE) (pc : Nat) (ls : zL) (st : List Value) (h : fH) : Option (List fO) := match fst2 X nL ini c (fget B pc) pc ls st h with
  | some q => k E q.1 q.2.1 q.2.2.1 q.2.2.2
  | none => fslow X I mcl C c nL rt tab k E pc ls st h
noncomputable def frun (X : zX) (I : zI) (mcl : Nat → Nat) (C : Nat → yE → List Value → fH → Option (List fO)) (c : Nat) (ini : Bool) (nL : Nat) (rt : Option FieldType) (tab : Nat → Option (Instr × Nat)) (B : Nat) (n : Nat) : yE → Nat → zL → List Value → fH → Option (List fO) :=
  Nat.rec (motive := fun _ => yE → Nat → zL → List Value → fH → Option (List fO)) (fun _ _ _ _ _ => none) (fun _ k => fnext X I mcl C c ini nL rt tab B k) n
theorem frun_s {X : zX} {I : zI} {mcl : Nat → Nat} {C : Nat → yE → List Value → fH → Option (List fO)} {c : Nat} {ini : Bool} {nL : Nat} {rt : Option FieldType} {tab : Nat → Option (Instr × Nat)} {B : Nat} (n : Nat) (E : yE) (pc : Nat) (ls : zL) (st : List Value) (h : fH) : frun X I mcl C c ini nL rt tab B (n + 1) E pc ls st h = fnext X I mcl C c ini nL rt tab B (frun X I mcl C c ini nL rt tab B n) E pc ls st h := rfl
/-- the number says what the table says -/
def fok (tab : Nat → Option (Instr × Nat)) (B : Nat) : Prop := ∀ pc : Nat, Nat.mod (fget B pc) 256 ≠ 0 → ∃ len : Nat, tab pc = some (fdec2 (fget B pc), len)
theorem fst2_ok {X : zX} {nL : Nat} {ini : Bool} {c B pc : Nat} {tab : Nat → Option (Instr × Nat)} {ls : zL} {st : List Value} {h : fH} {q : Nat × zL × List Value × fH} (hk : hok h) (hf : fok tab B) (hs : fst2 X nL ini c (fget B pc) pc ls st h = some q) : ∃ (i : Instr) (len : Nat), tab pc = some (i, len) ∧ zstep X nL ini c i pc ls st (hL h) = some (Tf hL q) ∧ yput i st = false ∧ hok q.2.2.2 := by
  have h0 : Nat.mod (fget B pc) 256 ≠ 0 := by
    intro e
    unfold fst2 fstep at hs
    rw [e] at hs
    cases hs
  obtain ⟨len, hl⟩ := hf pc h0
  obtain ⟨g1, g2, g3⟩ := fstep_ok hk hs
  exact ⟨_, len, hl, g1, g2, g3⟩
def fEnds (ρ : yR) (P : Option Value → zH → Prop) (os : List fO) : Prop := ∃ o ∈ os, ∃ (ρ' : yR) (r : Option Value) (h' : zH), yext ρ ρ' ∧ yG o.1 ρ' ∧ yrv ρ' o.2.1 r ∧ hok o.2.2 ∧ yhs ρ' (hL o.2.2) h' ∧ P r h'
theorem yput_no {X : zX} {i : Instr} {pc : Nat} {ls : zL} {st : List Value} {h : zH} {q : Nat × zL × List Value × zH} (hs : zstI X i pc ls st h = some q) : ∀ st2 : List Value, yput i st2 = false := by
  intro st2
  cases i with
  | putfield j => exact nomatch (show (none : Option (Nat × zL × List Value × zH)) = some _ from hs)
  | _ => rfl
section YS
variable {X0 X : zX} {I : zI} {mcl : Nat → Nat} {mt : zM}
set_option maxHeartbeats 4000000 in
theorem frun_ok {F : Nat → yE → List Value → fH → Option (List fO)} {C : zC} {c : Nat} {ini : Bool} {nL : Nat} {rt : Option FieldType} {tab : Nat → Option (Instr × Nat)} {B : Nat} (hf : fok tab B) (hX : yXX X0 X) (hm : ∀ k, mcl k < 100)
    (hF : ∀ (mi : Nat) (E : yE) (as : List Value) (h : fH) (os : List fO), F mi E as h = some os → hok h → ∀ (ρ : yR) (cas : List Value) (ch : zH), yG E ρ → yvs ρ as cas → yhs ρ (hL h) ch → fEnds ρ (fun r h' => C mi cas ch r h') os) :
    ∀ (n : Nat) (E : yE) (pc : Nat) (ls : zL) (st : List Value) (h : fH) (os : List fO), frun X0 I mcl F c ini nL rt tab B n E pc ls st h = some os → hok h → ∀ (ρ : yR) (cl : zL) (cst : List Value) (ch : zH), yG E ρ → yls ρ ls cl → yvs ρ st cst → yhs ρ (hL h) ch → fEnds ρ (fun r h' => zRun X I mcl C c ini nL rt tab n pc cl cst ch r h') os := by
  intro n
  induction n with
  | zero => intro E pc ls st h os q; cases q
  | succ n ih =>
    intro E pc ls st h os q hk ρ cl cst ch hG hl hst hh
    rw [frun_s] at q
    unfold fnext at q
    split at q
    · next w0 hs0 =>
      obtain ⟨pc1, ls1, st1, h1⟩ := w0
      obtain ⟨i, len, ht, hs, hp, hk1⟩ := fst2_ok hk hf hs0
      obtain ⟨cl', cst', ch', g1, g2, g3, g4⟩ := yzstep hX hs hp hl hst hh
      obtain ⟨o, ho, ρ', r, h', k1, k2, k3, k0, k4, k5⟩ := ih _ _ _ _ _ _ q hk1 ρ cl' cst' ch' hG g2 g3 g4
      exact ⟨o, ho, ρ', r, h', k1, k2, k3, k0, k4, ⟨i, len, ht, Or.inr (Or.inl ⟨pc1, cl', cst', ch', g1, k5⟩)⟩⟩
    · unfold fslow at q
      split at q
      · cases q
      · next i len ht =>
        split at q
        · next r hr =>
          cases q
          obtain ⟨g1, g2⟩ := yzret hr hst
          refine ⟨_, List.mem_cons_self, ρ, r, ch, yext.rf, hG, ?_, hk, hh, ⟨i, len, ht, Or.inl ⟨g1, rfl⟩⟩⟩
          cases r with
          | none => exact rfl
          | some v => exact ⟨v, rfl, yv_r (g2 v rfl)⟩
        · split at q
          · next mi as rest hc =>
            split at q
            · next os1 hC =>
              rw [fcall_ok hk] at hc
              obtain ⟨cas, crest, g1, g2, g3⟩ := yzcall (I := I) hX hm hc hst hh
              obtain ⟨o, ho, ρ1, r1, h1, k1, k2, k3, k0, k4, k5⟩ := hF _ _ _ _ _ hC hk ρ cas ch hG g2 hh
              obtain ⟨x, hx, hin⟩ := yseq_in q ho
              obtain ⟨o2, ho2, ρ2, r2, h2, e1, e2, e3, e0, e4, e5⟩ := ih _ _ _ _ _ _ hx k0 ρ1 cl (r1.toList ++ crest) h1 k2 (hl.ext k1) (yA.app (g3.ext k1) (yrv_list k3)) k4
              exact ⟨o2, hin _ ho2, ρ2, r2, h2, k1.trans e1, e2, e3, e0, e4, ⟨i, len, ht, Or.inr (Or.inr (Or.inr ⟨mi, cas, crest, r1, h1, g1, k5, e5⟩))⟩⟩
            · cases q
          · split at q
            · next rest hr =>
              obtain ⟨crest, g1, g2⟩ := yzobjI hr hst
              obtain ⟨o, ho, ρ', r, h', k1, k2, k3, k0, k4, k5⟩ := ih _ _ _ _ _ _ q hk ρ cl crest ch hG hl g2 hh
              exact ⟨o, ho, ρ', r, h', k1, k2, k3, k0, k4, ⟨i, len, ht, Or.inr (Or.inr (Or.inl ⟨crest, g1, k5⟩))⟩⟩
            · split at q
              · next pc1 ls1 st1 h1 hs =>
                obtain ⟨rfl, -, cst', g1, g2⟩ := yzI (X := X) hs hst
                obtain ⟨o, ho, ρ', r, h', k1, k2, k3, k0, k4, k5⟩ := ih _ _ _ _ _ _ q hk ρ cl cst' ch hG hl g1 hh
                exact ⟨o, ho, ρ', r, h', k1, k2, k3, k0, k4, ⟨i, len, ht, Or.inr (Or.inl ⟨pc1, cl, cst', ch, ystepI (g2 cl ch), k5⟩)⟩⟩
              · split at q
                · next ss hs =>
                  obtain ⟨s, hin, ρ1, cl1, cst1, ch1, k1, k2, k3, k4, k5, k6⟩ := ysy_ok (ini := ini) hX (ysy_dry hs (hL h)) hG hl hst hh
                  obtain ⟨s0, hin0, rfl⟩ := List.mem_map.mp hin
                  obtain ⟨x, hx, hin2⟩ := yseq_in q hin0
                  obtain ⟨o, ho, ρ2, r2, h2, e1, e2, e3, e0, e4, e5⟩ := ih _ _ _ _ _ _ hx hk ρ1 cl1 cst1 ch1 k2 k3 k4 k5
                  refine ⟨o, hin2 _ ho, ρ2, r2, h2, k1.trans e1, e2, e3, e0, e4, ?_⟩
                  rcases k6 with k6 | ⟨k6, k7, k8, k9⟩
                  · exact ⟨i, len, ht, Or.inr (Or.inl ⟨_, cl1, cst1, ch1, k6, e5⟩)⟩
                  · have k6' : s0.2.1 = pc := k6
                    rw [k6', k7, k8, k9] at e5
                    exact zRun_more _ _ _ _ _ _ _ e5
                · split at q
                  · next s hs =>
                    obtain ⟨hs1, hk1⟩ := fsyH_ok (nL := nL) hk hs
                    obtain ⟨s1, hin, ρ1, cl1, cst1, ch1, k1, k2, k3, k4, k5, k6⟩ := ysy_ok (ini := ini) hX hs1 hG hl hst hh
                    obtain rfl := List.mem_singleton.mp hin
                    obtain ⟨o, ho, ρ2, r2, h2, e1, e2, e3, e0, e4, e5⟩ := ih _ _ _ _ _ _ q hk1 ρ1 cl1 cst1 ch1 k2 k3 k4 k5
                    refine ⟨o, ho, ρ2, r2, h2, k1.trans e1, e2, e3, e0, e4, ?_⟩
                    rcases k6 with k6 | ⟨k6, k7, k8, k9⟩
                    · exact ⟨i, len, ht, Or.inr (Or.inl ⟨_, cl1, cst1, ch1, k6, e5⟩)⟩
                    · have k6' : s.2.1 = pc := k6
                      rw [k6', k7, k8, k9] at e5
                      exact zRun_more _ _ _ _ _ _ _ e5
                  · cases q
noncomputable def fev (X : zX) (I : zI) (mcl : Nat → Nat) (mt : zM) (fb : Nat → Nat) : Nat → Nat → yE → List Value → fH → Option (List fO)
  | 0, _, _, _, _ => none
  | d + 1, mi, E, as, h => match mt mi with
    | some (c, ini, nL, rt, tab) => bif Nat.ble (lg_sl as).length nL then frun X I mcl (fev X I mcl mt fb d) c ini nL rt tab (fb mi) 100000 E 0 (lv_args 0 as) [] h else none
    | none => none
theorem fev_ok {fb : Nat → Nat} (hfb : ∀ (mi c : Nat) (ini : Bool) (nL : Nat) (rt : Option FieldType) (tab : Nat → Option (Instr × Nat)), mt mi = some (c, ini, nL, rt, tab) → fok tab (fb mi)) (hX : yXX X0 X) (hm : ∀ k, mcl k < 100) : ∀ (d mi : Nat) (E : yE) (as : List Value) (h : fH) (os : List fO), fev X0 I mcl mt fb d mi E as h = some os → hok h → ∀ (ρ : yR) (cas : List Value) (ch : zH), yG E ρ → yvs ρ as cas → yhs ρ (hL h) ch → fEnds ρ (fun r h' => zEv X I mcl mt d mi cas ch r h') os := by
  intro d
  induction d with
  | zero => intro mi E as h os q; cases q
  | succ d ih =>
    intro mi E as h os q hk ρ cas ch hG has hh
    unfold fev at q
    split at q
    · next c ini nL rt tab hmi =>
      cases hb : Nat.ble (lg_sl as).length nL with
      | false => rw [hb] at q; cases q
      | true =>
        rw [hb] at q
        dsimp only [cond] at q
        have hlg := Nat.le_of_ble_eq_true hb
        obtain ⟨o, ho, ρ', r, h', k1, k2, k3, k0, k4, k5⟩ := frun_ok (hfb _ _ _ _ _ _ hmi) hX hm ih _ _ _ _ _ _ _ q hk ρ (lv_args 0 cas) [] ch hG (yargs 0 has) rfl hh
        exact ⟨o, ho, ρ', r, h', k1, k2, k3, k0, k4, ⟨c, ini, nL, rt, tab, 100000, hmi, by rw [ysl_len has]; exact hlg, k5⟩⟩
    · cases q
end YS
