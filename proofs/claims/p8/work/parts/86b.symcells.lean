/-! Symbols: cells, calls. -/
def yXX (X0 X : zX) : Prop :=
  (∀ (c j : Nat) (q : Nat × Nat), zfld X0 c j = some q → zfld X c j = some q ∧ q.1 < 100) ∧
  (∀ (c j : Nat) (v : Value), zkon X0 c j = some v → zkon X c j = some v) ∧
  (∀ (c j : Nat) (q : Nat × List Value), znew X0 c j = some q → znew X c j = some q ∧ q.1 < 100 ∧ ∀ v ∈ q.2, ysym v = false) ∧
  (∀ (c j e : Nat) (v : Value), zxget X0 c j e = some v → zxget X c j e = some v ∧ ysym v = false) ∧
  (∀ (e : Nat) (q : Bool × List Int32), zxarr X0 e = some q → zxarr X e = some q) ∧
  (zty X0 = zty X ∧ zfin X0 = zfin X ∧ zisP X0 = zisP X ∧ zpc X0 = zpc X ∧ zpc X < 100) ∧
  (∀ (c j : Nat) (v : Value), zsta X0 c j = some v → zsta X c j = some v ∧ ysym v = false) ∧
  (∀ (e q : Nat), zxcl X0 e = some q → zxcl X e = some q)
/-- a symbol is put into a field: a rule of its own -/
def yput (i : Instr) (st : List Value) : Bool := match i with
  | .putfield _ => match st with
    | v :: _ => ysym v
    | [] => false
  | _ => false
theorem yputs_eq {X0 X : zX} (hX : yXX X0 X) (ini : Bool) (c ci k : Nat) (v : Value) : zputs X ini c ci k v = zputs X0 ini c ci k v := by
  obtain ⟨-, -, -, -, -, ⟨e1, e2, -, -, -⟩, -, -⟩ := hX
  unfold zputs
  rw [e1, e2]
theorem yrv_sym (o : Option Nat) : ysym (zrv o) = false := by cases o <;> rfl
theorem yhs_len {ρ : yR} {h ch : zH} (hh : yhs ρ h ch) : ch.length = h.length := yA.len hh
set_option maxHeartbeats 8000000 in
theorem yzH {X0 X : zX} {ρ : yR} {ini : Bool} {c : Nat} {i : Instr} {pc : Nat} {ls : zL} {st : List Value} {h : zH} {pc' : Nat} {ls' : zL} {st' : List Value} {h' : zH} {cst : List Value} {ch : zH} (hX : yXX X0 X) (hs : zstH X0 ini c i pc ls st h = some (pc', ls', st', h')) (hp : yput i st = false) (hst : yvs ρ st cst) (hh : yhs ρ h ch) : ls' = ls ∧ ∃ (cst' : List Value) (ch' : zH), yvs ρ st' cst' ∧ yhs ρ h' ch' ∧ ∀ cl : zL, zstH X ini c i pc cl cst ch = some (pc', cl, cst', ch') := by
  obtain ⟨x1, x2, x3, x4, x5, ⟨x6, x7, x8, x9, x10⟩, x11, x12⟩ := id hX
  cases i with
  | getfield j =>
    dsimp only [zstH] at hs
    split at hs
    · obtain ⟨c1, rfl, h1⟩ := y1 hst (fun _ h => h)
      split at hs
      · next q1 q2 =>
        split at hs
        · next q3 =>
          split at hs
          · next q4 =>
            cases hs
            subst q4
            obtain ⟨f1, f2⟩ := x1 _ _ _ q1
            obtain ⟨b, g1, g2⟩ := yA.get hh q2
            obtain ⟨gs, rfl, g3⟩ := yce_obj g2 f2
            obtain ⟨v, g4, g5⟩ := yA.get g3 q3
            exact ⟨rfl, _, _, y0 g5 h1, hh, fun _ => by dsimp only [zstH]; rw [f1, g1]; dsimp only; rw [g4]; dsimp only; rw [if_pos rfl]⟩
          · cases hs
        · cases hs
      · cases hs
    · obtain ⟨c1, rfl, h1⟩ := y1 hst (fun _ h => h)
      split at hs
      · next q1 =>
        cases hs
        obtain ⟨f1, f2⟩ := x4 _ _ _ _ q1
        exact ⟨rfl, _, _, y0 (yv_r f2) h1, hh, fun _ => by dsimp only [zstH]; rw [f1]⟩
      · cases hs
    · cases hs
  | putfield j =>
    dsimp only [zstH] at hs
    split at hs
    · obtain ⟨c1, rfl, h1⟩ := y1 hst (fun _ q => yv_c q hp)
      obtain ⟨c2, rfl, h2⟩ := y1 h1 (fun _ h => h)
      split at hs
      · next q1 q2 =>
        split at hs
        · next q4 =>
          cases hs
          obtain ⟨rfl, q5, q6⟩ := q4
          obtain ⟨f1, f2⟩ := x1 _ _ _ q1
          obtain ⟨b, g1, g2⟩ := yA.get hh q2
          obtain ⟨gs, rfl, g3⟩ := yce_obj g2 f2
          refine ⟨rfl, _, _, h2, yA.set (yce_mk f2 (yA.set (yv_r hp) g3)) hh, fun _ => ?_⟩
          dsimp only [zstH]
          rw [f1, g1]
          dsimp only
          rw [if_pos ⟨rfl, by rw [yA.len g3]; exact q5, by rw [yputs_eq hX]; exact q6⟩]
        · cases hs
      · cases hs
    · cases hs
  | getstatic j =>
    dsimp only [zstH] at hs
    split at hs
    · next q1 =>
      cases hs
      obtain ⟨f1, f2⟩ := x11 _ _ _ q1
      exact ⟨rfl, _, _, y0 (yv_r f2) hst, hh, fun _ => by dsimp only [zstH]; rw [f1]⟩
    · cases hs
  | ldc j =>
    dsimp only [zstH] at hs
    split at hs
    · next q1 =>
      cases hs
      have f1 := x2 _ _ _ q1
      exact ⟨rfl, _, _, y0 (yv_r rfl) hst, hh, fun _ => by dsimp only [zstH]; rw [f1]⟩
    · next q1 =>
      cases hs
      have f1 := x2 _ _ _ q1
      exact ⟨rfl, _, _, y0 (yv_r rfl) hst, hh, fun _ => by dsimp only [zstH]; rw [f1]⟩
    · cases hs
  | ldc_w j =>
    dsimp only [zstH] at hs
    split at hs
    · next q1 =>
      cases hs
      have f1 := x2 _ _ _ q1
      exact ⟨rfl, _, _, y0 (yv_r rfl) hst, hh, fun _ => by dsimp only [zstH]; rw [f1]⟩
    · cases hs
  | ldc2_w j =>
    dsimp only [zstH] at hs
    split at hs
    · next q1 =>
      cases hs
      have f1 := x2 _ _ _ q1
      exact ⟨rfl, _, _, y0 (yv_r rfl) hst, hh, fun _ => by dsimp only [zstH]; rw [f1]⟩
    · cases hs
  | iaload =>
    dsimp only [zstH] at hs
    split at hs
    · obtain ⟨c1, rfl, h1⟩ := y1 hst (fun _ h => h)
      obtain ⟨c2, rfl, h2⟩ := y1 h1 (fun _ h => h)
      split at hs
      · next q2 =>
        split at hs
        · next q3 =>
          cases hs
          obtain ⟨b, g1, g2⟩ := yA.get hh q2
          obtain rfl := yce_ints g2
          exact ⟨rfl, _, _, y0 (yv_r rfl) h2, hh, fun _ => by dsimp only [zstH]; rw [g1]; exact if_pos q3⟩
        · cases hs
      · cases hs
    · obtain ⟨c1, rfl, h1⟩ := y1 hst (fun _ h => h)
      obtain ⟨c2, rfl, h2⟩ := y1 h1 (fun _ h => h)
      split at hs
      · next q2 =>
        split at hs
        · next q3 =>
          cases hs
          have f1 := x5 _ _ q2
          exact ⟨rfl, _, _, y0 (yv_r rfl) h2, hh, fun _ => by dsimp only [zstH]; rw [f1]; exact if_pos q3⟩
        · cases hs
      · cases hs
    · cases hs
  | baload =>
    dsimp only [zstH] at hs
    split at hs
    · obtain ⟨c1, rfl, h1⟩ := y1 hst (fun _ h => h)
      obtain ⟨c2, rfl, h2⟩ := y1 h1 (fun _ h => h)
      split at hs
      · next q2 =>
        split at hs
        · next q3 =>
          cases hs
          obtain ⟨b, g1, g2⟩ := yA.get hh q2
          obtain rfl := yce_ints g2
          exact ⟨rfl, _, _, y0 (yv_r rfl) h2, hh, fun _ => by dsimp only [zstH]; rw [g1]; exact if_pos q3⟩
        · cases hs
      · cases hs
    · obtain ⟨c1, rfl, h1⟩ := y1 hst (fun _ h => h)
      obtain ⟨c2, rfl, h2⟩ := y1 h1 (fun _ h => h)
      split at hs
      · next q2 =>
        split at hs
        · next q3 =>
          cases hs
          have f1 := x5 _ _ q2
          exact ⟨rfl, _, _, y0 (yv_r rfl) h2, hh, fun _ => by dsimp only [zstH]; rw [f1]; exact if_pos q3⟩
        · cases hs
      · cases hs
    · cases hs
  | laload =>
    dsimp only [zstH] at hs
    split at hs
    · obtain ⟨c1, rfl, h1⟩ := y1 hst (fun _ h => h)
      obtain ⟨c2, rfl, h2⟩ := y1 h1 (fun _ h => h)
      split at hs
      · next q2 =>
        split at hs
        · next q3 =>
          cases hs
          obtain ⟨b, g1, g2⟩ := yA.get hh q2
          obtain rfl := g2
          exact ⟨rfl, _, _, y0 (yv_r rfl) h2, hh, fun _ => by dsimp only [zstH]; rw [g1]; exact if_pos q3⟩
        · cases hs
      · cases hs
    · cases hs
  | aaload =>
    dsimp only [zstH] at hs
    split at hs
    · obtain ⟨c1, rfl, h1⟩ := y1 hst (fun _ h => h)
      obtain ⟨c2, rfl, h2⟩ := y1 h1 (fun _ h => h)
      split at hs
      · next q2 =>
        split at hs
        · next q3 =>
          cases hs
          obtain ⟨b, g1, g2⟩ := yA.get hh q2
          obtain rfl := yce_refs g2 (by decide)
          exact ⟨rfl, _, _, y0 (yv_r (yrv_sym _)) h2, hh, fun _ => by dsimp only [zstH]; rw [g1]; exact if_pos q3⟩
        · cases hs
      · cases hs
    · cases hs
  | iastore =>
    dsimp only [zstH] at hs
    split at hs
    · obtain ⟨c1, rfl, h1⟩ := y1 hst (fun _ h => h)
      obtain ⟨c2, rfl, h2⟩ := y1 h1 (fun _ h => h)
      obtain ⟨c3, rfl, h3⟩ := y1 h2 (fun _ h => h)
      split at hs
      · next q2 =>
        split at hs
        · next q3 =>
          cases hs
          obtain ⟨b, g1, g2⟩ := yA.get hh q2
          obtain rfl := yce_ints g2
          exact ⟨rfl, _, _, h3, yA.set (yce_im) hh, fun _ => by dsimp only [zstH]; rw [g1]; exact if_pos q3⟩
        · cases hs
      · cases hs
    · cases hs
  | bastore =>
    dsimp only [zstH] at hs
    split at hs
    · obtain ⟨c1, rfl, h1⟩ := y1 hst (fun _ h => h)
      obtain ⟨c2, rfl, h2⟩ := y1 h1 (fun _ h => h)
      obtain ⟨c3, rfl, h3⟩ := y1 h2 (fun _ h => h)
      split at hs
      · next q2 =>
        split at hs
        · next q3 =>
          cases hs
          obtain ⟨b, g1, g2⟩ := yA.get hh q2
          obtain rfl := yce_ints g2
          exact ⟨rfl, _, _, h3, yA.set (yce_im) hh, fun _ => by dsimp only [zstH]; rw [g1]; exact if_pos q3⟩
        · cases hs
      · cases hs
    · cases hs
  | lastore =>
    dsimp only [zstH] at hs
    split at hs
    · obtain ⟨c1, rfl, h1⟩ := y1 hst (fun _ h => h)
      obtain ⟨c2, rfl, h2⟩ := y1 h1 (fun _ h => h)
      obtain ⟨c3, rfl, h3⟩ := y1 h2 (fun _ h => h)
      split at hs
      · next q2 =>
        split at hs
        · next q3 =>
          cases hs
          obtain ⟨b, g1, g2⟩ := yA.get hh q2
          obtain rfl := g2
          exact ⟨rfl, _, _, h3, yA.set (show yce ρ (_, .inr (.inl _)) (_, .inr (.inl _)) from rfl) hh, fun _ => by dsimp only [zstH]; rw [g1]; exact if_pos q3⟩
        · cases hs
      · cases hs
    · cases hs
  | aastore =>
    dsimp only [zstH] at hs
    split at hs
    · obtain ⟨c1, rfl, h1⟩ := y1 hst (fun _ h => h)
      obtain ⟨c2, rfl, h2⟩ := y1 h1 (fun _ h => h)
      obtain ⟨c3, rfl, h3⟩ := y1 h2 (fun _ h => h)
      split at hs
      · next q2 q4 =>
        split at hs
        · next q3 =>
          cases hs
          obtain ⟨b, g1, g2⟩ := yA.get hh q2
          obtain ⟨b2, g3, g4⟩ := yA.get hh q4
          obtain rfl := yce_refs g2 (by decide)
          obtain ⟨gs, rfl, g5⟩ := yce_obj g4 (by rw [q3.2, x9]; exact x10)
          refine ⟨rfl, _, _, h3, yA.set (yce_rm (by decide)) hh, fun _ => ?_⟩
          simp only [zstH, g1, g3]
          rw [if_pos ⟨q3.1, by rw [q3.2, x9]⟩]
        · cases hs
      · cases hs
    · cases hs
  | arraylength =>
    dsimp only [zstH] at hs
    split at hs
    · obtain ⟨c1, rfl, h1⟩ := y1 hst (fun _ h => h)
      split at hs
      · next q2 =>
        cases hs
        obtain ⟨b, g1, g2⟩ := yA.get hh q2
        obtain rfl := yce_ints g2
        exact ⟨rfl, _, _, y0 (yv_r rfl) h1, hh, fun _ => by simp [zstH, g1]⟩
      · next q2 =>
        cases hs
        obtain ⟨b, g1, g2⟩ := yA.get hh q2
        obtain rfl := yce_ints g2
        exact ⟨rfl, _, _, y0 (yv_r rfl) h1, hh, fun _ => by simp [zstH, g1]⟩
      · next q2 =>
        cases hs
        obtain ⟨b, g1, g2⟩ := yA.get hh q2
        obtain rfl := g2
        exact ⟨rfl, _, _, y0 (yv_r rfl) h1, hh, fun _ => by simp [zstH, g1]⟩
      · next q2 =>
        cases hs
        obtain ⟨b, g1, g2⟩ := yA.get hh q2
        obtain rfl := yce_refs g2 (by decide)
        exact ⟨rfl, _, _, y0 (yv_r rfl) h1, hh, fun _ => by simp [zstH, g1]⟩
      · cases hs
    · obtain ⟨c1, rfl, h1⟩ := y1 hst (fun _ h => h)
      split at hs
      · next q2 =>
        cases hs
        have f1 := x5 _ _ q2
        exact ⟨rfl, _, _, y0 (yv_r rfl) h1, hh, fun _ => by dsimp only [zstH]; rw [f1]⟩
      · cases hs
    · cases hs
  | new j =>
    dsimp only [zstH] at hs
    split at hs
    · next q1 =>
      cases hs
      obtain ⟨f1, f2, f3⟩ := x3 _ _ _ q1
      refine ⟨rfl, .ref ch.length :: cst, _, y0 (by rw [yhs_len hh]; exact yv_r rfl) hst, yA.app ?_ hh, fun _ => by dsimp only [zstH]; rw [f1]⟩
      exact ⟨_, [], rfl, yce_mk f2 (yvs_r f3), rfl⟩
    · cases hs
  | newarray t =>
    cases t with
    | int =>
      dsimp only [zstH] at hs
      split at hs
      · obtain ⟨c1, rfl, h1⟩ := y1 hst (fun _ h => h)
        split at hs
        · cases hs
        · next q1 =>
          cases hs
          refine ⟨rfl, .ref ch.length :: c1, _, y0 (by rw [yhs_len hh]; exact yv_r rfl) h1, yA.app ?_ hh, fun _ => by dsimp only [zstH]; rw [if_neg q1]⟩
          exact ⟨_, [], rfl, yce_im, rfl⟩
      · cases hs
    | boolean =>
      dsimp only [zstH] at hs
      split at hs
      · obtain ⟨c1, rfl, h1⟩ := y1 hst (fun _ h => h)
        split at hs
        · cases hs
        · next q1 =>
          cases hs
          refine ⟨rfl, .ref ch.length :: c1, _, y0 (by rw [yhs_len hh]; exact yv_r rfl) h1, yA.app ?_ hh, fun _ => by dsimp only [zstH]; rw [if_neg q1]⟩
          exact ⟨_, [], rfl, yce_im, rfl⟩
      · cases hs
    | long =>
      dsimp only [zstH] at hs
      split at hs
      · obtain ⟨c1, rfl, h1⟩ := y1 hst (fun _ h => h)
        split at hs
        · cases hs
        · next q1 =>
          cases hs
          refine ⟨rfl, .ref ch.length :: c1, _, y0 (by rw [yhs_len hh]; exact yv_r rfl) h1, yA.app ?_ hh, fun _ => by dsimp only [zstH]; rw [if_neg q1]⟩
          exact ⟨_, [], rfl, rfl, rfl⟩
      · cases hs
    | _ => exact nomatch (show (none : Option (Nat × zL × List Value × zH)) = some _ from hs)
  | anewarray j =>
    dsimp only [zstH] at hs
    split at hs
    · obtain ⟨c1, rfl, h1⟩ := y1 hst (fun _ h => h)
      split at hs
      · cases hs
      · next q1 =>
        cases hs
        refine ⟨rfl, .ref ch.length :: c1, _, y0 (by rw [yhs_len hh]; exact yv_r rfl) h1, yA.app ?_ hh, fun _ => by dsimp only [zstH]; rw [if_neg (by rw [← x8]; exact q1)]⟩
        exact ⟨_, [], rfl, yce_rm (by decide), rfl⟩
    · cases hs
  | _ => exact nomatch (show (none : Option (Nat × zL × List Value × zH)) = some _ from hs)
theorem yI_no {X : zX} {nL : Nat} {i : Instr} {pc pc2 : Nat} {ls ls2 : zL} {st st2 : List Value} {h h2 : zH} {q : Nat × zL × List Value × zH} (hs : zstL nL i pc ls st h = some q) : zstI X i pc2 ls2 st2 h2 = none := by
  cases i with
  | _ => first | rfl | exact nomatch (show (none : Option (Nat × zL × List Value × zH)) = some _ from hs)
theorem yIL_no {X X' : zX} {nL : Nat} {ini : Bool} {c : Nat} {i : Instr} {pc pc2 : Nat} {ls ls2 : zL} {st st2 : List Value} {h h2 : zH} {q : Nat × zL × List Value × zH} (hs : zstH X ini c i pc ls st h = some q) : zstI X' i pc2 ls2 st2 h2 = none ∧ zstL nL i pc2 ls2 st2 h2 = none := by
  cases i with
  | _ => first | exact ⟨rfl, rfl⟩ | exact nomatch (show (none : Option (Nat × zL × List Value × zH)) = some _ from hs)
/-- what our machine does with symbols that it doesn't look at, it does with their values -/
theorem yzstep {X0 X : zX} {nL : Nat} {ρ : yR} {ini : Bool} {c : Nat} {i : Instr} {pc : Nat} {ls : zL} {st : List Value} {h : zH} {pc' : Nat} {ls' : zL} {st' : List Value} {h' : zH} {cl : zL} {cst : List Value} {ch : zH} (hX : yXX X0 X) (hs : zstep X0 nL ini c i pc ls st h = some (pc', ls', st', h')) (hp : yput i st = false) (hl : yls ρ ls cl) (hst : yvs ρ st cst) (hh : yhs ρ h ch) : ∃ (cl' : zL) (cst' : List Value) (ch' : zH), zstep X nL ini c i pc cl cst ch = some (pc', cl', cst', ch') ∧ yls ρ ls' cl' ∧ yvs ρ st' cst' ∧ yhs ρ h' ch' := by
  unfold zstep at hs
  split at hs
  · next q =>
    cases hs
    obtain ⟨rfl, rfl, cst', g1, g2⟩ := yzI (X := X) q hst
    exact ⟨cl, cst', ch, by unfold zstep; rw [g2], hl, g1, hh⟩
  · split at hs
    · next q =>
      cases hs
      obtain ⟨rfl, cl', cst', g1, g2, g3⟩ := yzL q hl hst
      exact ⟨cl', cst', ch, by unfold zstep; rw [yI_no q, g3], g1, g2, hh⟩
    · obtain ⟨rfl, cst', ch', g1, g2, g3⟩ := yzH hX hs hp hst hh
      obtain ⟨n1, n2⟩ := yIL_no (X' := X) (nL := nL) (pc2 := pc) (ls2 := cl) (st2 := cst) (h2 := ch) hs
      exact ⟨cl, cst', ch', by unfold zstep; rw [n1, n2]; exact g3 cl, hl, g1, g2⟩
theorem yzcall {X0 X : zX} {I : zI} {mcl : Nat → Nat} {ρ : yR} {c : Nat} {i : Instr} {st : List Value} {h : zH} {mi : Nat} {as rest : List Value} {cst : List Value} {ch : zH} (hX : yXX X0 X) (hm : ∀ k, mcl k < 100) (hs : zcall X0 I mcl c i st h = some (mi, as, rest)) (hst : yvs ρ st cst) (hh : yhs ρ h ch) : ∃ cas crest : List Value, zcall X I mcl c i cst ch = some (mi, cas, crest) ∧ yvs ρ as cas ∧ yvs ρ rest crest := by
  obtain ⟨-, -, -, -, -, -, -, x12⟩ := id hX
  have hlen : cst.length = st.length := yA.len hst
  cases i with
  | invokevirtual j =>
    dsimp only [zcall] at hs
    split at hs
    · next mi' n hI =>
      have hd := yA.drop n hst
      have ht := yA.rev (yA.take n hst)
      split at hs
      · next b r hb =>
        rw [hb] at hd
        obtain ⟨c1, e1, h1⟩ := y1 hd (fun _ h => h)
        split at hs
        · next q2 =>
          split at hs
          · next q3 =>
            cases hs
            obtain ⟨b2, g1, g2⟩ := yA.get hh q2
            obtain ⟨gs, rfl, g3⟩ := yce_obj g2 (by rw [q3.1]; exact hm _)
            refine ⟨_, _, ?_, y0 (yv_r rfl) ht, h1⟩
            simp only [zcall, hI, e1, g1]
            rw [if_pos ⟨q3.1, by rw [hlen]; exact q3.2.1, by rw [yw8 h1]; exact q3.2.2⟩]
          · cases hs
        · cases hs
      · next b r hb =>
        rw [hb] at hd
        obtain ⟨c1, e1, h1⟩ := y1 hd (fun _ h => h)
        split at hs
        · next q3 =>
          cases hs
          refine ⟨_, _, ?_, y0 (yv_r rfl) ht, h1⟩
          simp only [zcall, hI, e1]
          rw [if_pos ⟨x12 _ _ q3.1, by rw [hlen]; exact q3.2.1, by rw [yw8 h1]; exact q3.2.2⟩]
        · cases hs
      · cases hs
    · cases hs
  | invokestatic j =>
    dsimp only [zcall] at hs
    split at hs
    · next mi' n hI =>
      have hd := yA.drop n hst
      have ht := yA.rev (yA.take n hst)
      split at hs
      · next q3 =>
        cases hs
        refine ⟨_, _, ?_, ht, hd⟩
        simp only [zcall, hI]
        rw [if_pos ⟨by rw [hlen]; exact q3.1, by rw [yw8 hd]; exact q3.2⟩]
      · cases hs
    · cases hs
  | invokespecial j =>
    dsimp only [zcall] at hs
    split at hs
    · next mi' n hI =>
      have hd := yA.drop n hst
      have ht := yA.rev (yA.take n hst)
      split at hs
      · next b r hb =>
        rw [hb] at hd
        obtain ⟨c1, e1, h1⟩ := y1 hd (fun _ h => h)
        split at hs
        · next q3 =>
          cases hs
          refine ⟨_, _, ?_, y0 (yv_r rfl) ht, h1⟩
          simp only [zcall, hI, e1]
          rw [if_pos ⟨by rw [hlen]; exact q3.1, by rw [yw8 h1]; exact q3.2⟩]
        · cases hs
      · cases hs
    · next mi' n hI =>
      have hd := yA.drop n hst
      have ht := yA.rev (yA.take n hst)
      split at hs
      · next b r hb =>
        rw [hb] at hd
        obtain ⟨c1, e1, h1⟩ := y1 hd (fun _ h => h)
        split at hs
        · next q3 =>
          cases hs
          refine ⟨_, _, ?_, y0 (yv_r rfl) ht, h1⟩
          simp only [zcall, hI, e1]
          rw [if_pos ⟨by rw [hlen]; exact q3.1, by rw [yw8 h1]; exact q3.2⟩]
        · cases hs
      · cases hs
    · cases hs
  | _ => exact nomatch (show (none : Option (Nat × List Value × List Value)) = some _ from hs)
theorem yzobjI {I : zI} {ρ : yR} {c : Nat} {i : Instr} {st rest cst : List Value} (hs : zobjI I c i st = some rest) (hst : yvs ρ st cst) : ∃ crest : List Value, zobjI I c i cst = some crest ∧ yvs ρ rest crest := by
  cases i with
  | invokespecial j =>
    dsimp only [zobjI] at hs
    split at hs
    · next hI =>
      obtain ⟨c1, rfl, h1⟩ := y1 hst (fun _ h => h)
      split at hs
      · next q =>
        cases hs
        exact ⟨c1, by simp only [zobjI, hI]; rw [if_pos (by rw [yw8 h1]; exact q)], h1⟩
      · cases hs
    · cases hs
  | invokestatic j =>
    dsimp only [zobjI] at hs
    split at hs
    · next hI =>
      obtain ⟨c1, rfl, h1⟩ := y1 hst (fun _ h => h)
      obtain ⟨c2, rfl, h2⟩ := y1 h1 (fun _ h => h)
      split at hs
      · next q =>
        cases hs
        exact ⟨_, by simp only [zobjI, hI]; rw [if_pos (by rw [yw8 h2]; exact q)], y0 (yv_r rfl) h2⟩
      · cases hs
    · next hI =>
      obtain ⟨c1, rfl, h1⟩ := y1 hst (fun _ h => h)
      obtain ⟨c2, rfl, h2⟩ := y1 h1 (fun _ h => h)
      split at hs
      · next q =>
        cases hs
        exact ⟨_, by simp only [zobjI, hI]; rw [if_pos (by rw [yw8 h2]; exact q)], y0 (yv_r rfl) h2⟩
      · cases hs
    · next hI =>
      obtain ⟨c1, rfl, h1⟩ := y1 hst (fun _ h => h)
      split at hs
      · next q =>
        cases hs
        exact ⟨_, by simp only [zobjI, hI]; rw [if_pos (by rw [yw8 h1]; exact q)], y0 (yv_r rfl) h1⟩
      · cases hs
    · next hI =>
      obtain ⟨c1, rfl, h1⟩ := y1 hst (fun _ h => h)
      obtain ⟨c2, rfl, h2⟩ := y1 h1 (fun _ h => h)
      split at hs
      · next q =>
        cases hs
        exact ⟨_, by simp only [zobjI, hI]; rw [if_pos (by rw [yw8 h2]; exact q)], y0 (yv_r rfl) h2⟩
      · cases hs
    · next hI =>
      obtain ⟨c1, rfl, h1⟩ := y1 hst (fun _ h => h)
      obtain ⟨c2, rfl, h2⟩ := y1 h1 (fun _ h => h)
      split at hs
      · next q =>
        cases hs
        exact ⟨_, by simp only [zobjI, hI]; rw [if_pos (by rw [yw8 h2]; exact q)], y0 (yv_r rfl) h2⟩
      · cases hs
    · next hI =>
      obtain ⟨c1, rfl, h1⟩ := y1 hst (fun _ h => h)
      split at hs
      · next q =>
        cases hs
        exact ⟨_, by simp only [zobjI, hI]; rw [if_pos (by rw [yw8 h1]; exact q)], y0 (yv_r rfl) h1⟩
      · cases hs
    · cases hs
  | _ => exact nomatch (show (none : Option (List Value)) = some _ from hs)
theorem yzret {ρ : yR} {rt : Option FieldType} {i : Instr} {st cst : List Value} {r : Option Value} (hs : zret rt i st = some r) (hst : yvs ρ st cst) : zret rt i cst = some r ∧ ∀ v, r = some v → ysym v = false := by
  cases i with
  | ireturn =>
    dsimp only [zret] at hs
    split at hs
    · obtain ⟨c1, rfl, h1⟩ := y1 hst (fun _ h => h)
      obtain rfl : c1 = [] := h1
      split at hs
      · next q =>
        cases hs
        exact ⟨by dsimp only [zret]; rw [if_pos q], fun v e => by cases e; rfl⟩
      · cases hs
    · cases hs
  | lreturn =>
    dsimp only [zret] at hs
    split at hs
    · obtain ⟨c1, rfl, h1⟩ := y1 hst (fun _ h => h)
      obtain rfl : c1 = [] := h1
      cases hs
      exact ⟨rfl, fun v e => by cases e; rfl⟩
    · cases hs
  | areturn =>
    dsimp only [zret] at hs
    split at hs
    · obtain ⟨c1, rfl, h1⟩ := y1 hst (fun _ h => h)
      obtain rfl : c1 = [] := h1
      cases hs
      exact ⟨rfl, fun v e => by cases e; rfl⟩
    · cases hs
  | return_ =>
    dsimp only [zret] at hs
    split at hs
    · obtain rfl : cst = [] := hst
      cases hs
      exact ⟨rfl, fun v e => by cases e⟩
    · cases hs
  | _ => exact nomatch (show (none : Option (Option Value)) = some _ from hs)
