/-! Joined: 86b.symcells, 86c.symrun, 86d.symok, 86e.symev. -/
section
/-! Symbols: cells, calls. -/
def yXX (X0 X : zX) : Prop :=
  (∀ (c j : Nat) (q : Nat × Nat), zfld X0 c j = some q → zfld X c j = some q ∧ q.1 < 100) ∧
  (∀ (c j : Nat) (v : Value), zkon X0 c j = some v → zkon X c j = some v) ∧
  (∀ (c j : Nat) (q : Nat × List Value), znew X0 c j = some q → znew X c j = some q ∧ q.1 < 100 ∧ ∀ v ∈ q.2, ysym v = false) ∧
  (∀ (c j e : Nat) (v : Value), zxget X0 c j e = some v → zxget X c j e = some v ∧ ysym v = false) ∧
  (∀ (e : Nat) (q : Bool × List Int32), zxarr X0 e = some q → zxarr X e = some q) ∧
  (zty X0 = zty X ∧ zfin X0 = zfin X ∧ zisP X0 = zisP X ∧ zpc X0 = zpc X ∧ zpc X < 100) ∧
  (∀ (c j : Nat) (v : Value), zsta X0 c j = some v → zsta X c j = some v ∧ ysym v = false) ∧
  (∀ (e q : Nat), zxcl X0 e = some q → zxcl X e = some q)
/-- a symbol is put into a field: a rule of its own -/
def yput (i : Instr) (st : List Value) : Bool := match i with
  | .putfield _ => match st with
    | v :: _ => ysym v
    | [] => false
  | _ => false
theorem yputs_eq {X0 X : zX} (hX : yXX X0 X) (ini : Bool) (c ci k : Nat) (v : Value) : zputs X ini c ci k v = zputs X0 ini c ci k v := by
  obtain ⟨-, -, -, -, -, ⟨e1, e2, -, -, -⟩, -, -⟩ := hX
  unfold zputs
  rw [e1, e2]
theorem yrv_sym (o : Option Nat) : ysym (zrv o) = false := by cases o <;> rfl
theorem yhs_len {ρ : yR} {h ch : zH} (hh : yhs ρ h ch) : ch.length = h.length := yA.len hh
set_option maxHeartbeats 8000000 in
theorem yzH {X0 X : zX} {ρ : yR} {ini : Bool} {c : Nat} {i : Instr} {pc : Nat} {ls : zL} {st : List Value} {h : zH} {pc' : Nat} {ls' : zL} {st' : List Value} {h' : zH} {cst : List Value} {ch : zH} (hX : yXX X0 X) (hs : zstH X0 ini c i pc ls st h = some (pc', ls', st', h')) (hp : yput i st = false) (hst : yvs ρ st cst) (hh : yhs ρ h ch) : ls' = ls ∧ ∃ (cst' : List Value) (ch' : zH), yvs ρ st' cst' ∧ yhs ρ h' ch' ∧ ∀ cl : zL, zstH X ini c i pc cl cst ch = some (pc', cl, cst', ch') := by
  obtain ⟨x1, x2, x3, x4, x5, ⟨x6, x7, x8, x9, x10⟩, x11, x12⟩ := id hX
  cases i with
  | getfield j =>
    dsimp only [zstH] at hs
    split at hs
    · obtain ⟨c1, rfl, h1⟩ := y1 hst (fun _ h => h)
      split at hs
      · next q1 q2 =>
        split at hs
        · next q3 =>
          split at hs
          · next q4 =>
            cases hs
            subst q4
            obtain ⟨f1, f2⟩ := x1 _ _ _ q1
            obtain ⟨b, g1, g2⟩ := yA.get hh q2
            obtain ⟨gs, rfl, g3⟩ := yce_obj g2 f2
            obtain ⟨v, g4, g5⟩ := yA.get g3 q3
            exact ⟨rfl, _, _, y0 g5 h1, hh, fun _ => by dsimp only [zstH]; rw [f1, g1]; dsimp only; rw [g4]; dsimp only; rw [if_pos rfl]⟩
          · cases hs
        · cases hs
      · cases hs
    · obtain ⟨c1, rfl, h1⟩ := y1 hst (fun _ h => h)
      split at hs
      · next q1 =>
        cases hs
        obtain ⟨f1, f2⟩ := x4 _ _ _ _ q1
        exact ⟨rfl, _, _, y0 (yv_r f2) h1, hh, fun _ => by dsimp only [zstH]; rw [f1]⟩
      · cases hs
    · cases hs
  | putfield j =>
    dsimp only [zstH] at hs
    split at hs
    · obtain ⟨c1, rfl, h1⟩ := y1 hst (fun _ q => yv_c q hp)
      obtain ⟨c2, rfl, h2⟩ := y1 h1 (fun _ h => h)
      split at hs
      · next q1 q2 =>
        split at hs
        · next q4 =>
          cases hs
          obtain ⟨rfl, q5, q6⟩ := q4
          obtain ⟨f1, f2⟩ := x1 _ _ _ q1
          obtain ⟨b, g1, g2⟩ := yA.get hh q2
          obtain ⟨gs, rfl, g3⟩ := yce_obj g2 f2
          refine ⟨rfl, _, _, h2, yA.set (yce_mk f2 (yA.set (yv_r hp) g3)) hh, fun _ => ?_⟩
          dsimp only [zstH]
          rw [f1, g1]
          dsimp only
          rw [if_pos ⟨rfl, by rw [yA.len g3]; exact q5, by rw [yputs_eq hX]; exact q6⟩]
        · cases hs
      · cases hs
    · cases hs
  | getstatic j =>
    dsimp only [zstH] at hs
    split at hs
    · next q1 =>
      cases hs
      obtain ⟨f1, f2⟩ := x11 _ _ _ q1
      exact ⟨rfl, _, _, y0 (yv_r f2) hst, hh, fun _ => by dsimp only [zstH]; rw [f1]⟩
    · cases hs
  | ldc j =>
    dsimp only [zstH] at hs
    split at hs
    · next q1 =>
      cases hs
      have f1 := x2 _ _ _ q1
      exact ⟨rfl, _, _, y0 (yv_r rfl) hst, hh, fun _ => by dsimp only [zstH]; rw [f1]⟩
    · next q1 =>
      cases hs
      have f1 := x2 _ _ _ q1
      exact ⟨rfl, _, _, y0 (yv_r rfl) hst, hh, fun _ => by dsimp only [zstH]; rw [f1]⟩
    · cases hs
  | ldc_w j =>
    dsimp only [zstH] at hs
    split at hs
    · next q1 =>
      cases hs
      have f1 := x2 _ _ _ q1
      exact ⟨rfl, _, _, y0 (yv_r rfl) hst, hh, fun _ => by dsimp only [zstH]; rw [f1]⟩
    · cases hs
  | ldc2_w j =>
    dsimp only [zstH] at hs
    split at hs
    · next q1 =>
      cases hs
      have f1 := x2 _ _ _ q1
      exact ⟨rfl, _, _, y0 (yv_r rfl) hst, hh, fun _ => by dsimp only [zstH]; rw [f1]⟩
    · cases hs
  | iaload =>
    dsimp only [zstH] at hs
    split at hs
    · obtain ⟨c1, rfl, h1⟩ := y1 hst (fun _ h => h)
      obtain ⟨c2, rfl, h2⟩ := y1 h1 (fun _ h => h)
      split at hs
      · next q2 =>
        split at hs
        · next q3 =>
          cases hs
          obtain ⟨b, g1, g2⟩ := yA.get hh q2
          obtain rfl := yce_ints g2
          exact ⟨rfl, _, _, y0 (yv_r rfl) h2, hh, fun _ => by dsimp only [zstH]; rw [g1]; exact if_pos q3⟩
        · cases hs
      · cases hs
    · obtain ⟨c1, rfl, h1⟩ := y1 hst (fun _ h => h)
      obtain ⟨c2, rfl, h2⟩ := y1 h1 (fun _ h => h)
      split at hs
      · next q2 =>
        split at hs
        · next q3 =>
          cases hs
          have f1 := x5 _ _ q2
          exact ⟨rfl, _, _, y0 (yv_r rfl) h2, hh, fun _ => by dsimp only [zstH]; rw [f1]; exact if_pos q3⟩
        · cases hs
      · cases hs
    · cases hs
  | baload =>
    dsimp only [zstH] at hs
    split at hs
    · obtain ⟨c1, rfl, h1⟩ := y1 hst (fun _ h => h)
      obtain ⟨c2, rfl, h2⟩ := y1 h1 (fun _ h => h)
      split at hs
      · next q2 =>
        split at hs
        · next q3 =>
          cases hs
          obtain ⟨b, g1, g2⟩ := yA.get hh q2
          obtain rfl := yce_ints g2
          exact ⟨rfl, _, _, y0 (yv_r rfl) h2, hh, fun _ => by dsimp only [zstH]; rw [g1]; exact if_pos q3⟩
        · cases hs
      · cases hs
    · obtain ⟨c1, rfl, h1⟩ := y1 hst (fun _ h => h)
      obtain ⟨c2, rfl, h2⟩ := y1 h1 (fun _ h => h)
      split at hs
      · next q2 =>
        split at hs
        · next q3 =>
          cases hs
          have f1 := x5 _ _ q2
          exact ⟨rfl, _, _, y0 (yv_r rfl) h2, hh, fun _ => by dsimp only [zstH]; rw [f1]; exact if_pos q3⟩
        · cases hs
      · cases hs
    · cases hs
  | laload =>
    dsimp only [zstH] at hs
    split at hs
    · obtain ⟨c1, rfl, h1⟩ := y1 hst (fun _ h => h)
      obtain ⟨c2, rfl, h2⟩ := y1 h1 (fun _ h => h)
      split at hs
      · next q2 =>
        split at hs
        · next q3 =>
          cases hs
          obtain ⟨b, g1, g2⟩ := yA.get hh q2
          obtain rfl := g2
          exact ⟨rfl, _, _, y0 (yv_r rfl) h2, hh, fun _ => by dsimp only [zstH]; rw [g1]; exact if_pos q3⟩
        · cases hs
      · cases hs
    · cases hs
  | aaload =>
    dsimp only [zstH] at hs
    split at hs
    · obtain ⟨c1, rfl, h1⟩ := y1 hst (fun _ h => h)
      obtain ⟨c2, rfl, h2⟩ := y1 h1 (fun _ h => h)
      split at hs
      · next q2 =>
        split at hs
        · next q3 =>
          cases hs
          obtain ⟨b, g1, g2⟩ := yA.get hh q2
          obtain rfl := yce_refs g2 (by decide)
          exact ⟨rfl, _, _, y0 (yv_r (yrv_sym _)) h2, hh, fun _ => by dsimp only [zstH]; rw [g1]; exact if_pos q3⟩
        · cases hs
      · cases hs
    · cases hs
  | iastore =>
    dsimp only [zstH] at hs
    split at hs
    · obtain ⟨c1, rfl, h1⟩ := y1 hst (fun _ h => h)
      obtain ⟨c2, rfl, h2⟩ := y1 h1 (fun _ h => h)
      obtain ⟨c3, rfl, h3⟩ := y1 h2 (fun _ h => h)
      split at hs
      · next q2 =>
        split at hs
        · next q3 =>
          cases hs
          obtain ⟨b, g1, g2⟩ := yA.get hh q2
          obtain rfl := yce_ints g2
          exact ⟨rfl, _, _, h3, yA.set (yce_im) hh, fun _ => by dsimp only [zstH]; rw [g1]; exact if_pos q3⟩
        · cases hs
      · cases hs
    · cases hs
  | bastore =>
    dsimp only [zstH] at hs
    split at hs
    · obtain ⟨c1, rfl, h1⟩ := y1 hst (fun _ h => h)
      obtain ⟨c2, rfl, h2⟩ := y1 h1 (fun _ h => h)
      obtain ⟨c3, rfl, h3⟩ := y1 h2 (fun _ h => h)
      split at hs
      · next q2 =>
        split at hs
        · next q3 =>
          cases hs
          obtain ⟨b, g1, g2⟩ := yA.get hh q2
          obtain rfl := yce_ints g2
          exact ⟨rfl, _, _, h3, yA.set (yce_im) hh, fun _ => by dsimp only [zstH]; rw [g1]; exact if_pos q3⟩
        · cases hs
      · cases hs
    · cases hs
  | lastore =>
    dsimp only [zstH] at hs
    split at hs
    · obtain ⟨c1, rfl, h1⟩ := y1 hst (fun _ h => h)
      obtain ⟨c2, rfl, h2⟩ := y1 h1 (fun _ h => h)
      obtain ⟨c3, rfl, h3⟩ := y1 h2 (fun _ h => h)
      split at hs
      · next q2 =>
        split at hs
        · next q3 =>
          cases hs
          obtain ⟨b, g1, g2⟩ := yA.get hh q2
          obtain rfl := g2
          exact ⟨rfl, _, _, h3, yA.set (show yce ρ (_, .inr (.inl _)) (_, .inr (.inl _)) from rfl) hh, fun _ => by dsimp only [zstH]; rw [g1]; exact if_pos q3⟩
        · cases hs
      · cases hs
    · cases hs
  | aastore =>
    dsimp only [zstH] at hs
    split at hs
    · obtain ⟨c1, rfl, h1⟩ := y1 hst (fun _ h => h)
      obtain ⟨c2, rfl, h2⟩ := y1 h1 (fun _ h => h)
      obtain ⟨c3, rfl, h3⟩ := y1 h2 (fun _ h => h)
      split at hs
      · next q2 q4 =>
        split at hs
        · next q3 =>
          cases hs
          obtain ⟨b, g1, g2⟩ := yA.get hh q2
          obtain ⟨b2, g3, g4⟩ := yA.get hh q4
          obtain rfl := yce_refs g2 (by decide)
          obtain ⟨gs, rfl, g5⟩ := yce_obj g4 (by rw [q3.2, x9]; exact x10)
          refine ⟨rfl, _, _, h3, yA.set (yce_rm (by decide)) hh, fun _ => ?_⟩
          simp only [zstH, g1, g3]
          rw [if_pos ⟨q3.1, by rw [q3.2, x9]⟩]
        · cases hs
      · cases hs
    · cases hs
  | arraylength =>
    dsimp only [zstH] at hs
    split at hs
    · obtain ⟨c1, rfl, h1⟩ := y1 hst (fun _ h => h)
      split at hs
      · next q2 =>
        cases hs
        obtain ⟨b, g1, g2⟩ := yA.get hh q2
        obtain rfl := yce_ints g2
        exact ⟨rfl, _, _, y0 (yv_r rfl) h1, hh, fun _ => by simp [zstH, g1]⟩
      · next q2 =>
        cases hs
        obtain ⟨b, g1, g2⟩ := yA.get hh q2
        obtain rfl := yce_ints g2
        exact ⟨rfl, _, _, y0 (yv_r rfl) h1, hh, fun _ => by simp [zstH, g1]⟩
      · next q2 =>
        cases hs
        obtain ⟨b, g1, g2⟩ := yA.get hh q2
        obtain rfl := g2
        exact ⟨rfl, _, _, y0 (yv_r rfl) h1, hh, fun _ => by simp [zstH, g1]⟩
      · next q2 =>
        cases hs
        obtain ⟨b, g1, g2⟩ := yA.get hh q2
        obtain rfl := yce_refs g2 (by decide)
        exact ⟨rfl, _, _, y0 (yv_r rfl) h1, hh, fun _ => by simp [zstH, g1]⟩
      · cases hs
    · obtain ⟨c1, rfl, h1⟩ := y1 hst (fun _ h => h)
      split at hs
      · next q2 =>
        cases hs
        have f1 := x5 _ _ q2
        exact ⟨rfl, _, _, y0 (yv_r rfl) h1, hh, fun _ => by dsimp only [zstH]; rw [f1]⟩
      · cases hs
    · cases hs
  | new j =>
    dsimp only [zstH] at hs
    split at hs
    · next q1 =>
      cases hs
      obtain ⟨f1, f2, f3⟩ := x3 _ _ _ q1
      refine ⟨rfl, .ref ch.length :: cst, _, y0 (by rw [yhs_len hh]; exact yv_r rfl) hst, yA.app ?_ hh, fun _ => by dsimp only [zstH]; rw [f1]⟩
      exact ⟨_, [], rfl, yce_mk f2 (yvs_r f3), rfl⟩
    · cases hs
  | newarray t =>
    cases t with
    | int =>
      dsimp only [zstH] at hs
      split at hs
      · obtain ⟨c1, rfl, h1⟩ := y1 hst (fun _ h => h)
        split at hs
        · cases hs
        · next q1 =>
          cases hs
          refine ⟨rfl, .ref ch.length :: c1, _, y0 (by rw [yhs_len hh]; exact yv_r rfl) h1, yA.app ?_ hh, fun _ => by dsimp only [zstH]; rw [if_neg q1]⟩
          exact ⟨_, [], rfl, yce_im, rfl⟩
      · cases hs
    | boolean =>
      dsimp only [zstH] at hs
      split at hs
      · obtain ⟨c1, rfl, h1⟩ := y1 hst (fun _ h => h)
        split at hs
        · cases hs
        · next q1 =>
          cases hs
          refine ⟨rfl, .ref ch.length :: c1, _, y0 (by rw [yhs_len hh]; exact yv_r rfl) h1, yA.app ?_ hh, fun _ => by dsimp only [zstH]; rw [if_neg q1]⟩
          exact ⟨_, [], rfl, yce_im, rfl⟩
      · cases hs
    | long =>
      dsimp only [zstH] at hs
      split at hs
      · obtain ⟨c1, rfl, h1⟩ := y1 hst (fun _ h => h)
        split at hs
        · cases hs
        · next q1 =>
          cases hs
          refine ⟨rfl, .ref ch.length :: c1, _, y0 (by rw [yhs_len hh]; exact yv_r rfl) h1, yA.app ?_ hh, fun _ => by dsimp only [zstH]; rw [if_neg q1]⟩
          exact ⟨_, [], rfl, rfl, rfl⟩
      · cases hs
    | _ => exact nomatch (show (none : Option (Nat × zL × List Value × zH)) = some _ from hs)
  | anewarray j =>
    dsimp only [zstH] at hs
    split at hs
    · obtain ⟨c1, rfl, h1⟩ := y1 hst (fun _ h => h)
      split at hs
      · cases hs
      · next q1 =>
        cases hs
        refine ⟨rfl, .ref ch.length :: c1, _, y0 (by rw [yhs_len hh]; exact yv_r rfl) h1, yA.app ?_ hh, fun _ => by dsimp only [zstH]; rw [if_neg (by rw [← x8]; exact q1)]⟩
        exact ⟨_, [], rfl, yce_rm (by decide), rfl⟩
    · cases hs
  | _ => exact nomatch (show (none : Option (Nat × zL × List Value × zH)) = some _ from hs)
theorem yI_no {X : zX} {nL : Nat} {i : Instr} {pc pc2 : Nat} {ls ls2 : zL} {st st2 : List Value} {h h2 : zH} {q : Nat × zL × List Value × zH} (hs : zstL nL i pc ls st h = some q) : zstI X i pc2 ls2 st2 h2 = none := by
  cases i with
  | _ => first | rfl | exact nomatch (show (none : Option (Nat × zL × List Value × zH)) = some _ from hs)
theorem yIL_no {X X' : zX} {nL : Nat} {ini : Bool} {c : Nat} {i : Instr} {pc pc2 : Nat} {ls ls2 : zL} {st st2 : List Value} {h h2 : zH} {q : Nat × zL × List Value × zH} (hs : zstH X ini c i pc ls st h = some q) : zstI X' i pc2 ls2 st2 h2 = none ∧ zstL nL i pc2 ls2 st2 h2 = none := by
  cases i with
  | _ => first | exact ⟨rfl, rfl⟩ | exact nomatch (show (none : Option (Nat × zL × List Value × zH)) = some _ from hs)
/-- what our machine does with symbols that it doesn't look at, it does with their values -/
theorem yzstep {X0 X : zX} {nL : Nat} {ρ : yR} {ini : Bool} {c : Nat} {i : Instr} {pc : Nat} {ls : zL} {st : List Value} {h : zH} {pc' : Nat} {ls' : zL} {st' : List Value} {h' : zH} {cl : zL} {cst : List Value} {ch : zH} (hX : yXX X0 X) (hs : zstep X0 nL ini c i pc ls st h = some (pc', ls', st', h')) (hp : yput i st = false) (hl : yls ρ ls cl) (hst : yvs ρ st cst) (hh : yhs ρ h ch) : ∃ (cl' : zL) (cst' : List Value) (ch' : zH), zstep X nL ini c i pc cl cst ch = some (pc', cl', cst', ch') ∧ yls ρ ls' cl' ∧ yvs ρ st' cst' ∧ yhs ρ h' ch' := by
  unfold zstep at hs
  split at hs
  · next q =>
    cases hs
    obtain ⟨rfl, rfl, cst', g1, g2⟩ := yzI (X := X) q hst
    exact ⟨cl, cst', ch, by unfold zstep; rw [g2], hl, g1, hh⟩
  · split at hs
    · next q =>
      cases hs
      obtain ⟨rfl, cl', cst', g1, g2, g3⟩ := yzL q hl hst
      exact ⟨cl', cst', ch, by unfold zstep; rw [yI_no q, g3], g1, g2, hh⟩
    · obtain ⟨rfl, cst', ch', g1, g2, g3⟩ := yzH hX hs hp hst hh
      obtain ⟨n1, n2⟩ := yIL_no (X' := X) (nL := nL) (pc2 := pc) (ls2 := cl) (st2 := cst) (h2 := ch) hs
      exact ⟨cl, cst', ch', by unfold zstep; rw [n1, n2]; exact g3 cl, hl, g1, g2⟩
theorem yzcall {X0 X : zX} {I : zI} {mcl : Nat → Nat} {ρ : yR} {c : Nat} {i : Instr} {st : List Value} {h : zH} {mi : Nat} {as rest : List Value} {cst : List Value} {ch : zH} (hX : yXX X0 X) (hm : ∀ k, mcl k < 100) (hs : zcall X0 I mcl c i st h = some (mi, as, rest)) (hst : yvs ρ st cst) (hh : yhs ρ h ch) : ∃ cas crest : List Value, zcall X I mcl c i cst ch = some (mi, cas, crest) ∧ yvs ρ as cas ∧ yvs ρ rest crest := by
  obtain ⟨-, -, -, -, -, -, -, x12⟩ := id hX
  have hlen : cst.length = st.length := yA.len hst
  cases i with
  | invokevirtual j =>
    dsimp only [zcall] at hs
    split at hs
    · next mi' n hI =>
      have hd := yA.drop n hst
      have ht := yA.rev (yA.take n hst)
      split at hs
      · next b r hb =>
        rw [hb] at hd
        obtain ⟨c1, e1, h1⟩ := y1 hd (fun _ h => h)
        split at hs
        · next q2 =>
          split at hs
          · next q3 =>
            cases hs
            obtain ⟨b2, g1, g2⟩ := yA.get hh q2
            obtain ⟨gs, rfl, g3⟩ := yce_obj g2 (by rw [q3.1]; exact hm _)
            refine ⟨_, _, ?_, y0 (yv_r rfl) ht, h1⟩
            simp only [zcall, hI, e1, g1]
            rw [if_pos ⟨q3.1, by rw [hlen]; exact q3.2.1, by rw [yw8 h1]; exact q3.2.2⟩]
          · cases hs
        · cases hs
      · next b r hb =>
        rw [hb] at hd
        obtain ⟨c1, e1, h1⟩ := y1 hd (fun _ h => h)
        split at hs
        · next q3 =>
          cases hs
          refine ⟨_, _, ?_, y0 (yv_r rfl) ht, h1⟩
          simp only [zcall, hI, e1]
          rw [if_pos ⟨x12 _ _ q3.1, by rw [hlen]; exact q3.2.1, by rw [yw8 h1]; exact q3.2.2⟩]
        · cases hs
      · cases hs
    · cases hs
  | invokestatic j =>
    dsimp only [zcall] at hs
    split at hs
    · next mi' n hI =>
      have hd := yA.drop n hst
      have ht := yA.rev (yA.take n hst)
      split at hs
      · next q3 =>
        cases hs
        refine ⟨_, _, ?_, ht, hd⟩
        simp only [zcall, hI]
        rw [if_pos ⟨by rw [hlen]; exact q3.1, by rw [yw8 hd]; exact q3.2⟩]
      · cases hs
    · cases hs
  | invokespecial j =>
    dsimp only [zcall] at hs
    split at hs
    · next mi' n hI =>
      have hd := yA.drop n hst
      have ht := yA.rev (yA.take n hst)
      split at hs
      · next b r hb =>
        rw [hb] at hd
        obtain ⟨c1, e1, h1⟩ := y1 hd (fun _ h => h)
        split at hs
        · next q3 =>
          cases hs
          refine ⟨_, _, ?_, y0 (yv_r rfl) ht, h1⟩
          simp only [zcall, hI, e1]
          rw [if_pos ⟨by rw [hlen]; exact q3.1, by rw [yw8 h1]; exact q3.2⟩]
        · cases hs
      · cases hs
    · next mi' n hI =>
      have hd := yA.drop n hst
      have ht := yA.rev (yA.take n hst)
      split at hs
      · next b r hb =>
        rw [hb] at hd
        obtain ⟨c1, e1, h1⟩ := y1 hd (fun _ h => h)
        split at hs
        · next q3 =>
          cases hs
          refine ⟨_, _, ?_, y0 (yv_r rfl) ht, h1⟩
          simp only [zcall, hI, e1]
          rw [if_pos ⟨by rw [hlen]; exact q3.1, by rw [yw8 h1]; exact q3.2⟩]
        · cases hs
      · cases hs
    · cases hs
  | _ => exact nomatch (show (none : Option (Nat × List Value × List Value)) = some _ from hs)
theorem yzobjI {I : zI} {ρ : yR} {c : Nat} {i : Instr} {st rest cst : List Value} (hs : zobjI I c i st = some rest) (hst : yvs ρ st cst) : ∃ crest : List Value, zobjI I c i cst = some crest ∧ yvs ρ rest crest := by
  cases i with
  | invokespecial j =>
    dsimp only [zobjI] at hs
    split at hs
    · next hI =>
      obtain ⟨c1, rfl, h1⟩ := y1 hst (fun _ h => h)
      split at hs
      · next q =>
        cases hs
        exact ⟨c1, by simp only [zobjI, hI]; rw [if_pos (by rw [yw8 h1]; exact q)], h1⟩
      · cases hs
    · cases hs
  | invokestatic j =>
    dsimp only [zobjI] at hs
    split at hs
    · next hI =>
      obtain ⟨c1, rfl, h1⟩ := y1 hst (fun _ h => h)
      obtain ⟨c2, rfl, h2⟩ := y1 h1 (fun _ h => h)
      split at hs
      · next q =>
        cases hs
        exact ⟨_, by simp only [zobjI, hI]; rw [if_pos (by rw [yw8 h2]; exact q)], y0 (yv_r rfl) h2⟩
      · cases hs
    · next hI =>
      obtain ⟨c1, rfl, h1⟩ := y1 hst (fun _ h => h)
      obtain ⟨c2, rfl, h2⟩ := y1 h1 (fun _ h => h)
      split at hs
      · next q =>
        cases hs
        exact ⟨_, by simp only [zobjI, hI]; rw [if_pos (by rw [yw8 h2]; exact q)], y0 (yv_r rfl) h2⟩
      · cases hs
    · next hI =>
      obtain ⟨c1, rfl, h1⟩ := y1 hst (fun _ h => h)
      split at hs
      · next q =>
        cases hs
        exact ⟨_, by simp only [zobjI, hI]; rw [if_pos (by rw [yw8 h1]; exact q)], y0 (yv_r rfl) h1⟩
      · cases hs
    · next hI =>
      obtain ⟨c1, rfl, h1⟩ := y1 hst (fun _ h => h)
      obtain ⟨c2, rfl, h2⟩ := y1 h1 (fun _ h => h)
      split at hs
      · next q =>
        cases hs
        exact ⟨_, by simp only [zobjI, hI]; rw [if_pos (by rw [yw8 h2]; exact q)], y0 (yv_r rfl) h2⟩
      · cases hs
    · next hI =>
      obtain ⟨c1, rfl, h1⟩ := y1 hst (fun _ h => h)
      obtain ⟨c2, rfl, h2⟩ := y1 h1 (fun _ h => h)
      split at hs
      · next q =>
        cases hs
        exact ⟨_, by simp only [zobjI, hI]; rw [if_pos (by rw [yw8 h2]; exact q)], y0 (yv_r rfl) h2⟩
      · cases hs
    · next hI =>
      obtain ⟨c1, rfl, h1⟩ := y1 hst (fun _ h => h)
      split at hs
      · next q =>
        cases hs
        exact ⟨_, by simp only [zobjI, hI]; rw [if_pos (by rw [yw8 h1]; exact q)], y0 (yv_r rfl) h1⟩
      · cases hs
    · cases hs
  | _ => exact nomatch (show (none : Option (List Value)) = some _ from hs)
theorem yzret {ρ : yR} {rt : Option FieldType} {i : Instr} {st cst : List Value} {r : Option Value} (hs : zret rt i st = some r) (hst : yvs ρ st cst) : zret rt i cst = some r ∧ ∀ v, r = some v → ysym v = false := by
  cases i with
  | ireturn =>
    dsimp only [zret] at hs
    split at hs
    · obtain ⟨c1, rfl, h1⟩ := y1 hst (fun _ h => h)
      obtain rfl : c1 = [] := h1
      split at hs
      · next q =>
        cases hs
        exact ⟨by dsimp only [zret]; rw [if_pos q], fun v e => by cases e; rfl⟩
      · cases hs
    · cases hs
  | lreturn =>
    dsimp only [zret] at hs
    split at hs
    · obtain ⟨c1, rfl, h1⟩ := y1 hst (fun _ h => h)
      obtain rfl : c1 = [] := h1
      cases hs
      exact ⟨rfl, fun v e => by cases e; rfl⟩
    · cases hs
  | areturn =>
    dsimp only [zret] at hs
    split at hs
    · obtain ⟨c1, rfl, h1⟩ := y1 hst (fun _ h => h)
      obtain rfl : c1 = [] := h1
      cases hs
      exact ⟨rfl, fun v e => by cases e; rfl⟩
    · cases hs
  | return_ =>
    dsimp only [zret] at hs
    split at hs
    · obtain rfl : cst = [] := hst
      cases hs
      exact ⟨rfl, fun v e => by cases e⟩
    · cases hs
  | _ => exact nomatch (show (none : Option (Option Value)) = some _ from hs)
end
section
/-! Symbols: rules for what looks at them; runs. An int symbol has an interval; a branch goes both ways, with the intervals cut. -/
abbrev yE : Type := List (Int × Int) × Nat
abbrev yS : Type := yE × Nat × zL × List Value × zH
def yG (E : yE) (ρ : yR) : Prop := ρ.1.length = E.1.length ∧ ρ.2.1.length = E.2 ∧ ∀ (k : Nat) (q : Int × Int) (x : Int32), E.1[k]? = some q → ρ.1[k]? = some x → q.1 ≤ x.toInt ∧ x.toInt ≤ q.2
def yiv (E : yE) (v : Value) : Option (Int × Int) := match v with
  | .int x => some (x.toInt, x.toInt)
  | .float k => E.1[k.toNat]?
  | _ => none
theorem yiv_ok {E : yE} {ρ : yR} {v w : Value} {q : Int × Int} (hG : yG E ρ) (h : yiv E v = some q) (hv : yv ρ v w) : ∃ x : Int32, w = .int x ∧ q.1 ≤ x.toInt ∧ x.toInt ≤ q.2 := by
  cases v with
  | int x =>
    cases h
    exact ⟨x, hv, Int.le_refl _, Int.le_refl _⟩
  | float k =>
    obtain ⟨x, h1, h2⟩ := hv
    exact ⟨x, h2, hG.2.2 _ _ _ h h1⟩
  | _ => cases h
def ycut (E : yE) (v : Value) (q : Int × Int) : Option yE := match yiv E v with
  | none => none
  | some p => if max p.1 q.1 ≤ min p.2 q.2 then (match v with
    | .float k => some (E.1.set k.toNat (max p.1 q.1, min p.2 q.2), E.2)
    | _ => some E) else none
theorem yG_set {E : yE} {ρ : yR} {k : Nat} {q : Int × Int} {x : Int32} (hG : yG E ρ) (hx : ρ.1[k]? = some x) (hq : q.1 ≤ x.toInt ∧ x.toInt ≤ q.2) : yG (E.1.set k q, E.2) ρ := by
  refine ⟨by rw [hG.1, List.length_set], hG.2.1, fun j p z hj hz => ?_⟩
  by_cases e : j = k
  · subst e
    rw [hx] at hz
    cases hz
    have hj' : (E.1.set j q)[j]? = some p := hj
    rw [List.getElem?_set] at hj'
    simp only [if_true] at hj'
    split at hj'
    · cases hj'
      exact hq
    · cases hj'
  · have hj' : (E.1.set k q)[j]? = some p := hj
    rw [List.getElem?_set_ne (Ne.symm e)] at hj'
    exact hG.2.2 _ _ _ hj' hz
theorem ycut_ok {E : yE} {ρ : yR} {v : Value} {x : Int32} {p q : Int × Int} (hG : yG E ρ) (hp : yiv E v = some p) (hv : yv ρ v (.int x)) (hq : q.1 ≤ x.toInt ∧ x.toInt ≤ q.2) : ∃ E' : yE, ycut E v q = some E' ∧ yG E' ρ := by
  obtain ⟨z, e, h1, h2⟩ := yiv_ok hG hp hv
  cases e
  unfold ycut
  rw [hp]
  dsimp only
  rw [if_pos (by omega)]
  cases v with
  | float k =>
    obtain ⟨z, h3, h4⟩ := hv
    cases h4
    exact ⟨_, rfl, yG_set hG h3 ⟨by show max p.1 q.1 ≤ _; omega, by show _ ≤ min p.2 q.2; omega⟩⟩
  | _ => exact ⟨_, rfl, hG⟩
theorem yiv_cut {E E' : yE} {v w : Value} {q : Int × Int} (h : ycut E v q = some E') (hw : (yiv E w).isSome = true) : (yiv E' w).isSome = true := by
  unfold ycut at h
  split at h
  · cases h
  · split at h
    · split at h
      · cases h
        cases w with
        | float k =>
          simp only [yiv, Option.isSome_iff_exists] at hw ⊢
          obtain ⟨a, ha⟩ := hw
          have hl := (List.getElem?_eq_some_iff.mp ha).1
          exact ⟨_, List.getElem?_eq_getElem (by rw [List.length_set]; exact hl)⟩
        | _ => exact hw
      · cases h
        exact hw
    · cases h
/-- x c y, y in q: x lies in this one -/
def yrg (c : Jvm.ClassFile.Cond) (q : Int × Int) : Int × Int := match c with
  | .eq => q
  | .ne => (-2147483648, 2147483647)
  | .lt => (-2147483648, q.2 - 1)
  | .le => (-2147483648, q.2)
  | .gt => (q.1 + 1, 2147483647)
  | .ge => (q.1, 2147483647)
def yflip : Jvm.ClassFile.Cond → Jvm.ClassFile.Cond
  | .eq => .eq
  | .ne => .ne
  | .lt => .gt
  | .gt => .lt
  | .le => .ge
  | .ge => .le
def yneg : Jvm.ClassFile.Cond → Jvm.ClassFile.Cond
  | .eq => .ne
  | .ne => .eq
  | .lt => .ge
  | .ge => .lt
  | .gt => .le
  | .le => .gt
theorem yb (x : Int32) : -2147483648 ≤ x.toInt ∧ x.toInt ≤ 2147483647 := by
  have h1 := Int32.le_toInt x
  have h2 := Int32.toInt_lt x
  omega
theorem yrg_ok {c : Jvm.ClassFile.Cond} {x y : Int32} {q : Int × Int} (h : zicmp c x y = true) (hy : q.1 ≤ y.toInt ∧ y.toInt ≤ q.2) : (yrg c q).1 ≤ x.toInt ∧ x.toInt ≤ (yrg c q).2 := by
  have hb := yb x
  cases c with
  | eq =>
    have h1 : x = y := of_decide_eq_true h
    subst h1
    exact hy
  | ne => exact hb
  | lt =>
    have h1 : x < y := of_decide_eq_true h
    have h2 := Int32.lt_iff_toInt_lt.mp h1
    exact ⟨hb.1, by show _ ≤ q.2 - 1; omega⟩
  | le =>
    have h1 : x ≤ y := of_decide_eq_true h
    have h2 := Int32.le_iff_toInt_le.mp h1
    exact ⟨hb.1, by show _ ≤ q.2; omega⟩
  | gt =>
    have h1 : y < x := of_decide_eq_true h
    have h2 := Int32.lt_iff_toInt_lt.mp h1
    exact ⟨by show q.1 + 1 ≤ _; omega, hb.2⟩
  | ge =>
    have h1 : y ≤ x := of_decide_eq_true h
    have h2 := Int32.le_iff_toInt_le.mp h1
    exact ⟨by show q.1 ≤ _; omega, hb.2⟩
theorem yflip_ok {c : Jvm.ClassFile.Cond} {x y : Int32} (h : zicmp c x y = true) : zicmp (yflip c) y x = true := by
  cases c with
  | eq => exact decide_eq_true (of_decide_eq_true h : x = y).symm
  | ne =>
    have h1 : (!decide (x = y)) = true := h
    show (!decide (y = x)) = true
    simp only [Bool.not_eq_true', decide_eq_false_iff_not] at h1 ⊢
    exact fun e => h1 e.symm
  | _ => exact h
theorem yneg_ok {c : Jvm.ClassFile.Cond} {x y : Int32} (h : zicmp c x y = false) : zicmp (yneg c) x y = true := by
  cases c with
  | eq =>
    show (!decide (x = y)) = true
    rw [show decide (x = y) = false from h]
    rfl
  | ne =>
    have h1 : (!decide (x = y)) = false := h
    show decide (x = y) = true
    simpa using h1
  | lt =>
    have h1 : ¬ x < y := of_decide_eq_false h
    show decide (y ≤ x) = true
    exact decide_eq_true (Int32.le_iff_toInt_le.mpr (by have := mt Int32.lt_iff_toInt_lt.mpr h1; omega))
  | ge =>
    have h1 : ¬ y ≤ x := of_decide_eq_false h
    show decide (x < y) = true
    exact decide_eq_true (Int32.lt_iff_toInt_lt.mpr (by have := mt Int32.le_iff_toInt_le.mpr h1; omega))
  | gt =>
    have h1 : ¬ y < x := of_decide_eq_false h
    show decide (x ≤ y) = true
    exact decide_eq_true (Int32.le_iff_toInt_le.mpr (by have := mt Int32.lt_iff_toInt_lt.mpr h1; omega))
  | le =>
    have h1 : ¬ x ≤ y := of_decide_eq_false h
    show decide (y < x) = true
    exact decide_eq_true (Int32.lt_iff_toInt_lt.mpr (by have := mt Int32.le_iff_toInt_le.mpr h1; omega))
def ybr1 (E : yE) (a b : Value) (c : Jvm.ClassFile.Cond) : List yE := match yiv E a with
  | none => []
  | some p => match yiv E b with
    | none => []
    | some q => match ycut E a (yrg c q) with
      | none => []
      | some E1 => match ycut E1 b (yrg (yflip c) p) with
        | none => []
        | some E2 => [E2]
theorem ybr1_ok {E : yE} {ρ : yR} {a b : Value} {c : Jvm.ClassFile.Cond} {x y : Int32} (hG : yG E ρ) (ha : (yiv E a).isSome = true) (hb : (yiv E b).isSome = true) (hva : yv ρ a (.int x)) (hvb : yv ρ b (.int y)) (h : zicmp c x y = true) : ∃ E' ∈ ybr1 E a b c, yG E' ρ := by
  obtain ⟨p, hp⟩ := Option.isSome_iff_exists.mp ha
  obtain ⟨q, hq⟩ := Option.isSome_iff_exists.mp hb
  obtain ⟨x', e1, p1⟩ := yiv_ok hG hp hva
  obtain ⟨y', e2, q1⟩ := yiv_ok hG hq hvb
  cases e1
  cases e2
  obtain ⟨E1, g1, G1⟩ := ycut_ok hG hp hva (yrg_ok h q1)
  obtain ⟨q', hq'⟩ := Option.isSome_iff_exists.mp (yiv_cut g1 hb)
  obtain ⟨E2, g2, G2⟩ := ycut_ok G1 hq' hvb (yrg_ok (yflip_ok h) p1)
  refine ⟨E2, ?_, G2⟩
  unfold ybr1
  rw [hp, hq]
  dsimp only
  rw [g1]
  dsimp only
  rw [g2]
  exact List.mem_cons_self
def ybrs (E : yE) (a b : Value) (c : Jvm.ClassFile.Cond) : List yE := match c with
  | .ne => ybr1 E a b .lt ++ ybr1 E a b .gt
  | c => ybr1 E a b c
theorem ybrs_ok {E : yE} {ρ : yR} {a b : Value} {c : Jvm.ClassFile.Cond} {x y : Int32} (hG : yG E ρ) (ha : (yiv E a).isSome = true) (hb : (yiv E b).isSome = true) (hva : yv ρ a (.int x)) (hvb : yv ρ b (.int y)) (h : zicmp c x y = true) : ∃ E' ∈ ybrs E a b c, yG E' ρ := by
  cases c with
  | ne =>
    have h1 : (!decide (x = y)) = true := h
    have h2 : ¬ x = y := by simpa using h1
    by_cases hlt : x < y
    · obtain ⟨E', m, g⟩ := ybr1_ok (c := .lt) hG ha hb hva hvb (decide_eq_true hlt)
      exact ⟨E', List.mem_append_left _ m, g⟩
    · have hgt : y < x := Int32.lt_iff_toInt_lt.mpr (by
        have h3 := mt Int32.lt_iff_toInt_lt.mpr hlt
        have h4 : x.toInt ≠ y.toInt := fun e => h2 (Int32.toInt_inj.mp e)
        omega)
      obtain ⟨E', m, g⟩ := ybr1_ok (c := .gt) hG ha hb hva hvb (decide_eq_true hgt)
      exact ⟨E', List.mem_append_right _ m, g⟩
  | _ => exact ybr1_ok hG ha hb hva hvb h
def ynorm (E : yE) (v : Value) : Value := match v with
  | .float k => match E.1[k.toNat]? with
    | some q => if q.1 = q.2 then .int (Int32.ofInt q.1) else .float k
    | none => .float k
  | v => v
theorem ynorm_ok {E : yE} {ρ : yR} {v w : Value} (hG : yG E ρ) (h : yv ρ v w) : yv ρ (ynorm E v) w := by
  cases v with
  | float k =>
    unfold ynorm
    dsimp only
    split
    · next q hq =>
      split
      · next e =>
        obtain ⟨x, h1, h2⟩ := h
        have h3 := hG.2.2 _ _ _ hq h1
        have h4 : x.toInt = q.1 := by omega
        show w = .int (Int32.ofInt q.1)
        rw [h2, ← h4, Int32.ofInt_toInt]
      · exact h
    · exact h
  | _ => exact h
/-- between these keys -/
def ygap : Int → Int → List Int → List (Int × Int)
  | l, u, [] => if l ≤ u then [(l, u)] else []
  | l, u, k :: ks => (if l ≤ min (k - 1) u then [(l, min (k - 1) u)] else []) ++ ygap (max l (k + 1)) u ks
theorem ygap_ok : ∀ (ks : List Int) (l u x : Int), l ≤ x → x ≤ u → x ∉ ks → ∃ g ∈ ygap l u ks, g.1 ≤ x ∧ x ≤ g.2
  | [], l, u, x, h1, h2, _ => ⟨(l, u), by unfold ygap; rw [if_pos (by omega)]; exact List.mem_cons_self, h1, h2⟩
  | k :: ks, l, u, x, h1, h2, h3 => by
    have h4 : x ≠ k := fun e => h3 (by rw [e]; exact List.mem_cons_self)
    have h5 : x ∉ ks := fun e => h3 (List.mem_cons_of_mem _ e)
    unfold ygap
    by_cases hx : x < k
    · refine ⟨(l, min (k - 1) u), List.mem_append_left _ ?_, h1, by show x ≤ min (k - 1) u; omega⟩
      rw [if_pos (by omega)]
      exact List.mem_cons_self
    · obtain ⟨g, m, hg⟩ := ygap_ok ks (max l (k + 1)) u x (by omega) h2 h5
      exact ⟨g, List.mem_append_right _ m, hg⟩
def yone (E : yE) (s : Nat) (p : Int × Int) (ks : List Int) (pc : Nat) (ls : zL) (r : List Value) (h : zH) : List yS :=
  (ks.filter (fun k => decide (p.1 ≤ k) && decide (k ≤ p.2))).map (fun k => ((E.1.set s (k, k), E.2), pc, ls, .int (Int32.ofInt k) :: r, h))
theorem yone_ok {E : yE} {ρ : yR} {s : Nat} {p : Int × Int} {ks : List Int} {pc : Nat} {ls : zL} {r : List Value} {h : zH} {x : Int32} (hG : yG E ρ) (hp : E.1[s]? = some p) (hx : ρ.1[s]? = some x) (hk : x.toInt ∈ ks) : ∃ E' : yE, (E', pc, ls, .int x :: r, h) ∈ yone E s p ks pc ls r h ∧ yG E' ρ := by
  have h3 := hG.2.2 _ _ _ hp hx
  refine ⟨(E.1.set s (x.toInt, x.toInt), E.2), ?_, yG_set hG hx ⟨Int.le_refl _, Int.le_refl _⟩⟩
  unfold yone
  refine List.mem_map.mpr ⟨x.toInt, List.mem_filter.mpr ⟨hk, ?_⟩, ?_⟩
  · rw [Bool.and_eq_true]
    exact ⟨decide_eq_true h3.1, decide_eq_true h3.2⟩
  · rw [Int32.ofInt_toInt]
def ybin (i : Instr) : Bool := match i with
  | .iadd | .isub | .imul | .iand | .ior | .ixor | .ishl | .ishr | .iushr => true
  | _ => false
theorem ybin_ok {X : zX} {i : Instr} (hb : ybin i = true) (pc : Nat) (x y : Int32) : ∃ z : Int32, ∀ (cl : zL) (cr : List Value) (ch : zH), zstI X i pc cl (.int y :: .int x :: cr) ch = some (pc + 1, cl, .int z :: cr, ch) := by
  cases i with
  | iadd => exact ⟨_, fun _ _ _ => rfl⟩
  | isub => exact ⟨_, fun _ _ _ => rfl⟩
  | imul => exact ⟨_, fun _ _ _ => rfl⟩
  | iand => exact ⟨_, fun _ _ _ => rfl⟩
  | ior => exact ⟨_, fun _ _ _ => rfl⟩
  | ixor => exact ⟨_, fun _ _ _ => rfl⟩
  | ishl => exact ⟨_, fun _ _ _ => rfl⟩
  | ishr => exact ⟨_, fun _ _ _ => rfl⟩
  | iushr => exact ⟨_, fun _ _ _ => rfl⟩
  | _ => cases hb
def yrange (lo : Int) (n : Nat) : List Int := (List.range n).map (fun j : Nat => lo + (j : Int))
theorem yrange_mem {lo x : Int} {n : Nat} (h1 : lo ≤ x) (h2 : x < lo + n) : x ∈ yrange lo n := List.mem_map.mpr ⟨(x - lo).toNat, List.mem_range.mpr (by omega), by omega⟩
theorem yrange_of {lo x : Int} {n : Nat} (h : x ∈ yrange lo n) : lo ≤ x ∧ x < lo + n := by
  obtain ⟨j, hj, e⟩ := List.mem_map.mp h
  have := List.mem_range.mp hj
  omega
def ysy (X : zX) (nL : Nat) (c : Nat) (i : Instr) (pc : Nat) (E : yE) (ls : zL) (st : List Value) (h : zH) : Option (List yS) :=
  match i with
  | .iload_n k => match zget ls k with
    | some (.float s) => some [(E, pc + 1, ls, ynorm E (.float s) :: st, h)]
    | _ => none
  | .iload k => match zget ls k with
    | some (.float s) => some [(E, pc + 2, ls, ynorm E (.float s) :: st, h)]
    | _ => none
  | .istore_n k => match st with
    | .float s :: r => if (k : Nat) < nL then some [(E, pc + 1, zset1 ls k (.float s), r, h)] else none
    | _ => none
  | .istore k => match st with
    | .float s :: r => if k < nL then some [(E, pc + 2, zset1 ls k (.float s), r, h)] else none
    | _ => none
  | .ifCond cd off => match st with
    | a :: r => if 0 ≤ (pc : Int) + off ∧ (yiv E a).isSome = true then some ((ybrs E a (.int 0) cd).map (fun e => (e, ((pc : Int) + off).toNat, ls, r, h)) ++ (ybrs E a (.int 0) (yneg cd)).map (fun e => (e, pc + 3, ls, r, h))) else none
    | _ => none
  | .if_icmp cd off => match st with
    | b :: a :: r => if 0 ≤ (pc : Int) + off ∧ (yiv E a).isSome = true ∧ (yiv E b).isSome = true then some ((ybrs E a b cd).map (fun e => (e, ((pc : Int) + off).toNat, ls, r, h)) ++ (ybrs E a b (yneg cd)).map (fun e => (e, pc + 3, ls, r, h))) else none
    | _ => none
  | .tableswitch d lo hi offs => match st with
    | .float s :: r => match E.1[s.toNat]? with
      | some p => if 0 ≤ (pc : Int) + d then some (yone E s.toNat p (yrange lo (hi - lo + 1).toNat) pc ls r h ++ (ygap p.1 p.2 (yrange lo (hi - lo + 1).toNat)).map (fun g => ((E.1.set s.toNat g, E.2), ((pc : Int) + d).toNat, ls, r, h))) else none
      | none => none
    | _ => none
  | .lookupswitch d ps => match st with
    | .float s :: r => match E.1[s.toNat]? with
      | some p => if 0 ≤ (pc : Int) + d ∧ (ps.toList.zip (ps.toList.drop 1)).all (fun (a, next) => a.1 < next.1) = true then some (yone E s.toNat p (ps.toList.map (fun q => q.1)) pc ls r h ++ (ygap p.1 p.2 (ps.toList.map (fun q => q.1))).map (fun g => ((E.1.set s.toNat g, E.2), ((pc : Int) + d).toNat, ls, r, h))) else none
      | none => none
    | _ => none
  | .iaload => match st with
    | .float s :: r => match E.1[s.toNat]? with
      | some p => if p.2 - p.1 ≤ 64 then some (yone E s.toNat p (yrange p.1 (p.2 - p.1 + 1).toNat) pc ls r h) else none
      | none => none
    | _ => none
  | .putfield j => match st with
    | .float s :: .ref a :: r => match zfld X c j, h[a]? with
      | some (ci, k), some (ci', .inr (.inr (.inr fs))) => if ci' = ci ∧ k < fs.length ∧ zfin X ci k = false ∧ zty X ci k = .int then some [(E, pc + 3, ls, r, h.set a (ci, .inr (.inr (.inr (fs.set k (.float s))))))] else none
      | _, _ => none
    | _ => none
  | .iastore => match st with
    | v :: .int n :: .ref a :: r => match h[a]? with
      | some (t, .inl l) => if t = 0 ∧ zidx n l.length = true ∧ (yiv E v).isSome = true then some [(E, pc + 1, ls, r, h.set a (100, .inr (.inr (.inr ((l.map Value.int).set n.toNatClampNeg v)))))] else none
      | some (t, .inr (.inr (.inr fs))) => if t = 100 ∧ zidx n fs.length = true ∧ (yiv E v).isSome = true then some [(E, pc + 1, ls, r, h.set a (100, .inr (.inr (.inr (fs.set n.toNatClampNeg v)))))] else none
      | _ => none
    | _ => none
  | i => match st with
    | b :: a :: r => if ybin i = true ∧ (yiv E a).isSome = true ∧ (yiv E b).isSome = true ∧ E.1.length < 4294967296 then some [((E.1 ++ [(-2147483648, 2147483647)], E.2), pc + 1, ls, .float (UInt32.ofNat E.1.length) :: r, h)] else none
    | _ => none
end
section
/-! Symbols: the rules are sound; so are runs. -/
theorem ystepI {X : zX} {nL : Nat} {ini : Bool} {c : Nat} {i : Instr} {pc : Nat} {ls : zL} {st : List Value} {h : zH} {q : Nat × zL × List Value × zH} (hs : zstI X i pc ls st h = some q) : zstep X nL ini c i pc ls st h = some q := by
  unfold zstep
  rw [hs]
theorem ystepL {X : zX} {nL : Nat} {ini : Bool} {c : Nat} {i : Instr} {pc : Nat} {ls : zL} {st : List Value} {h : zH} {q : Nat × zL × List Value × zH} (hs : zstL nL i pc ls st h = some q) : zstep X nL ini c i pc ls st h = some q := by
  unfold zstep
  rw [yI_no hs, hs]
theorem ystepH {X : zX} {nL : Nat} {ini : Bool} {c : Nat} {i : Instr} {pc : Nat} {ls : zL} {st : List Value} {h : zH} {q : Nat × zL × List Value × zH} (hs : zstH X ini c i pc ls st h = some q) : zstep X nL ini c i pc ls st h = some q := by
  unfold zstep
  rw [(yIL_no (X' := X) (nL := nL) hs).1, (yIL_no (X' := X) (nL := nL) hs).2, hs]
theorem ysw_no : ∀ (l : List (Int × Int)) (d k : Int), k ∉ l.map (fun q => q.1) → Op.lookupswitch.offset l d k = d
  | [], d, k, _ => rfl
  | (a, o) :: r, d, k, h => by
    rw [Op.lookupswitch.offset_cons, if_neg (fun e => h (by rw [← e]; exact List.mem_cons_self))]
    exact ysw_no r d k (fun e => h (List.mem_cons_of_mem _ e))
theorem yG_push {E : yE} {ρ : yR} {z : Int32} (hG : yG E ρ) : yG (E.1 ++ [(-2147483648, 2147483647)], E.2) (ρ.1 ++ [z], ρ.2) := by
  refine ⟨by simp [hG.1], hG.2.1, fun k q x hk hx => ?_⟩
  have hk' : (E.1 ++ [(-2147483648, 2147483647)])[k]? = some q := hk
  have hx' : (ρ.1 ++ [z])[k]? = some x := hx
  by_cases h : k < E.1.length
  · rw [List.getElem?_append_left h] at hk'
    rw [List.getElem?_append_left (by rw [hG.1]; exact h)] at hx'
    exact hG.2.2 _ _ _ hk' hx'
  · rw [List.getElem?_append_right (by omega)] at hk'
    have hz1 : k - E.1.length < 1 := (List.getElem?_eq_some_iff.mp hk').1
    rw [show k - E.1.length = 0 by omega] at hk'
    cases hk'
    exact yb x
theorem yarr_set {ρ : yR} {fs : List Value} {l : List Int32} {v : Value} {x : Int32} {n : Nat} (h : yvs ρ fs (l.map Value.int)) (hv : yv ρ v (.int x)) : yvs ρ (fs.set n v) ((l.set n x).map Value.int) := by
  rw [List.map_set]
  exact yA.set hv h
theorem yarr_map {ρ : yR} : ∀ (l : List Int32), yvs ρ (l.map Value.int) (l.map Value.int)
  | [] => rfl
  | a :: l => ⟨_, _, rfl, rfl, yarr_map l⟩
theorem yce_arr {ρ : yR} {fs : List Value} {c : zE} (h : yce ρ (100, .inr (.inr (.inr fs))) c) : ∃ l : List Int32, c = (0, .inl l) ∧ yvs ρ fs (l.map Value.int) := by
  have h' : if 100 < 100 then ∃ gs : List Value, c = (100, .inr (.inr (.inr gs))) ∧ yvs ρ fs gs else 100 = 100 ∧ ∃ l : List Int32, c = (0, .inl l) ∧ yvs ρ fs (l.map .int) := h
  rw [if_neg (by decide)] at h'
  exact h'.2
theorem yce_am {ρ : yR} {fs : List Value} {l : List Int32} (h : yvs ρ fs (l.map Value.int)) : yce ρ (100, .inr (.inr (.inr fs))) (0, .inl l) := by
  show (if 100 < 100 then ∃ gs : List Value, ((0, Sum.inl l) : zE) = (100, .inr (.inr (.inr gs))) ∧ yvs ρ fs gs else 100 = 100 ∧ ∃ l' : List Int32, ((0, Sum.inl l) : zE) = (0, .inl l') ∧ yvs ρ fs (l'.map .int))
  rw [if_neg (by decide)]
  exact ⟨rfl, l, rfl, h⟩
/-- what a rule owes: one of its ends is the machine's next state, or the same state (then the instruction is looked at again) -/
def yOk (X : zX) (nL : Nat) (ini : Bool) (c : Nat) (i : Instr) (pc : Nat) (ρ : yR) (cl : zL) (cst : List Value) (ch : zH) (ss : List yS) : Prop :=
  ∃ s ∈ ss, ∃ (ρ' : yR) (cl' : zL) (cst' : List Value) (ch' : zH), yext ρ ρ' ∧ yG s.1 ρ' ∧ yls ρ' s.2.2.1 cl' ∧ yvs ρ' s.2.2.2.1 cst' ∧ yhs ρ' s.2.2.2.2 ch' ∧ (zstep X nL ini c i pc cl cst ch = some (s.2.1, cl', cst', ch') ∨ (s.2.1 = pc ∧ cl' = cl ∧ cst' = cst ∧ ch' = ch))
theorem ybr_two {X : zX} {nL : Nat} {ini : Bool} {c : Nat} {i : Instr} {pc : Nat} {off : Int} {cd : Jvm.ClassFile.Cond} {E : yE} {ρ : yR} {a b : Value} {ls cl : zL} {r cr cst : List Value} {h ch : zH} {x y : Int32} (hG : yG E ρ) (h0 : 0 ≤ (pc : Int) + off) (ha : (yiv E a).isSome = true) (hb : (yiv E b).isSome = true) (hva : yv ρ a (.int x)) (hvb : yv ρ b (.int y)) (hl : yls ρ ls cl) (hr : yvs ρ r cr) (hh : yhs ρ h ch) (hz : zstI X i pc cl cst ch = zbr (zicmp cd x y) pc off cl cr ch) :
    yOk X nL ini c i pc ρ cl cst ch ((ybrs E a b cd).map (fun e => (e, ((pc : Int) + off).toNat, ls, r, h)) ++ (ybrs E a b (yneg cd)).map (fun e => (e, pc + 3, ls, r, h))) := by
  cases hc : zicmp cd x y with
  | true =>
    obtain ⟨E', m, g⟩ := ybrs_ok hG ha hb hva hvb hc
    refine ⟨_, List.mem_append_left _ (List.mem_map.mpr ⟨E', m, rfl⟩), ρ, cl, cr, ch, yext.rf, g, hl, hr, hh, Or.inl (ystepI ?_)⟩
    rw [hz, hc]
    unfold zbr
    rw [if_pos h0, if_pos rfl]
  | false =>
    obtain ⟨E', m, g⟩ := ybrs_ok hG ha hb hva hvb (yneg_ok hc)
    refine ⟨_, List.mem_append_right _ (List.mem_map.mpr ⟨E', m, rfl⟩), ρ, cl, cr, ch, yext.rf, g, hl, hr, hh, Or.inl (ystepI ?_)⟩
    rw [hz, hc]
    unfold zbr
    rw [if_pos h0, if_neg (by decide)]
set_option maxHeartbeats 8000000 in
theorem ysy_ok {X0 X : zX} {nL : Nat} {ini : Bool} {c : Nat} {i : Instr} {pc : Nat} {E : yE} {ρ : yR} {ls cl : zL} {st cst : List Value} {h ch : zH} {ss : List yS} (hX : yXX X0 X) (hs : ysy X0 nL c i pc E ls st h = some ss) (hG : yG E ρ) (hl : yls ρ ls cl) (hst : yvs ρ st cst) (hh : yhs ρ h ch) : yOk X nL ini c i pc ρ cl cst ch ss := by
  obtain ⟨x1, x2, x3, x4, x5, ⟨x6, x7, x8, x9, x10⟩, x11, x12⟩ := id hX
  cases i with
  | iload_n k =>
    dsimp only [ysy] at hs
    split at hs
    · next hg =>
      cases hs
      obtain ⟨v, g, e⟩ := yget hl hg
      obtain ⟨x, e1, rfl⟩ := id e
      exact ⟨_, List.mem_cons_self, ρ, cl, _, ch, yext.rf, hG, hl, y0 (ynorm_ok hG e) hst, hh, Or.inl (ystepL (by dsimp only [zstL]; rw [g]))⟩
    · cases hs
  | iload k =>
    dsimp only [ysy] at hs
    split at hs
    · next hg =>
      cases hs
      obtain ⟨v, g, e⟩ := yget hl hg
      obtain ⟨x, e1, rfl⟩ := id e
      exact ⟨_, List.mem_cons_self, ρ, cl, _, ch, yext.rf, hG, hl, y0 (ynorm_ok hG e) hst, hh, Or.inl (ystepL (by dsimp only [zstL]; rw [g]))⟩
    · cases hs
  | istore_n k =>
    dsimp only [ysy] at hs
    split at hs
    · split at hs
      · next q =>
        cases hs
        obtain ⟨b, cr, rfl, e, hr⟩ := hst
        obtain ⟨x, e1, rfl⟩ := id e
        exact ⟨_, List.mem_cons_self, ρ, _, cr, ch, yext.rf, hG, yset1 hl e, hr, hh, Or.inl (ystepL (by dsimp only [zstL]; rw [if_pos q]))⟩
      · cases hs
    · cases hs
  | istore k =>
    dsimp only [ysy] at hs
    split at hs
    · split at hs
      · next q =>
        cases hs
        obtain ⟨b, cr, rfl, e, hr⟩ := hst
        obtain ⟨x, e1, rfl⟩ := id e
        exact ⟨_, List.mem_cons_self, ρ, _, cr, ch, yext.rf, hG, yset1 hl e, hr, hh, Or.inl (ystepL (by dsimp only [zstL]; rw [if_pos q]))⟩
      · cases hs
    · cases hs
  | ifCond cd off =>
    dsimp only [ysy] at hs
    split at hs
    · split at hs
      · next q =>
        cases hs
        obtain ⟨b, cr, rfl, e, hr⟩ := hst
        obtain ⟨p, hp⟩ := Option.isSome_iff_exists.mp q.2
        obtain ⟨x, rfl, -⟩ := yiv_ok hG hp e
        exact ybr_two hG q.1 q.2 rfl e (yv_r rfl) hl hr hh rfl
      · cases hs
    · cases hs
  | if_icmp cd off =>
    dsimp only [ysy] at hs
    split at hs
    · split at hs
      · next q =>
        cases hs
        obtain ⟨b, cr, rfl, e, b2, cr2, rfl, e2, hr⟩ := hst
        obtain ⟨p, hp⟩ := Option.isSome_iff_exists.mp q.2.1
        obtain ⟨p2, hp2⟩ := Option.isSome_iff_exists.mp q.2.2
        obtain ⟨x, rfl, -⟩ := yiv_ok hG hp e2
        obtain ⟨y, rfl, -⟩ := yiv_ok hG hp2 e
        exact ybr_two hG q.1 q.2.1 q.2.2 e2 e hl hr hh rfl
      · cases hs
    · cases hs
  | tableswitch d lo hi offs =>
    dsimp only [ysy] at hs
    split at hs
    · next s r =>
      split at hs
      · next p hp =>
        split at hs
        · next q =>
          cases hs
          obtain ⟨b, cr, rfl, e, hr⟩ := hst
          obtain ⟨x, e1, rfl⟩ := id e
          by_cases hk : x.toInt ∈ yrange lo (hi - lo + 1).toNat
          · obtain ⟨E', m, g⟩ := yone_ok (pc := pc) (ls := ls) (r := r) (h := h) hG hp e1 hk
            exact ⟨_, List.mem_append_left _ m, ρ, cl, _, ch, yext.rf, g, hl, y0 (yv_r rfl) hr, hh, Or.inr ⟨rfl, rfl, rfl, rfl⟩⟩
          · have hb := hG.2.2 _ _ _ hp e1
            obtain ⟨g, m, hg⟩ := ygap_ok _ p.1 p.2 x.toInt hb.1 hb.2 hk
            refine ⟨_, List.mem_append_right _ (List.mem_map.mpr ⟨g, m, rfl⟩), ρ, cl, cr, ch, yext.rf, yG_set hG e1 hg, hl, hr, hh, Or.inl (ystepI ?_)⟩
            have hn : x.toInt < lo ∨ hi < x.toInt := by
              by_cases h1 : x.toInt < lo
              · exact Or.inl h1
              · by_cases h2 : hi < x.toInt
                · exact Or.inr h2
                · exact absurd (yrange_mem (by omega) (by omega)) hk
            dsimp only [zstI]
            rw [if_pos hn]
            unfold zjump
            rw [if_pos q]
        · cases hs
      · cases hs
    · cases hs
  | lookupswitch d ps =>
    dsimp only [ysy] at hs
    split at hs
    · next s r =>
      split at hs
      · next p hp =>
        split at hs
        · next q =>
          cases hs
          obtain ⟨b, cr, rfl, e, hr⟩ := hst
          obtain ⟨x, e1, rfl⟩ := id e
          by_cases hk : x.toInt ∈ ps.toList.map (fun q => q.1)
          · obtain ⟨E', m, g⟩ := yone_ok (pc := pc) (ls := ls) (r := r) (h := h) hG hp e1 hk
            exact ⟨_, List.mem_append_left _ m, ρ, cl, _, ch, yext.rf, g, hl, y0 (yv_r rfl) hr, hh, Or.inr ⟨rfl, rfl, rfl, rfl⟩⟩
          · have hb := hG.2.2 _ _ _ hp e1
            obtain ⟨g, m, hg⟩ := ygap_ok _ p.1 p.2 x.toInt hb.1 hb.2 hk
            refine ⟨_, List.mem_append_right _ (List.mem_map.mpr ⟨g, m, rfl⟩), ρ, cl, cr, ch, yext.rf, yG_set hG e1 hg, hl, hr, hh, Or.inl (ystepI ?_)⟩
            dsimp only [zstI]
            rw [if_pos q.2, ysw_no _ _ _ hk]
            unfold zjump
            rw [if_pos q.1]
        · cases hs
      · cases hs
    · cases hs
  | iaload =>
    dsimp only [ysy] at hs
    split at hs
    · next s r =>
      split at hs
      · next p hp =>
        split at hs
        · next q =>
          cases hs
          obtain ⟨b, cr, rfl, e, hr⟩ := hst
          obtain ⟨x, e1, rfl⟩ := id e
          have hb := hG.2.2 _ _ _ hp e1
          obtain ⟨E', m, g⟩ := yone_ok (pc := pc) (ls := ls) (r := r) (h := h) hG hp e1 (yrange_mem (n := (p.2 - p.1 + 1).toNat) hb.1 (by omega))
          exact ⟨_, m, ρ, cl, _, ch, yext.rf, g, hl, y0 (yv_r rfl) hr, hh, Or.inr ⟨rfl, rfl, rfl, rfl⟩⟩
        · cases hs
      · cases hs
    · cases hs
  | putfield j =>
    dsimp only [ysy] at hs
    split at hs
    · split at hs
      · next q1 q2 =>
        split at hs
        · next q =>
          cases hs
          obtain ⟨rfl, q5, q6, q7⟩ := q
          obtain ⟨b, cr, rfl, e, b2, cr2, rfl, e2, hr⟩ := hst
          obtain rfl := e2
          obtain ⟨x, e1, rfl⟩ := id e
          obtain ⟨f1, f2⟩ := x1 _ _ _ q1
          obtain ⟨b, g1, g2⟩ := yA.get hh q2
          obtain ⟨gs, rfl, g3⟩ := yce_obj g2 f2
          refine ⟨_, List.mem_cons_self, ρ, cl, cr2, _, yext.rf, hG, hl, hr, yA.set (yce_mk f2 (yA.set e g3)) hh, Or.inl (ystepH ?_)⟩
          dsimp only [zstH]
          rw [f1, g1]
          dsimp only
          rw [if_pos ⟨rfl, by rw [yA.len g3]; exact q5, by
            rw [yputs_eq hX]
            unfold zputs
            rw [q6, q7]
            simp [zdry, narrow, fits]⟩]
        · cases hs
      · cases hs
    · cases hs
  | iastore =>
    dsimp only [ysy] at hs
    split at hs
    · split at hs
      · next q2 =>
        split at hs
        · next q =>
          cases hs
          obtain ⟨rfl, q5, q6⟩ := q
          obtain ⟨b, cr, rfl, e, b2, cr2, rfl, e2, b3, cr3, rfl, e3, hr⟩ := hst
          obtain rfl := e2
          obtain rfl := e3
          obtain ⟨p, hp⟩ := Option.isSome_iff_exists.mp q6
          obtain ⟨x, rfl, -⟩ := yiv_ok hG hp e
          obtain ⟨b, g1, g2⟩ := yA.get hh q2
          obtain rfl := yce_ints g2
          refine ⟨_, List.mem_cons_self, ρ, cl, cr3, _, yext.rf, hG, hl, hr, yA.set (yce_am (yarr_set (yarr_map _) e)) hh, Or.inl (ystepH ?_)⟩
          dsimp only [zstH]
          rw [g1]
          exact if_pos q5
        · cases hs
      · next q2 =>
        split at hs
        · next q =>
          cases hs
          obtain ⟨rfl, q5, q6⟩ := q
          obtain ⟨b, cr, rfl, e, b2, cr2, rfl, e2, b3, cr3, rfl, e3, hr⟩ := hst
          obtain rfl := e2
          obtain rfl := e3
          obtain ⟨p, hp⟩ := Option.isSome_iff_exists.mp q6
          obtain ⟨x, rfl, -⟩ := yiv_ok hG hp e
          obtain ⟨b, g1, g2⟩ := yA.get hh q2
          obtain ⟨l, rfl, g3⟩ := yce_arr g2
          have hlen := yA.len g3
          rw [List.length_map] at hlen
          refine ⟨_, List.mem_cons_self, ρ, cl, cr3, _, yext.rf, hG, hl, hr, yA.set (yce_am (yarr_set g3 e)) hh, Or.inl (ystepH ?_)⟩
          dsimp only [zstH]
          rw [g1]
          exact if_pos (by rw [hlen]; exact q5)
        · cases hs
      · cases hs
    · cases hs
  | _ =>
    first
    | exact nomatch (show (none : Option (List yS)) = some _ from hs)
    | (dsimp only [ysy] at hs
       split at hs
       · split at hs
         · next q =>
           cases hs
           obtain ⟨qb, qa, qc, ql⟩ := q
           obtain ⟨b, cr, rfl, e, b2, cr2, rfl, e2, hr⟩ := hst
           obtain ⟨p, hp⟩ := Option.isSome_iff_exists.mp qa
           obtain ⟨p2, hp2⟩ := Option.isSome_iff_exists.mp qc
           obtain ⟨x, rfl, -⟩ := yiv_ok hG hp e2
           obtain ⟨y, rfl, -⟩ := yiv_ok hG hp2 e
           obtain ⟨z, hz⟩ := ybin_ok (X := X) qb pc x y
           have hx : yext ρ (ρ.1 ++ [z], ρ.2) := ⟨⟨[z], rfl⟩, ⟨[], by simp⟩, rfl⟩
           refine ⟨_, List.mem_cons_self, (ρ.1 ++ [z], ρ.2), cl, _, ch, hx, yG_push hG, hl.ext hx, y0 (v := .int z) ⟨z, ?_, rfl⟩ (yvs.ext hx hr), hh.ext hx, Or.inl (ystepI (hz cl cr2 ch))⟩
           show (ρ.1 ++ [z])[(UInt32.ofNat _).toNat]? = some z
           rw [UInt32.toNat_ofNat_of_lt' (by exact ql), ← hG.1]
           simp
         · cases hs
       · cases hs)
end
section
/-! Runs with symbols: all ends of a method. -/
abbrev yO : Type := yE × Option Value × zH
def yseq {α β : Type} (f : α → Option (List β)) : List α → Option (List β)
  | [] => some []
  | a :: as => match f a with
    | none => none
    | some x => match yseq f as with
      | none => none
      | some y => some (x ++ y)
theorem yseq_in {α β : Type} {f : α → Option (List β)} : ∀ {l : List α} {r : List β} {a : α}, yseq f l = some r → a ∈ l → ∃ x, f a = some x ∧ ∀ b ∈ x, b ∈ r
  | [], _, _, _, h => nomatch h
  | a :: as, r, z, hs, h => by
    unfold yseq at hs
    split at hs
    · cases hs
    · next x hx =>
      split at hs
      · cases hs
      · next y hy =>
        cases hs
        rcases List.mem_cons.mp h with e | h
        · subst e
          exact ⟨x, hx, fun b hb => List.mem_append_left _ hb⟩
        · obtain ⟨x', h1, h2⟩ := yseq_in hy h
          exact ⟨x', h1, fun b hb => List.mem_append_right _ (h2 b hb)⟩
def yrun (X : zX) (I : zI) (mcl : Nat → Nat) (C : Nat → yE → List Value → zH → Option (List yO)) (c : Nat) (ini : Bool) (nL : Nat) (rt : Option FieldType) (tab : Nat → Option (Instr × Nat)) : Nat → yE → Nat → zL → List Value → zH → Option (List yO)
  | 0, _, _, _, _, _ => none
  | n + 1, E, pc, ls, st, h => match tab pc with
    | none => none
    | some (i, _) => match (bif yput i st then none else zstep X nL ini c i pc ls st h) with
      | some (pc1, ls1, st1, h1) => yrun X I mcl C c ini nL rt tab n E pc1 ls1 st1 h1
      | none => match zret rt i st with
        | some r => some [(E, r, h)]
        | none => match zcall X I mcl c i st h with
          | some (mi, as, rest) => match C mi E as h with
            | some os => yseq (fun o => yrun X I mcl C c ini nL rt tab n o.1 (pc + 3) ls (o.2.1.toList ++ rest) o.2.2) os
            | none => none
          | none => match zobjI I c i st with
            | some rest => yrun X I mcl C c ini nL rt tab n E (pc + 3) ls rest h
            | none => match ysy X nL c i pc E ls st h with
              | some ss => yseq (fun s => yrun X I mcl C c ini nL rt tab n s.1 s.2.1 s.2.2.1 s.2.2.2.1 s.2.2.2.2) ss
              | none => none
def yev (X : zX) (I : zI) (mcl : Nat → Nat) (mt : zM) : Nat → Nat → yE → List Value → zH → Option (List yO)
  | 0, _, _, _, _ => none
  | d + 1, mi, E, as, h => match mt mi with
    | some (c, ini, nL, rt, tab) => if (lg_sl as).length ≤ nL then yrun X I mcl (yev X I mcl mt d) c ini nL rt tab 100000 E 0 (lv_args 0 as) [] h else none
    | none => none
def yrv (ρ : yR) (a r : Option Value) : Prop := match a with
  | none => r = none
  | some v => ∃ w, r = some w ∧ yv ρ v w
/-- what the ends of a call say -/
def yEnds (ρ : yR) (P : Option Value → zH → Prop) (os : List yO) : Prop := ∃ o ∈ os, ∃ (ρ' : yR) (r : Option Value) (h' : zH), yext ρ ρ' ∧ yG o.1 ρ' ∧ yrv ρ' o.2.1 r ∧ yhs ρ' o.2.2 h' ∧ P r h'
theorem zRun_more {X : zX} {I : zI} {mcl : Nat → Nat} {C : zC} {c : Nat} {ini : Bool} {nL : Nat} {rt : Option FieldType} {tab : Nat → Option (Instr × Nat)} : ∀ (n pc : Nat) (ls : zL) (st : List Value) (h : zH) (r : Option Value) (h' : zH), zRun X I mcl C c ini nL rt tab n pc ls st h r h' → zRun X I mcl C c ini nL rt tab (n + 1) pc ls st h r h' := by
  intro n
  induction n with
  | zero => intro pc ls st h r h' q; exact q.elim
  | succ n ih =>
    intro pc ls st h r h' q
    obtain ⟨i, len, ht, q⟩ := q
    refine ⟨i, len, ht, ?_⟩
    rcases q with q | ⟨pc1, ls1, st1, h1, q1, q2⟩ | ⟨rest, q1, q2⟩ | ⟨mi, as, rest, r1, h1, q1, q3, q2⟩
    · exact Or.inl q
    · exact Or.inr (Or.inl ⟨pc1, ls1, st1, h1, q1, ih _ _ _ _ _ _ q2⟩)
    · exact Or.inr (Or.inr (Or.inl ⟨rest, q1, ih _ _ _ _ _ _ q2⟩))
    · exact Or.inr (Or.inr (Or.inr ⟨mi, as, rest, r1, h1, q1, q3, ih _ _ _ _ _ _ q2⟩))
theorem yrv_list {ρ : yR} {a r : Option Value} (h : yrv ρ a r) : yvs ρ a.toList r.toList := by
  cases a with
  | none =>
    rw [show r = none from h]
    exact rfl
  | some v =>
    obtain ⟨w, e, hw⟩ := h
    rw [e]
    exact ⟨w, [], rfl, hw, rfl⟩
section YS
variable {X0 X : zX} {I : zI} {mcl : Nat → Nat} {mt : zM}
set_option maxHeartbeats 4000000 in
theorem yrun_ok {F : Nat → yE → List Value → zH → Option (List yO)} {C : zC} {c : Nat} {ini : Bool} {nL : Nat} {rt : Option FieldType} {tab : Nat → Option (Instr × Nat)} (hX : yXX X0 X) (hm : ∀ k, mcl k < 100)
    (hF : ∀ (mi : Nat) (E : yE) (as : List Value) (h : zH) (os : List yO), F mi E as h = some os → ∀ (ρ : yR) (cas : List Value) (ch : zH), yG E ρ → yvs ρ as cas → yhs ρ h ch → yEnds ρ (fun r h' => C mi cas ch r h') os) :
    ∀ (n : Nat) (E : yE) (pc : Nat) (ls : zL) (st : List Value) (h : zH) (os : List yO), yrun X0 I mcl F c ini nL rt tab n E pc ls st h = some os → ∀ (ρ : yR) (cl : zL) (cst : List Value) (ch : zH), yG E ρ → yls ρ ls cl → yvs ρ st cst → yhs ρ h ch → yEnds ρ (fun r h' => zRun X I mcl C c ini nL rt tab n pc cl cst ch r h') os := by
  intro n
  induction n with
  | zero => intro E pc ls st h os q; cases q
  | succ n ih =>
    intro E pc ls st h os q ρ cl cst ch hG hl hst hh
    unfold yrun at q
    split at q
    · cases q
    · next i len ht =>
      split at q
      · next pc1 ls1 st1 h1 hs =>
        cases hp : yput i st with
        | true => rw [hp] at hs; cases hs
        | false =>
          rw [hp] at hs
          obtain ⟨cl', cst', ch', g1, g2, g3, g4⟩ := yzstep hX hs hp hl hst hh
          obtain ⟨o, ho, ρ', r, h', k1, k2, k3, k4, k5⟩ := ih _ _ _ _ _ _ q ρ cl' cst' ch' hG g2 g3 g4
          exact ⟨o, ho, ρ', r, h', k1, k2, k3, k4, ⟨i, len, ht, Or.inr (Or.inl ⟨pc1, cl', cst', ch', g1, k5⟩)⟩⟩
      · split at q
        · next r hr =>
          cases q
          obtain ⟨g1, g2⟩ := yzret hr hst
          refine ⟨_, List.mem_cons_self, ρ, r, ch, yext.rf, hG, ?_, hh, ⟨i, len, ht, Or.inl ⟨g1, rfl⟩⟩⟩
          cases r with
          | none => exact rfl
          | some v => exact ⟨v, rfl, yv_r (g2 v rfl)⟩
        · split at q
          · next mi as rest hc =>
            split at q
            · next os1 hC =>
              obtain ⟨cas, crest, g1, g2, g3⟩ := yzcall (I := I) hX hm hc hst hh
              obtain ⟨o, ho, ρ1, r1, h1, k1, k2, k3, k4, k5⟩ := hF _ _ _ _ _ hC ρ cas ch hG g2 hh
              obtain ⟨x, hx, hin⟩ := yseq_in q ho
              obtain ⟨o2, ho2, ρ2, r2, h2, e1, e2, e3, e4, e5⟩ := ih _ _ _ _ _ _ hx ρ1 cl (r1.toList ++ crest) h1 k2 (hl.ext k1) (yA.app (g3.ext k1) (yrv_list k3)) k4
              exact ⟨o2, hin _ ho2, ρ2, r2, h2, k1.trans e1, e2, e3, e4, ⟨i, len, ht, Or.inr (Or.inr (Or.inr ⟨mi, cas, crest, r1, h1, g1, k5, e5⟩))⟩⟩
            · cases q
          · split at q
            · next rest hr =>
              obtain ⟨crest, g1, g2⟩ := yzobjI hr hst
              obtain ⟨o, ho, ρ', r, h', k1, k2, k3, k4, k5⟩ := ih _ _ _ _ _ _ q ρ cl crest ch hG hl g2 hh
              exact ⟨o, ho, ρ', r, h', k1, k2, k3, k4, ⟨i, len, ht, Or.inr (Or.inr (Or.inl ⟨crest, g1, k5⟩))⟩⟩
            · split at q
              · next ss hs =>
                obtain ⟨s, hin, ρ1, cl1, cst1, ch1, k1, k2, k3, k4, k5, k6⟩ := ysy_ok (ini := ini) hX hs hG hl hst hh
                obtain ⟨x, hx, hin2⟩ := yseq_in q hin
                obtain ⟨o, ho, ρ2, r2, h2, e1, e2, e3, e4, e5⟩ := ih _ _ _ _ _ _ hx ρ1 cl1 cst1 ch1 k2 k3 k4 k5
                refine ⟨o, hin2 _ ho, ρ2, r2, h2, k1.trans e1, e2, e3, e4, ?_⟩
                rcases k6 with k6 | ⟨k6, k7, k8, k9⟩
                · exact ⟨i, len, ht, Or.inr (Or.inl ⟨_, cl1, cst1, ch1, k6, e5⟩)⟩
                · rw [k6, k7, k8, k9] at e5
                  exact zRun_more _ _ _ _ _ _ _ e5
              · cases q
theorem yev_ok (hX : yXX X0 X) (hm : ∀ k, mcl k < 100) : ∀ (d mi : Nat) (E : yE) (as : List Value) (h : zH) (os : List yO), yev X0 I mcl mt d mi E as h = some os → ∀ (ρ : yR) (cas : List Value) (ch : zH), yG E ρ → yvs ρ as cas → yhs ρ h ch → yEnds ρ (fun r h' => zEv X I mcl mt d mi cas ch r h') os := by
  intro d
  induction d with
  | zero => intro mi E as h os q; cases q
  | succ d ih =>
    intro mi E as h os q ρ cas ch hG has hh
    unfold yev at q
    split at q
    · next c ini nL rt tab hmi =>
      split at q
      · next hlg =>
        obtain ⟨o, ho, ρ', r, h', k1, k2, k3, k4, k5⟩ := yrun_ok hX hm ih _ _ _ _ _ _ _ q ρ (lv_args 0 cas) [] ch hG (yargs 0 has) rfl hh
        exact ⟨o, ho, ρ', r, h', k1, k2, k3, k4, ⟨c, ini, nL, rt, tab, 100000, hmi, by rw [ysl_len has]; exact hlg, k5⟩⟩
      · cases q
    · cases q
end YS
end
