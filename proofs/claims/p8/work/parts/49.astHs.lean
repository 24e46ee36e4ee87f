/-! One instruction that looks at cells. -/
/-- the engine's tables (closed) and the machine's -/
def aXX (Y X : zX) : Prop := (∀ c j, zfld Y c j = zfld X c j) ∧ (∀ c j, zkon Y c j = zkon X c j) ∧ (∀ c j e, zxget Y c j e = zxget X c j e) ∧ (∀ (e : Nat) (q : Bool × List Int32), zxarr Y e = some q → zxarr X e = some q) ∧ (∀ c j, zty Y c j = zty X c j) ∧ (∀ c j, zfin Y c j = zfin X c j) ∧ (∀ (c j : Nat) (v : Value), zsta Y c j = some v → (v = .retAddr 999 ∧ ∃ w : Value, zsta X c j = some w ∧ (w = .null ∨ ∃ n : Nat, w = .retAddr n)) ∨ zsta X c j = some v) ∧ ∀ e, zxcl Y e = zxcl X e
theorem ash0 {f : aT} {e : zE} (h : ash f e) (hk : f.2.1 = 0) : ∃ fs : List Value, e = (f.1, .inr (.inr (.inr fs))) ∧ fs.length = f.2.2.1 := by
  obtain ⟨t, v⟩ := e
  obtain ⟨h1, h2⟩ := h
  have h1 : t = f.1 := h1
  rw [hk] at h2
  rcases v with l | l | l | fs
  · exact h2.elim
  · exact h2.elim
  · exact h2.elim
  · exact ⟨fs, by rw [show t = f.1 from h1], h2⟩
theorem ash1 {f : aT} {e : zE} (h : ash f e) (hk : f.2.1 = 1 ∨ f.2.1 = 2) : ∃ l : List Int32, e = (f.1, .inl l) ∧ l.length = f.2.2.1 := by
  obtain ⟨t, v⟩ := e
  obtain ⟨h1, h2⟩ := h
  have h1 : t = f.1 := h1
  rcases hk with hk | hk <;> rw [hk] at h2 <;> rcases v with l | l | l | fs <;> first | exact h2.elim | exact ⟨l, by rw [show t = f.1 from h1], h2⟩
theorem ash3 {f : aT} {e : zE} (h : ash f e) (hk : f.2.1 = 3) : ∃ l : List Int64, e = (f.1, .inr (.inl l)) ∧ l.length = f.2.2.1 := by
  obtain ⟨t, v⟩ := e
  obtain ⟨h1, h2⟩ := h
  have h1 : t = f.1 := h1
  rw [hk] at h2
  rcases v with l | l | l | fs
  · exact h2.elim
  · exact ⟨l, by rw [show t = f.1 from h1], h2⟩
  · exact h2.elim
  · exact h2.elim
theorem ash4 {f : aT} {e : zE} (h : ash f e) (hk : f.2.1 = 4) : ∃ l : List (Option Nat), e = (f.1, .inr (.inr (.inl l))) ∧ l.length = f.2.2.1 := by
  obtain ⟨t, v⟩ := e
  obtain ⟨h1, h2⟩ := h
  have h1 : t = f.1 := h1
  rw [hk] at h2
  rcases v with l | l | l | fs
  · exact h2.elim
  · exact h2.elim
  · exact ⟨l, by rw [show t = f.1 from h1], h2⟩
  · exact h2.elim
def aofl (W : aW) (s : Int) (ci k : Nat) : Bool := Nat.beq (afm W s.toNat).1 ci && (Nat.beq (afm W s.toNat).2.1 0 && (Nat.ble (k + 1) (afm W s.toNat).2.2.1 && Nat.ble (k + 1) (apn (afm W s.toNat))))
def aro (W : aW) (s : Int) (tag kd : Nat) (p : Int × Int) : Bool := Nat.beq (afm W s.toNat).1 tag && (Nat.beq (afm W s.toNat).2.1 kd && (ile 0 p.1 && !ile ((afm W s.toNat).2.2.1 : Int) p.2))
def ardo (W : aW) (E : List aY) (ls : aLs) (rest : List aV) (m : aM) (s : Int) (q : aK) (l u : Int) (pc' : Nat) : Option (List aO) := match ard W E m (afm W s.toNat) q l u with
  | some os => some (os.map (fun o => (pc', o.1, ls, o.2.1 :: rest, o.2.2)))
  | none => none
def agk (E : List aY) (D : List aD) (q : aK) : Bool := match E[q.1]? with
  | some (2, s, _) => acov E D s q
  | _ => false
def awro (W : aW) (Pt : aPt) (D : List aD) (E : List aY) (ls : aLs) (rest : List aV) (m : aM) (s : Int) (q : aK) (l u : Int) (v : aV) (pc' : Nat) : Option (List aO) := bif acov E D s q then (bif aprt Pt.1 s l u then (match awr W E m q v with
  | some m' => some [(pc', E, ls, rest, m')]
  | none => none) else (match Pt.2 E m s q v with
    | none => none
    | some none => some []
    | some (some A) => bif A.2.1.all (fun g => agk A.1 D g.1) && A.2.2.all (fun g => agk A.1 D g) then (match amw W A.1 m ((q, v) :: A.2.1) A.2.2 with
      | some m' => some [(pc', A.1, ls, rest, m')]
      | none => none) else none)) else none
def astH (Y : zX) (c : Nat) (W : aW) (Pt : aPt) (D : List aD) (i : Instr) (pc : Nat) (E : List aY) (ls : aLs) (st : List aV) (m : aM) : Option (List aO) :=
  match i with
  | .getfield j => match st with
    | .inr (.inr (.inl r)) :: rest => match zfld Y c j with
      | some (ci, k) => match E[r]? with
        | some (2, s, _) => bif aofl W s ci k then ardo W E ls rest m s (r, 0, (k : Int)) k k (pc + 3) else none
        | _ => none
      | none => none
    | .inr (.inr (.inr e)) :: rest => bif Nat.beq e 999 then none else (match zxget Y c j e with
      | some v => match aconv v with
        | some a => some [(pc + 3, E, ls, a :: rest, m)]
        | none => none
      | none => none)
    | _ => none
  | .putfield j => match st with
    | v :: .inr (.inr (.inl r)) :: rest => match zfld Y c j with
      | some (ci, k) => match E[r]? with
        | some (2, s, _) => bif aofl W s ci k && (!zfin Y ci k && afty E (zty Y ci k) v) then awro W Pt D E ls rest m s (r, 0, (k : Int)) k k v (pc + 3) else none
        | _ => none
      | none => none
    | _ => none
  | .getstatic j => match zsta Y c j with
    | some (.retAddr k) => some [(pc + 3, E, ls, .inr (.inr (.inr k)) :: st, m)]
    | some (.int x) => some [(pc + 3, E, ls, .inl (0, x.toInt) :: st, m)]
    | _ => none
  | .ldc j => match zkon Y c j with
    | some (.retAddr k) => bif Nat.beq k 999 then none else some [(pc + 2, E, ls, .inr (.inr (.inr k)) :: st, m)]
    | some (.int x) => some [(pc + 2, E, ls, .inl (0, x.toInt) :: st, m)]
    | _ => none
  | .ldc_w j => match zkon Y c j with
    | some (.int x) => some [(pc + 3, E, ls, .inl (0, x.toInt) :: st, m)]
    | _ => none
  | .ldc2_w j => match zkon Y c j with
    | some (.long x) => some [(pc + 3, E ++ [(1, x.toInt, x.toInt)], ls, .inr (.inl E.length) :: st, m)]
    | _ => none
  | .iaload => match st with
    | .inl (si, ci) :: .inr (.inr (.inl r)) :: rest => match E[r]?, aiv E si ci with
      | some (2, s, _), some p => bif aro W s 0 1 p then ardo W E ls rest m s (r, aix si ci p) p.1 p.2 (pc + 1) else none
      | _, _ => none
    | .inl (si, ci) :: .inr (.inr (.inr e)) :: rest => bif Nat.beq e 999 then none else (match zxarr Y e, aiv E si ci with
      | some (false, l), some p => bif ile 0 p.1 && !ile (l.length : Int) p.2 then (bif ieq p.1 p.2 then some [(pc + 1, E, ls, .inl (0, (l.getD p.1.toNat 0).toInt) :: rest, m)] else some [(pc + 1, E ++ [aFI], ls, .inl (E.length, 0) :: rest, m)]) else none
      | _, _ => none)
    | _ => none
  | .baload => match st with
    | .inl (si, ci) :: .inr (.inr (.inl r)) :: rest => match E[r]?, aiv E si ci with
      | some (2, s, _), some p => bif aro W s 2 2 p then ardo W E ls rest m s (r, aix si ci p) p.1 p.2 (pc + 1) else none
      | _, _ => none
    | .inl (si, ci) :: .inr (.inr (.inr e)) :: rest => bif Nat.beq e 999 then none else (match zxarr Y e, aiv E si ci with
      | some (true, l), some p => bif ile 0 p.1 && !ile (l.length : Int) p.2 then (bif ieq p.1 p.2 then some [(pc + 1, E, ls, .inl (0, (l.getD p.1.toNat 0).toInt) :: rest, m)] else some [(pc + 1, E ++ [aFI], ls, .inl (E.length, 0) :: rest, m)]) else none
      | _, _ => none)
    | _ => none
  | .laload => match st with
    | .inl (si, ci) :: .inr (.inr (.inl r)) :: rest => match E[r]?, aiv E si ci with
      | some (2, s, _), some p => bif aro W s 1 3 p then ardo W E ls rest m s (r, aix si ci p) p.1 p.2 (pc + 1) else none
      | _, _ => none
    | _ => none
  | .aaload => match st with
    | .inl (si, ci) :: .inr (.inr (.inl r)) :: rest => match E[r]?, aiv E si ci with
      | some (2, s, _), some p => bif aro W s 3 4 p then ardo W E ls rest m s (r, aix si ci p) p.1 p.2 (pc + 1) else none
      | _, _ => none
    | _ => none
  | .iastore => match st with
    | .inl v :: .inl (si, ci) :: .inr (.inr (.inl r)) :: rest => match E[r]?, aiv E si ci with
      | some (2, s, _), some p => bif aro W s 0 1 p then awro W Pt D E ls rest m s (r, aix si ci p) p.1 p.2 (.inl v) (pc + 1) else none
      | _, _ => none
    | _ => none
  | .bastore => match st with
    | .inl (sv, cv) :: .inl (si, ci) :: .inr (.inr (.inl r)) :: rest => match E[r]?, aiv E si ci with
      | some (2, s, _), some p => bif aro W s 2 2 p && afty E .boolean (.inl (sv, cv)) then awro W Pt D E ls rest m s (r, aix si ci p) p.1 p.2 (.inl (sv, cv)) (pc + 1) else none
      | _, _ => none
    | _ => none
  | .lastore => match st with
    | .inr (.inl v) :: .inl (si, ci) :: .inr (.inr (.inl r)) :: rest => match E[r]?, aiv E si ci with
      | some (2, s, _), some p => bif aro W s 1 3 p then awro W Pt D E ls rest m s (r, aix si ci p) p.1 p.2 (.inr (.inl v)) (pc + 1) else none
      | _, _ => none
    | _ => none
  | .arraylength => match st with
    | .inr (.inr (.inl r)) :: rest => match E[r]? with
      | some (2, s, _) => bif (Nat.beq (afm W s.toNat).1 0 && Nat.beq (afm W s.toNat).2.1 1) || ((Nat.beq (afm W s.toNat).1 2 && Nat.beq (afm W s.toNat).2.1 2) || ((Nat.beq (afm W s.toNat).1 1 && Nat.beq (afm W s.toNat).2.1 3) || (Nat.beq (afm W s.toNat).1 3 && Nat.beq (afm W s.toNat).2.1 4))) then some [(pc + 1, E, ls, .inl (0, ((afm W s.toNat).2.2.1 : Int)) :: rest, m)] else none
      | _ => none
    | .inr (.inr (.inr e)) :: rest => bif Nat.beq e 999 then none else (match zxarr Y e with
      | some (_, l) => some [(pc + 1, E, ls, .inl (0, (l.length : Int)) :: rest, m)]
      | none => none)
    | _ => none
  | _ => none
def aGoalH (W : aW) (G : aG) (D : List aD) (h0 : zH) (ρ : List Int) (X : zX) (ini : Bool) (c : Nat) (i : Instr) (pc : Nat) (os : List aO) (cl : zL) (cst : List Value) (h : zH) : Prop := ∃ (pc' : Nat) (cst' : List Value) (h' : zH), zstH X ini c i pc cl cst h = some (pc', cl, cst', h') ∧ ∃ S' : aS, (pc', S') ∈ os ∧ ∃ ρ', aext ρ ρ' ∧ aRel W G D h0 ρ' S' cl cst' h'
/-- a read from a real place -/
theorem ardo_ok {W : aW} {G : aG} {Pt : aPt} {D : List aD} {h0 : zH} {ρ : List Int} {X : zX} {ini : Bool} {c : Nat} {i : Instr} {pc pc' : Nat} {E : List aY} {ls : aLs} {st rest : List aV} {m : aM} {s s' : Int} {r a k : Nat} {q : aK} {l u : Int} {os : List aO} {cl : zL} {cst cr : List Value} {h : zH} (hs : ardo W E ls rest m s q l u pc' = some os) (hR : aRel W G D h0 ρ (E, ls, st, m) cl cst h) (hG : aGok W G Pt) (hr : E[r]? = some (2, s, s')) (har : ρ[r]? = some (a : Int)) (hd : aden ρ q a k) (hk : k < (afm W s.toNat).2.2.1) (hk2 : k < apn (afm W s.toNat)) (b0 : 0 ≤ l) (b1 : l ≤ k) (b2 : (k : Int) ≤ u) (hst : aSt ρ rest cr) (hz : ∀ v : Value, rd h a k = some v → zstH X ini c i pc cl cst h = some (pc', cl, v :: cr, h)) : aGoalH W G D h0 ρ X ini c i pc os cl cst h := by
  unfold ardo at hs
  split at hs
  · next os' ho =>
    cases hs
    obtain ⟨ha, hso⟩ := asort_of hR.1 hr har
    have e1 : s.toNat = asrt W a := by omega
    rw [e1] at hk hk2 ho
    obtain ⟨v, g1, o, g2, ρ', g3, g4, g5, g6⟩ := ard_ok ho hR.1 hR.2.2.2.1 hd ha rfl hk2 b0 b1 b2
    rw [ardr hG ha hk] at g1
    exact ⟨pc', v :: cr, h, hz v g1, _, List.mem_map.mpr ⟨o, g2, rfl⟩, ρ', g3, g4, hR.2.1.ext g3, ⟨_, _, rfl, g5, hst.ext g3⟩, g6, hR.2.2.2.2.ext g3⟩
  · cases hs
/-- a write to a real place -/
theorem awro_ok {W : aW} {G : aG} {Pt : aPt} {D : List aD} {h0 : zH} {ρ : List Int} {X : zX} {ini : Bool} {c : Nat} {i : Instr} {pc pc' : Nat} {E : List aY} {ls : aLs} {st rest : List aV} {m : aM} {s s' : Int} {r a k : Nat} {q : aK} {l u : Int} {os : List aO} {cl : zL} {cst cr : List Value} {h : zH} {b : aV} {v : Value} {e e' : zE} (hs : awro W Pt D E ls rest m s q l u b pc' = some os) (hR : aRel W G D h0 ρ (E, ls, st, m) cl cst h) (hG : aGok W G Pt) (hr : E[r]? = some (2, s, s')) (har : ρ[r]? = some (a : Int)) (hd : aden ρ q a k) (hk : k < (afm W s.toNat).2.2.1) (hk2 : k < apn (afm W s.toNat)) (b1 : l ≤ k) (b2 : (k : Int) ≤ u) (hst : aSt ρ rest cr) (hb : av ρ b v) (he : h[a]? = some e) (hsh : ash (afm W s.toNat) e') (hv : rd [e'] 0 k = some v) (ho : ∀ j : Nat, ¬ j = k → rd [e'] 0 j = rd [e] 0 j) (hz : zstH X ini c i pc cl cst h = some (pc', cl, cr, h.set a e')) : aGoalH W G D h0 ρ X ini c i pc os cl cst h := by
  obtain ⟨r1, r2, r3, r4, r5⟩ := hR
  obtain ⟨ha, hso⟩ := asort_of r1 hr har
  have e1 : s.toNat = asrt W a := by omega
  rw [e1] at hk hk2 hsh
  unfold awro at hs
  cases hcv : acov E D s q with
  | false => rw [hcv] at hs; cases hs
  | true =>
    rw [hcv] at hs
    rw [← hso] at hcv
    dsimp only [cond_true] at hs
    have hcd := acov_ok r1 hcv hd
    cases hc : aprt Pt.1 s l u with
    | true =>
      rw [hc] at hs
      dsimp only [cond_true] at hs
      rw [← hso] at hc
      split at hs
      · next m' hm =>
        cases hs
        have hW := aWr_of hG r4.1 ha hk (aprt_ok hc b1 b2) he hsh hv ho
        have hH' := awr_ok r1 hm r4 hd ha hk2 hb hW
        exact ⟨pc', cr, _, hz, _, List.mem_cons_self, ρ, aext.rf, r1, r2, hst, hH', r5.wr hW hcd⟩
      · cases hs
    | false =>
      rw [hc] at hs
      dsimp only [cond_false] at hs
      obtain ⟨w1, w2, w3⟩ := araw r4.1 he hsh hv ho
      have hlen : (h.set a e').length = h.length := by simp
      have hout : ∀ o, Pt.2 E m s q b = some o → aUout W G ρ h (h.set a e') o := fun o ho' => hG.1 E m q b ρ h (h.set a e') a k v o (by rw [hso]; exact ho') r1 r4 ha hk hd hb w1 w2 w3
      split at hs
      · cases hs
      · next hu => exact (hout none hu).elim
      · next A hu =>
        obtain ⟨ρ', x1, x2, x3, x4, x5⟩ := hout (some A) hu
        cases hcc : (A.2.1.all (fun g => agk A.1 D g.1) && A.2.2.all (fun g => agk A.1 D g)) with
        | false => rw [hcc] at hs; cases hs
        | true =>
          rw [hcc] at hs
          rw [Bool.and_eq_true] at hcc
          dsimp only [cond_true] at hs
          split at hs
          · next m' hm =>
            cases hs
            have gg : ∀ (g : aK) (a' k' : Nat), agk A.1 D g = true → aden ρ' g a' k' → ∃ d ∈ D, amd W ρ' d a' k' := fun g a' k' hg hg2 => by
              unfold agk at hg
              split at hg
              · next s2 s2' hs2 =>
                obtain ⟨-, hso2⟩ := asort_of x2 hs2 hg2.1
                rw [← hso2] at hg
                exact acov_ok x2 hg hg2
              · cases hg
            have hot : ∀ a' k' : Nat, a' < W.1.length → k' < apn (afm W (asrt W a')) → ¬ (a' = a ∧ k' = k) → (∀ g ∈ A.2.1, ¬ aden ρ' g.1 a' k') → (∀ g ∈ A.2.2, ¬ aden ρ' g a' k') → rdx G (h.set a e') a' k' = rdx G h a' k' := fun a' k' ha' hk' hn h1 h2 => by
              unfold rdx
              rw [x5 a' k' h1 h2, w3 a' k' hn]
            have hreal : rdx G (h.set a e') a k = some v := by
              unfold rdx
              rw [hG.2.1 a k _ ha hk]
              exact w2
            have hH' := amw_ok (G := G) (h := h) (h' := h.set a e') x2 hm (r4.ext x1) w1 (fun g hg => by
              rcases List.mem_cons.mp hg with rfl | hg
              · exact ⟨a, k, v, hd.ext x1, ha, hk2, hreal, hb.ext x1⟩
              · obtain ⟨a', k', x, y1, y2, y3, y4, y5, y6⟩ := x3 g hg
                refine ⟨a', k', .int x, y1, y2, y3, ?_, y6⟩
                unfold rdx
                rw [y5]) (fun g hg => by
              obtain ⟨a', k', x, y1, y2, y4, y5, y6⟩ := x4 g hg
              refine ⟨a', k', .int x, y1, ?_, y6⟩
              unfold rdx
              rw [y5]) (fun a' k' ha' hk' h1 h2 => hot a' k' ha' hk' (fun e0 => by
                obtain ⟨rfl, rfl⟩ := e0
                exact h1 _ List.mem_cons_self (hd.ext x1)) (fun g hg => h1 g (List.mem_cons_of_mem _ hg)) h2)
            refine ⟨pc', cr, _, hz, _, List.mem_cons_self, ρ', x1, x2, r2.ext x1, hst.ext x1, hH', hlen.trans r5.1, fun a' k' ha' hk' hn => ?_⟩
            rw [hot a' k' ha' hk' (fun e0 => by
              obtain ⟨rfl, rfl⟩ := e0
              obtain ⟨d, d1, d2⟩ := hcd
              exact hn d d1 (d2.ext x1)) (fun g hg hg2 => by
              obtain ⟨d, d1, d2⟩ := gg g.1 a' k' (List.all_eq_true.mp hcc.1 g hg) hg2
              exact hn d d1 d2) (fun g hg hg2 => by
              obtain ⟨d, d1, d2⟩ := gg g a' k' (List.all_eq_true.mp hcc.2 g hg) hg2
              exact hn d d1 d2)]
            exact (r5.ext x1).2 a' k' ha' hk' hn
          · cases hs
