/-! Locals and constants. -/
theorem abip {n : Int} (h1 : -128 ≤ n) (h2 : n ≤ 127) : (Int8.ofInt n).toInt32 = Int32.ofInt n := by
  apply Int32.toInt_inj.mp
  rw [Int8.toInt_toInt32, ai32 (by omega) (by omega), Int8.toInt_ofInt_of_le (by omega) (by omega)]
theorem asip {n : Int} (h1 : -32768 ≤ n) (h2 : n ≤ 32767) : (Int16.ofInt n).toInt32 = Int32.ofInt n := by
  apply Int32.toInt_inj.mp
  rw [Int16.toInt_toInt32, ai32 (by omega) (by omega), Int16.toInt_ofInt_of_le (by omega) (by omega)]
def aild (w pc : Nat) (E : List aY) (ls : aLs) (st : List aV) (m : aM) (k : Nat) : Option (List aO) := match aget ls k with
  | some (.inl x) => some [(pc + w, E, ls, .inl x :: st, m)]
  | _ => none
def alld (w pc : Nat) (E : List aY) (ls : aLs) (st : List aV) (m : aM) (k : Nat) : Option (List aO) := match aget ls k with
  | some (.inr (.inl x)) => some [(pc + w, E, ls, .inr (.inl x) :: st, m)]
  | _ => none
def aald (w pc : Nat) (E : List aY) (ls : aLs) (st : List aV) (m : aM) (k : Nat) : Option (List aO) := match aget ls k with
  | some (.inr (.inr x)) => some [(pc + w, E, ls, .inr (.inr x) :: st, m)]
  | _ => none
def aist (nL w pc : Nat) (E : List aY) (ls : aLs) (st : List aV) (m : aM) (k : Nat) : Option (List aO) := match st with
  | .inl x :: r => bif Nat.ble (k + 1) nL then some [(pc + w, E, aset 1 ls k (.inl x), r, m)] else none
  | _ => none
def alst (nL w pc : Nat) (E : List aY) (ls : aLs) (st : List aV) (m : aM) (k : Nat) : Option (List aO) := match st with
  | .inr (.inl x) :: r => bif Nat.ble (k + 2) nL then some [(pc + w, E, aset 2 ls k (.inr (.inl x)), r, m)] else none
  | _ => none
def aast (nL w pc : Nat) (E : List aY) (ls : aLs) (st : List aV) (m : aM) (k : Nat) : Option (List aO) := match st with
  | .inr (.inr (.inl x)) :: r => bif Nat.ble (k + 1) nL then some [(pc + w, E, aset 1 ls k (.inr (.inr (.inl x))), r, m)] else none
  | _ => none
def astL (nL : Nat) (i : Instr) (pc : Nat) (E : List aY) (ls : aLs) (st : List aV) (m : aM) : Option (List aO) :=
  match i with
  | .iconst n => some [(pc + 1, E, ls, .inl (0, n) :: st, m)]
  | .bipush n => bif ile (-128) n && ile n 127 then some [(pc + 2, E, ls, .inl (0, n) :: st, m)] else none
  | .sipush n => bif ile (-32768) n && ile n 32767 then some [(pc + 3, E, ls, .inl (0, n) :: st, m)] else none
  | .lconst n => bif Nat.ble (n : Nat) 1 then some [(pc + 1, E ++ [(1, ((n : Nat) : Int), ((n : Nat) : Int))], ls, .inr (.inl E.length) :: st, m)] else none
  | .iload_n k => aild 1 pc E ls st m k
  | .iload k => aild 2 pc E ls st m k
  | .lload_n k => alld 1 pc E ls st m k
  | .lload k => alld 2 pc E ls st m k
  | .aload_n k => aald 1 pc E ls st m k
  | .aload k => aald 2 pc E ls st m k
  | .istore_n k => aist nL 1 pc E ls st m k
  | .istore k => aist nL 2 pc E ls st m k
  | .lstore_n k => alst nL 1 pc E ls st m k
  | .lstore k => alst nL 2 pc E ls st m k
  | .astore_n k => aast nL 1 pc E ls st m k
  | .astore k => aast nL 2 pc E ls st m k
  | .iinc k n => match aget ls k with
    | some (.inl (s, c)) => bif Nat.ble (k + 1) nL then some [(pc + 3, E, aset 1 ls k (.inl (s, c + n)), st, m)] else none
    | _ => none
  | _ => none
def aGoalL (W : aW) (G : aG) (D : List aD) (h0 : zH) (ρ : List Int) (nL : Nat) (i : Instr) (pc : Nat) (os : List aO) (cl : zL) (cst : List Value) (h : zH) : Prop := ∃ (pc' : Nat) (cl' : zL) (cst' : List Value), zstL nL i pc cl cst h = some (pc', cl', cst', h) ∧ ∃ S' : aS, (pc', S') ∈ os ∧ ∃ ρ', aext ρ ρ' ∧ aRel W G D h0 ρ' S' cl' cst' h
theorem aGoalL1 {W : aW} {G : aG} {D : List aD} {h0 : zH} {ρ : List Int} {nL : Nat} {i : Instr} {pc pc' : Nat} {E : List aY} {ls ls' : aLs} {st st' : List aV} {m : aM} {cl cl' : zL} {cst cst' : List Value} {h : zH} (hR : aRel W G D h0 ρ (E, ls, st, m) cl cst h) (hz : zstL nL i pc cl cst h = some (pc', cl', cst', h)) (hl : aLo ρ ls' cl') (hs : aSt ρ st' cst') : aGoalL W G D h0 ρ nL i pc [(pc', E, ls', st', m)] cl cst h :=
  ⟨pc', cl', cst', hz, _, List.mem_cons_self, ρ, aext.rf, hR.1, hl, hs, hR.2.2.2.1, hR.2.2.2.2⟩
theorem aild_ok {W : aW} {G : aG} {D : List aD} {h0 : zH} {ρ : List Int} {nL : Nat} {i : Instr} {w pc k : Nat} {E : List aY} {ls : aLs} {st : List aV} {m : aM} {os : List aO} {cl : zL} {cst : List Value} {h : zH} (hs : aild w pc E ls st m k = some os) (hR : aRel W G D h0 ρ (E, ls, st, m) cl cst h) (hz : ∀ x : Int32, zget cl k = some (.int x) → zstL nL i pc cl cst h = some (pc + w, cl, .int x :: cst, h)) : aGoalL W G D h0 ρ nL i pc os cl cst h := by
  unfold aild at hs
  split at hs
  · next x hx =>
    cases hs
    obtain ⟨v, g1, g2⟩ := hR.2.1.get hx
    obtain ⟨s, c⟩ := x
    obtain ⟨y, g3, rfl⟩ := id g2
    exact aGoalL1 hR (hz y g1) hR.2.1 ⟨_, _, rfl, g2, hR.2.2.1⟩
  · cases hs
theorem alld_ok {W : aW} {G : aG} {D : List aD} {h0 : zH} {ρ : List Int} {nL : Nat} {i : Instr} {w pc k : Nat} {E : List aY} {ls : aLs} {st : List aV} {m : aM} {os : List aO} {cl : zL} {cst : List Value} {h : zH} (hs : alld w pc E ls st m k = some os) (hR : aRel W G D h0 ρ (E, ls, st, m) cl cst h) (hz : ∀ x : Int64, zget cl k = some (.long x) → zstL nL i pc cl cst h = some (pc + w, cl, .long x :: cst, h)) : aGoalL W G D h0 ρ nL i pc os cl cst h := by
  unfold alld at hs
  split at hs
  · next x hx =>
    cases hs
    obtain ⟨v, g1, g2⟩ := hR.2.1.get hx
    obtain ⟨y, g3, rfl⟩ := id g2
    exact aGoalL1 hR (hz _ g1) hR.2.1 ⟨_, _, rfl, g2, hR.2.2.1⟩
  · cases hs
theorem aald_ok {W : aW} {G : aG} {D : List aD} {h0 : zH} {ρ : List Int} {nL : Nat} {i : Instr} {w pc k : Nat} {E : List aY} {ls : aLs} {st : List aV} {m : aM} {os : List aO} {cl : zL} {cst : List Value} {h : zH} (hs : aald w pc E ls st m k = some os) (hR : aRel W G D h0 ρ (E, ls, st, m) cl cst h) (hz : ∀ x : Nat, zget cl k = some (.ref x) → zstL nL i pc cl cst h = some (pc + w, cl, .ref x :: cst, h)) (hz2 : ∀ x : Nat, zget cl k = some (.retAddr x) → zstL nL i pc cl cst h = some (pc + w, cl, .retAddr x :: cst, h)) (hz3 : zget cl k = some .null → zstL nL i pc cl cst h = some (pc + w, cl, .null :: cst, h)) : aGoalL W G D h0 ρ nL i pc os cl cst h := by
  unfold aald at hs
  split at hs
  · next x hx =>
    cases hs
    obtain ⟨v, g1, g2⟩ := hR.2.1.get hx
    rcases x with s | e
    · obtain ⟨y, g3, rfl⟩ := id g2
      exact aGoalL1 hR (hz _ g1) hR.2.1 ⟨_, _, rfl, g2, hR.2.2.1⟩
    · have hv : v = .null ∨ ∃ n : Nat, v = .retAddr n := by
        cases hb : Nat.beq e 999 with
        | true =>
          rw [Nat.eq_of_beq_eq_true hb] at g2
          exact avx_an g2
        | false => exact Or.inr ⟨e, avx g2 hb⟩
      rcases hv with rfl | ⟨n, rfl⟩
      · exact aGoalL1 hR (hz3 g1) hR.2.1 ⟨_, _, rfl, g2, hR.2.2.1⟩
      · exact aGoalL1 hR (hz2 _ g1) hR.2.1 ⟨_, _, rfl, g2, hR.2.2.1⟩
  · cases hs
theorem able {a b : Nat} (h : Nat.ble a b = true) : a ≤ b := Nat.le_of_ble_eq_true h
theorem aist_ok {W : aW} {G : aG} {D : List aD} {h0 : zH} {ρ : List Int} {nL : Nat} {i : Instr} {w pc k : Nat} {E : List aY} {ls : aLs} {st : List aV} {m : aM} {os : List aO} {cl : zL} {cst : List Value} {h : zH} (hs : aist nL w pc E ls st m k = some os) (hR : aRel W G D h0 ρ (E, ls, st, m) cl cst h) (hz : ∀ (x : Int32) (r : List Value), k < nL → zstL nL i pc cl (.int x :: r) h = some (pc + w, zset1 cl k (.int x), r, h)) : aGoalL W G D h0 ρ nL i pc os cl cst h := by
  unfold aist at hs
  split at hs
  · next x r =>
    obtain ⟨s, c⟩ := x
    cases hb : Nat.ble (k + 1) nL with
    | false => rw [hb] at hs; cases hs
    | true =>
      rw [hb] at hs
      cases hs
      obtain ⟨y, cr, rfl, hy, hst⟩ := as1 hR.2.2.1
      exact aGoalL1 hR (hz y cr (able hb)) (hR.2.1.set1 ⟨y, hy, rfl⟩) hst
  · cases hs
theorem alst_ok {W : aW} {G : aG} {D : List aD} {h0 : zH} {ρ : List Int} {nL : Nat} {i : Instr} {w pc k : Nat} {E : List aY} {ls : aLs} {st : List aV} {m : aM} {os : List aO} {cl : zL} {cst : List Value} {h : zH} (hs : alst nL w pc E ls st m k = some os) (hR : aRel W G D h0 ρ (E, ls, st, m) cl cst h) (hz : ∀ (x : Int64) (r : List Value), k + 1 < nL → zstL nL i pc cl (.long x :: r) h = some (pc + w, zset2 cl k (.long x), r, h)) : aGoalL W G D h0 ρ nL i pc os cl cst h := by
  unfold alst at hs
  split at hs
  · next x r =>
    cases hb : Nat.ble (k + 2) nL with
    | false => rw [hb] at hs; cases hs
    | true =>
      rw [hb] at hs
      cases hs
      obtain ⟨y, cr, rfl, hy, hst⟩ := asl hR.2.2.1
      exact aGoalL1 hR (hz y cr (able hb)) (hR.2.1.set2 hy) hst
  · cases hs
theorem aast_ok {W : aW} {G : aG} {D : List aD} {h0 : zH} {ρ : List Int} {nL : Nat} {i : Instr} {w pc k : Nat} {E : List aY} {ls : aLs} {st : List aV} {m : aM} {os : List aO} {cl : zL} {cst : List Value} {h : zH} (hs : aast nL w pc E ls st m k = some os) (hR : aRel W G D h0 ρ (E, ls, st, m) cl cst h) (hz : ∀ (x : Nat) (r : List Value), k < nL → zstL nL i pc cl (.ref x :: r) h = some (pc + w, zset1 cl k (.ref x), r, h)) : aGoalL W G D h0 ρ nL i pc os cl cst h := by
  unfold aast at hs
  split at hs
  · next x r =>
    cases hb : Nat.ble (k + 1) nL with
    | false => rw [hb] at hs; cases hs
    | true =>
      rw [hb] at hs
      cases hs
      obtain ⟨y, cr, rfl, hy, hst⟩ := asr hR.2.2.1
      exact aGoalL1 hR (hz y cr (able hb)) (hR.2.1.set1 ⟨y, hy, rfl⟩) hst
  · cases hs
set_option maxHeartbeats 2000000 in
theorem astL_ok {W : aW} {G : aG} {D : List aD} {h0 : zH} {ρ : List Int} {nL : Nat} {i : Instr} {pc : Nat} {E : List aY} {ls : aLs} {st : List aV} {m : aM} {os : List aO} {cl : zL} {cst : List Value} {h : zH} (hs : astL nL i pc E ls st m = some os) (hR : aRel W G D h0 ρ (E, ls, st, m) cl cst h) : aGoalL W G D h0 ρ nL i pc os cl cst h := by
  have hE : aE W E ρ := hR.1
  have hst : aSt ρ st cst := hR.2.2.1
  cases i with
  | iconst n =>
    cases hs
    exact aGoalL1 hR rfl hR.2.1 (aps (ai_c hE n) hst)
  | bipush n =>
    dsimp only [astL] at hs
    cases hb : (ile (-128) n && ile n 127) with
    | false => rw [hb] at hs; cases hs
    | true =>
      rw [hb] at hs
      cases hs
      rw [Bool.and_eq_true] at hb
      refine aGoalL1 hR rfl hR.2.1 ?_
      rw [abip (ile_iff.mp hb.1) (ile_iff.mp hb.2)]
      exact aps (ai_c hE n) hst
  | sipush n =>
    dsimp only [astL] at hs
    cases hb : (ile (-32768) n && ile n 32767) with
    | false => rw [hb] at hs; cases hs
    | true =>
      rw [hb] at hs
      cases hs
      rw [Bool.and_eq_true] at hb
      refine aGoalL1 hR rfl hR.2.1 ?_
      rw [asip (ile_iff.mp hb.1) (ile_iff.mp hb.2)]
      exact aps (ai_c hE n) hst
  | lconst n =>
    dsimp only [astL] at hs
    cases hb : Nat.ble (n : Nat) 1 with
    | false => rw [hb] at hs; cases hs
    | true =>
      rw [hb] at hs
      cases hs
      have hn := able hb
      have e : (Int64.ofNat (n : Nat)).toInt = ((n : Nat) : Int) := by
        rcases (show (n : Nat) = 0 ∨ (n : Nat) = 1 by omega) with q | q <;> rw [q] <;> rfl
      obtain ⟨g1, g2⟩ := anewl hE (Int64.ofNat (n : Nat)) (t := (1, ((n : Nat) : Int), ((n : Nat) : Int))) (by rw [e]; exact ⟨⟨Int.le_refl _, Int.le_refl _⟩, by omega, by omega⟩)
      exact ⟨_, _, _, rfl, _, List.mem_cons_self, _, aext.one _, hR.mk2 (aext.one _) g1 ⟨_, _, rfl, g2, hst.ext (aext.one _)⟩⟩
  | iload_n k => exact aild_ok hs hR (fun x hx => by dsimp only [zstL]; rw [hx])
  | iload k => exact aild_ok hs hR (fun x hx => by dsimp only [zstL]; rw [hx])
  | lload_n k => exact alld_ok hs hR (fun x hx => by dsimp only [zstL]; rw [hx])
  | lload k => exact alld_ok hs hR (fun x hx => by dsimp only [zstL]; rw [hx])
  | aload_n k => exact aald_ok hs hR (fun x hx => by dsimp only [zstL]; rw [hx]) (fun x hx => by dsimp only [zstL]; rw [hx]) (fun hx => by dsimp only [zstL]; rw [hx])
  | aload k => exact aald_ok hs hR (fun x hx => by dsimp only [zstL]; rw [hx]) (fun x hx => by dsimp only [zstL]; rw [hx]) (fun hx => by dsimp only [zstL]; rw [hx])
  | istore_n k => exact aist_ok hs hR (fun x r hk => by dsimp only [zstL]; rw [if_pos hk])
  | istore k => exact aist_ok hs hR (fun x r hk => by dsimp only [zstL]; rw [if_pos hk])
  | lstore_n k => exact alst_ok hs hR (fun x r hk => by dsimp only [zstL]; rw [if_pos hk])
  | lstore k => exact alst_ok hs hR (fun x r hk => by dsimp only [zstL]; rw [if_pos hk])
  | astore_n k => exact aast_ok hs hR (fun x r hk => by dsimp only [zstL]; rw [if_pos hk])
  | astore k => exact aast_ok hs hR (fun x r hk => by dsimp only [zstL]; rw [if_pos hk])
  | iinc k n =>
    dsimp only [astL] at hs
    split at hs
    · next s c hg =>
      cases hb : Nat.ble (k + 1) nL with
      | false => rw [hb] at hs; cases hs
      | true =>
        rw [hb] at hs
        cases hs
        obtain ⟨v, g1, x, g2, rfl⟩ := hR.2.1.get hg
        refine aGoalL1 hR (cl' := zset1 cl k (.int (x + Int32.ofInt n))) ?_ (hR.2.1.set1 ⟨_, g2.add, rfl⟩) hst
        dsimp only [zstL]
        rw [g1]
        dsimp only
        rw [if_pos (show k < nL from able hb)]
    · cases hs
  | _ => cases hs
