/-! A stretch of a method's way, to any place. -/
abbrev zSt : Type := Nat × zL × List Value × zH
def zGo (X : zX) (I : zI) (mcl : Nat → Nat) (C : zC) (c : Nat) (ini : Bool) (nL : Nat) (tab : Nat → Option (Instr × Nat)) : Nat → zSt → zSt → Prop
  | 0, a, b => a = b
  | n + 1, a, b => ∃ (i : Instr) (len : Nat), tab a.1 = some (i, len) ∧
      ((∃ s1 : zSt, zstep X nL ini c i a.1 a.2.1 a.2.2.1 a.2.2.2 = some s1 ∧ zGo X I mcl C c ini nL tab n s1 b) ∨
       (∃ rest : List Value, zobjI I c i a.2.2.1 = some rest ∧ zGo X I mcl C c ini nL tab n (a.1 + 3, a.2.1, rest, a.2.2.2) b) ∨
       (∃ (mi : Nat) (as rest : List Value) (r1 : Option Value) (h1 : zH), zcall X I mcl c i a.2.2.1 a.2.2.2 = some (mi, as, rest) ∧ C mi as a.2.2.2 r1 h1 ∧ zGo X I mcl C c ini nL tab n (a.1 + 3, a.2.1, r1.toList ++ rest, h1) b))
theorem zGo_h {X : zX} {I : zI} {mcl : Nat → Nat} {C : zC} {c : Nat} {ini : Bool} {nL : Nat} {tab : Nat → Option (Instr × Nat)} (hC : ∀ mi as h r h', C mi as h r h' → zLe h h') : ∀ (n : Nat) (a b : zSt), zGo X I mcl C c ini nL tab n a b → zLe a.2.2.2 b.2.2.2 := by
  intro n
  induction n with
  | zero => intro a b q; cases q; exact zLe.rf
  | succ n ih =>
    intro a b q
    obtain ⟨i, len, -, q⟩ := q
    rcases q with ⟨s1, q1, q2⟩ | ⟨rest, -, q2⟩ | ⟨mi, as, rest, r1, h1, -, q1, q2⟩
    · exact (zstep_h q1).trans (ih _ _ q2)
    · exact ih (a.1 + 3, a.2.1, rest, a.2.2.2) b q2
    · exact (hC _ _ _ _ _ q1).trans (ih _ _ q2)
theorem zGo_trans {X : zX} {I : zI} {mcl : Nat → Nat} {C : zC} {c : Nat} {ini : Bool} {nL : Nat} {tab : Nat → Option (Instr × Nat)} : ∀ (n m : Nat) (a b d : zSt), zGo X I mcl C c ini nL tab n a b → zGo X I mcl C c ini nL tab m b d → zGo X I mcl C c ini nL tab (n + m) a d := by
  intro n
  induction n with
  | zero => intro m a b d q r; cases q; rw [Nat.zero_add]; exact r
  | succ n ih =>
    intro m a b d q r
    rw [show n + 1 + m = (n + m) + 1 by omega]
    obtain ⟨i, len, ht, q⟩ := q
    refine ⟨i, len, ht, ?_⟩
    rcases q with ⟨s1, q1, q2⟩ | ⟨rest, q1, q2⟩ | ⟨mi, as, rest, r1, h1, q1, q3, q2⟩
    · exact Or.inl ⟨s1, q1, ih _ _ _ _ q2 r⟩
    · exact Or.inr (Or.inl ⟨rest, q1, ih _ _ _ _ q2 r⟩)
    · exact Or.inr (Or.inr ⟨mi, as, rest, r1, h1, q1, q3, ih _ _ _ _ q2 r⟩)
section ZS
variable {p : Program} {l : Launch} {e : Env} {R : Room} {s : State} {m : MethodId} {args : Array Value} {below : List Frame} {meth : Method} {c : Code} {Q : State → Prop}
variable {cc : ByteArray} {B : Nat} {xa : Nat → Nat} {ca : Nat → ClassId} {D : va_G} {cl : List vw_C}
variable {Ts : List Cond} {P : String} {X : zX} {own : Nat → String} {I : zI} {y : Nat → MethodName × ByteArray} {mcl : Nat → Nat} {mt : zM}
set_option maxHeartbeats 4000000 in
theorem zgo_ok {c0 nL d : Nat} {ini : Bool} {cd0 : Cond} {tab : Nat → Option (Instr × Nat)} {C : zC} (hx : p.tables.exec = Jvm.exec) (hb : c.code = cc) (hml : c.maxLocals = nL) (hts : ∀ w ∈ cd0 :: Ts, w.before args s = true) (hown : s.vm.findClass (own c0) = some m.cls) (hT : zTab Ts cl P X c0 (own c0)) (hG : zGS Ts B xa ca D cl P X own s) (hN : zGN I y own s) (hini : ini = true → meth.name = "<init>") (hB : B ≤ s.heap.size)
    (htab : ∀ (pc : Nat) (i : Instr) (len : Nat), tab pc = some (i, len) → decode cc pc = .ok (i, len) ∧ zlok i len = true) (hCal : zCal Ts I y own mcl mt cl) (hMa : zMath Ts I own) (hM : zMet l B xa ca D cl Ts P X own I y mt d C) (hfr : d + 1 ≤ R.frames) (hlo : (d + 1) * 64 ≤ R.locals) :
    ∀ (n : Nat) (a b : zSt), zGo X I mcl C c0 ini nL tab n a b → ∀ (cells slots : Nat) (H : Heap) (locs : List Loc) (LS : Array Slot), cells + (b.2.2.2.length - a.2.2.2.length) ≤ R.cells → slots + (zsl b.2.2.2 - zsl a.2.2.2) ≤ R.slots → zHR B xa ca D cl a.2.2.2 H → va_S (zA B) s.heap H locs → lv_has LS nL (zcl B xa a.2.1) →
      (∀ (H' : Heap) (locs' : List Loc) (LS' : Array Slot), zHR B xa ca D cl b.2.2.2 H' → va_S (zA B) s.heap H' locs' → lv_has LS' nL (zcl B xa b.2.1) → W p l e R s m args below meth c H' locs' (cells + (b.2.2.2.length - a.2.2.2.length)) (slots + (zsl b.2.2.2 - zsl a.2.2.2)) Q (F0 m b.1 LS' (b.2.2.1.map (zcv B xa)))) →
      W p l e R s m args below meth c H locs cells slots Q (F0 m a.1 LS (a.2.2.1.map (zcv B xa))) := by
  have hts' : ∀ w ∈ Ts, w.before args s = true := fun w h => hts w (List.mem_cons_of_mem _ h)
  have hCh : ∀ mi as h r h', C mi as h r h' → zLe h h' := fun mi as h r h' q => (hM mi as h r h' q).1
  intro n
  induction n with
  | zero =>
    intro a b q cells slots H locs LS hc1 hc2 hR hS hl k
    cases q
    rw [Nat.sub_self, Nat.sub_self, Nat.add_zero, Nat.add_zero] at k
    exact k H locs LS hR hS hl
  | succ n ih =>
    intro a b q cells slots H locs LS hc1 hc2 hR hS hl k
    obtain ⟨pc, ls, st, h⟩ := a
    dsimp only at hc1 hc2 hR hl k ⊢
    obtain ⟨i, len, ht, q⟩ := q
    obtain ⟨hd, hlen⟩ := htab _ _ _ ht
    rcases q with ⟨⟨pc1, ls1, st1, h1⟩, q1, q2⟩ | ⟨rest, q1, q2⟩ | ⟨mi, as, rest, r1, h1, q1, q3, q2⟩
    · have hle := zstep_h q1
      have hle2 := zGo_h hCh _ _ _ q2
      have t1 := hle.1
      have t2 := hle.2
      have t3 := hle2.1
      have t4 := hle2.2
      dsimp only at t1 t2 t3 t4
      refine zstep_ok hx hb hd hlen hts' hown hT hG hini hR hS hB hl ⟨by omega, by omega⟩ q1 (fun H' locs' LS' g1 g2 g3 => ?_)
      refine ih _ _ q2 (cells + (h1.length - h.length)) (slots + (zsl h1 - zsl h)) _ _ _ (by dsimp only; omega) (by dsimp only; omega) g1 g2 g3 (fun H2 locs2 LS2 f1 f2 f3 => ?_)
      dsimp only
      rw [show cells + (h1.length - h.length) + (b.2.2.2.length - h1.length) = cells + (b.2.2.2.length - h.length) by omega, show slots + (zsl h1 - zsl h) + (zsl b.2.2.2 - zsl h1) = slots + (zsl b.2.2.2 - zsl h) by omega]
      exact k H2 locs2 LS2 f1 f2 f3
    · have hle2 := zGo_h hCh _ _ _ q2
      have y1 := hle2.1
      have y2 := hle2.2
      dsimp only at y1 y2
      cases i with
      | invokespecial j =>
        obtain rfl : len = 3 := eq_of_beq hlen
        dsimp only [zobjI] at q1
        split at q1
        · next hI =>
          split at q1
          · next hw =>
            cases q1
            obtain ⟨w0, -⟩ := hCal.2.2.2 _ _ _ _ _ hI
            obtain ⟨w1, w2, w3⟩ := w0 rfl
            have h8 := zw8_map (B := B) (xa := xa) hw
            exact W.objInit hx hb hown (hts' _ w1) (hts' _ w2) (hts' _ w3) rfl (hl.1.trans hml.symm) rfl hd (by omega) (by show 2 * 0 + _ + 12 ≤ _; omega) (ih _ _ q2 cells slots _ _ _ hc1 hc2 hR hS hl k)
          · cases q1
        · cases q1
      | invokestatic j =>
        obtain rfl : len = 3 := eq_of_beq hlen
        dsimp only [zobjI] at q1
        split at q1
        · next hI =>
          split at q1
          · next hw =>
            cases q1
            obtain ⟨w1, w2, w3, w4⟩ := (hMa _ _ _ _ _ hI).1 rfl
            have h8 := zw8_map (B := B) (xa := xa) hw
            exact va_mmax hx hb (hml.trans hl.1.symm) hown (hts' _ w1) (hts' _ w2) (hts' _ w3) (hts' _ w4) (by omega) (by omega) (by omega) (by omega) hd (ih _ _ q2 cells slots _ _ _ hc1 hc2 hR hS hl k)
          · cases q1
        · next hI =>
          split at q1
          · next hw =>
            cases q1
            obtain ⟨w1, w2, w3, w4⟩ := (hMa _ _ _ _ _ hI).2.1 rfl
            have h8 := zw8_map (B := B) (xa := xa) hw
            exact va_mmin hx hb (hml.trans hl.1.symm) hown (hts' _ w1) (hts' _ w2) (hts' _ w3) (hts' _ w4) (by omega) (by omega) (by omega) (by omega) hd (ih _ _ q2 cells slots _ _ _ hc1 hc2 hR hS hl k)
          · cases q1
        · next hI =>
          split at q1
          · next hw =>
            cases q1
            obtain ⟨w1, w2, w3, w4⟩ := (hMa _ _ _ _ _ hI).2.2.1 rfl
            have h8 := zw8_map (B := B) (xa := xa) hw
            exact va_mabs hx hb (hml.trans hl.1.symm) hown (hts' _ w1) (hts' _ w2) (hts' _ w3) (hts' _ w4) (by omega) (by omega) (by omega) (by omega) hd (ih _ _ q2 cells slots _ _ _ hc1 hc2 hR hS hl k)
          · cases q1
        · next hI =>
          split at q1
          · next hw =>
            cases q1
            obtain ⟨w1, w2, w3, w4⟩ := (hMa _ _ _ _ _ hI).2.2.2.1 rfl
            have h8 := zw8_map (B := B) (xa := xa) hw
            exact va_mmax_long hx hb (hml.trans hl.1.symm) hown (hts' _ w1) (hts' _ w2) (hts' _ w3) (hts' _ w4) (by omega) (by omega) (by omega) (by omega) hd (ih _ _ q2 cells slots _ _ _ hc1 hc2 hR hS hl k)
          · cases q1
        · next hI =>
          split at q1
          · next hw =>
            cases q1
            obtain ⟨w1, w2, w3, w4⟩ := (hMa _ _ _ _ _ hI).2.2.2.2.1 rfl
            have h8 := zw8_map (B := B) (xa := xa) hw
            exact va_mmin_long hx hb (hml.trans hl.1.symm) hown (hts' _ w1) (hts' _ w2) (hts' _ w3) (hts' _ w4) (by omega) (by omega) (by omega) (by omega) hd (ih _ _ q2 cells slots _ _ _ hc1 hc2 hR hS hl k)
          · cases q1
        · next hI =>
          split at q1
          · next hw =>
            cases q1
            obtain ⟨w1, w2, w3, w4⟩ := (hMa _ _ _ _ _ hI).2.2.2.2.2 rfl
            have h8 := zw8_map (B := B) (xa := xa) hw
            exact va_mabs_long hx hb (hml.trans hl.1.symm) hown (hts' _ w1) (hts' _ w2) (hts' _ w3) (hts' _ w4) (by omega) (by omega) (by omega) (by omega) hd (ih _ _ q2 cells slots _ _ _ hc1 hc2 hR hS hl k)
          · cases q1
        · cases q1
      | _ => exact nomatch (show (none : Option (List Value)) = some _ from q1)
    · dsimp only at q1 q3
      obtain ⟨hle, c1, ini1, nL1, rt1, tab1, hmi, hMet⟩ := hM _ _ _ _ _ q3
      have hle2 := zGo_h hCh _ _ _ q2
      have g1 := hle.1
      have g2 := hle.2
      have g3 := hle2.1
      have g4 := hle2.2
      dsimp only at g3 g4
      refine zcall_W (zcall_ok (d := d) hx hb hml hd hlen hts hown hG hN hCal hR hS hl.1 q1 hmi hMet hfr hlo ⟨by omega, by omega⟩) hS (fun H1 locs1 k1 k2 => ?_)
      have k9 := ih _ _ q2 (cells + (h1.length - h.length)) (slots + (zsl h1 - zsl h)) _ _ _ (by dsimp only; omega) (by dsimp only; omega) k1 k2 hl (fun H2 locs2 LS2 f1 f2 f3 => by
        dsimp only
        rw [show cells + (h1.length - h.length) + (b.2.2.2.length - h1.length) = cells + (b.2.2.2.length - h.length) by omega, show slots + (zsl h1 - zsl h) + (zsl b.2.2.2 - zsl h1) = slots + (zsl b.2.2.2 - zsl h) by omega]
        exact k H2 locs2 LS2 f1 f2 f3)
      dsimp only at k9
      rw [List.map_append] at k9
      have k8 : (r1.map (zcv B xa)).toList = r1.toList.map (zcv B xa) := by cases r1 <;> rfl
      rw [k8]
      exact k9
end ZS
