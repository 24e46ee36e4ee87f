section ZS
variable {p : Program} {l : Launch} {e : Env} {R : Room} {s : State} {m : MethodId} {args : Array Value} {below : List Frame} {meth : Method} {c : Code}
variable {cc : ByteArray} {B : Nat} {xa : Nat → Nat} {ca : Nat → ClassId} {D : va_G} {cl : List vw_C}
variable {Ts : List Cond} {P : String} {X : zX} {own : Nat → String} {I : zI} {y : Nat → MethodName × ByteArray} {mcl : Nat → Nat} {mt : zM}
theorem zret_ok {cells slots pc len : Nat} {rt : Option FieldType} {i : Instr} {st : List Value} {h : zH} {r : Option Value} {H : Heap} {locs : List Loc} {LS : Array Slot} (hx : p.tables.exec = Jvm.exec) (hb : c.code = cc) (hr : meth.sig.returnType = rt) (hlocks : meth.locks = false) (hd : decode cc pc = .ok (i, len)) (hlen : zlok i len = true) (hz : zret rt i st = some r) (hR : zHR B xa ca D cl h H) (hS : va_S (zA B) s.heap H locs) :
    W p l e R s m args below meth c H locs cells slots (MQ below (zQc B xa ca D cl r h) args s cells slots (zA B)) (F0 m pc LS (st.map (zcv B xa))) := by
  cases i with
  | ireturn =>
    obtain rfl : len = 1 := eq_of_beq hlen
    dsimp only [zret] at hz
    split at hz
    · split at hz
      · next hn =>
        cases hz
        exact W.zret hx hb hr hn (fun t ht hW => ⟨rfl, by rw [ht]; exact hR, hS.F ht⟩) hS.2.2 hd hlocks
      · cases hz
    · cases hz
  | lreturn =>
    obtain rfl : len = 1 := eq_of_beq hlen
    dsimp only [zret] at hz
    split at hz
    · cases hz
      exact W.lret hx hb hr (fun t ht hW => ⟨rfl, by rw [ht]; exact hR, hS.F ht⟩) hS.2.2 hd hlocks
    · cases hz
  | areturn =>
    obtain rfl : len = 1 := eq_of_beq hlen
    dsimp only [zret] at hz
    split at hz
    · cases hz
      exact W.aret (v := .ref (B + _)) hx hb hr (Or.inl ⟨_, rfl⟩) (Or.inr ⟨_, rfl⟩) (fun t ht hW => ⟨rfl, by rw [ht]; exact hR, hS.F ht⟩) hS.2.2 hd hlocks
    · cases hz
  | return_ =>
    obtain rfl : len = 1 := eq_of_beq hlen
    dsimp only [zret] at hz
    split at hz
    · cases hz
      exact W.vret hx hb hr (fun t ht hW => ⟨rfl, by rw [ht]; exact hR, hS.F ht⟩) hS.2.2 hd hlocks
    · cases hz
  | _ => exact nomatch (show (none : Option (Option Value)) = some _ from hz)
/-- a callee's contract, as a caller wants it -/
def zMet (l : Launch) (B : Nat) (xa : Nat → Nat) (ca : Nat → ClassId) (D : va_G) (cl : List vw_C) (Ts : List Cond) (P : String) (X : zX) (own : Nat → String) (I : zI) (y : Nat → MethodName × ByteArray) (mt : zM) (d : Nat) (C : zC) : Prop :=
  ∀ (mi : Nat) (as : List Value) (h : zH) (r : Option Value) (h' : zH), C mi as h r h' → zLe h h' ∧ ∃ (c1 : Nat) (ini1 : Bool) (nL1 : Nat) (rt1 : Option FieldType) (tab1 : Nat → Option (Instr × Nat)), mt mi = some (c1, ini1, nL1, rt1, tab1) ∧
    Met l (y mi).1 (zws Ts y mi nL1 rt1) (zrm d (h'.length - h.length) (zsl h' - zsl h)) (zPc Ts B xa ca D cl P X own I y as h) (zQc B xa ca D cl r h') (h'.length - h.length) (zsl h' - zsl h) (zA B)
set_option maxHeartbeats 4000000 in
theorem zrun_ok {c0 nL d : Nat} {ini : Bool} {cd0 : Cond} {rt : Option FieldType} {tab : Nat → Option (Instr × Nat)} {C : zC} (hx : p.tables.exec = Jvm.exec) (hb : c.code = cc) (hml : c.maxLocals = nL) (hr : meth.sig.returnType = rt) (hlocks : meth.locks = false) (hts : ∀ w ∈ cd0 :: Ts, w.before args s = true) (hown : s.vm.findClass (own c0) = some m.cls) (hT : zTab Ts cl P X c0 (own c0)) (hG : zGS Ts B xa ca D cl P X own s) (hN : zGN I y own s) (hini : ini = true → meth.name = "<init>") (hB : B ≤ s.heap.size)
    (htab : ∀ (pc : Nat) (i : Instr) (len : Nat), tab pc = some (i, len) → decode cc pc = .ok (i, len) ∧ zlok i len = true) (hCal : zCal Ts I y own mcl mt cl) (hMa : zMath Ts I own) (hM : zMet l B xa ca D cl Ts P X own I y mt d C) (hfr : d + 1 ≤ R.frames) (hlo : (d + 1) * 64 ≤ R.locals) :
    ∀ (n pc : Nat) (ls : zL) (st : List Value) (h : zH) (r : Option Value) (hF : zH) (cells slots : Nat) (H : Heap) (locs : List Loc) (LS : Array Slot), zRun X I mcl C c0 ini nL rt tab n pc ls st h r hF → cells + (hF.length - h.length) ≤ R.cells → slots + (zsl hF - zsl h) ≤ R.slots → zHR B xa ca D cl h H → va_S (zA B) s.heap H locs → lv_has LS nL (zcl B xa ls) →
      W p l e R s m args below meth c H locs cells slots (MQ below (zQc B xa ca D cl r hF) args s (cells + (hF.length - h.length)) (slots + (zsl hF - zsl h)) (zA B)) (F0 m pc LS (st.map (zcv B xa))) := by
  have hts' : ∀ w ∈ Ts, w.before args s = true := fun w h => hts w (List.mem_cons_of_mem _ h)
  have hCh : ∀ mi as h r h', C mi as h r h' → zLe h h' := fun mi as h r h' q => (hM mi as h r h' q).1
  intro n
  induction n with
  | zero => intro pc ls st h r hF cells slots H locs LS q; exact q.elim
  | succ n ih =>
    intro pc ls st h r hF cells slots H locs LS q hc1 hc2 hR hS hl
    obtain ⟨i, len, ht, q⟩ := q
    obtain ⟨hd, hlen⟩ := htab _ _ _ ht
    rcases q with ⟨q1, rfl⟩ | ⟨pc1, ls1, st1, h1, q1, q2⟩ | ⟨rest, q1, q2⟩ | ⟨mi, as, rest, r1, h1, q1, q3, q2⟩
    · rw [Nat.sub_self, Nat.sub_self, Nat.add_zero, Nat.add_zero]
      exact zret_ok hx hb hr hlocks hd hlen q1 hR hS
    · have hle := zstep_h q1
      have hle2 := zRun_h hCh _ _ _ _ _ _ _ q2
      have t1 := hle.1
      have t2 := hle.2
      have t3 := hle2.1
      have t4 := hle2.2
      refine zstep_ok hx hb hd hlen hts' hown hT hG hini hR hS hB hl ⟨by omega, by omega⟩ q1 (fun H' locs' LS' g1 g2 g3 => ?_)
      have k9 := ih _ _ _ _ _ _ (cells + (h1.length - h.length)) (slots + (zsl h1 - zsl h)) _ _ _ q2 (by omega) (by omega) g1 g2 g3
      rw [show cells + (h1.length - h.length) + (hF.length - h1.length) = cells + (hF.length - h.length) by omega, show slots + (zsl h1 - zsl h) + (zsl hF - zsl h1) = slots + (zsl hF - zsl h) by omega] at k9
      exact k9
    · have hle2 := zRun_h hCh _ _ _ _ _ _ _ q2
      have y1 := hle2.1
      have y2 := hle2.2
      cases i with
      | invokespecial j =>
        obtain rfl : len = 3 := eq_of_beq hlen
        dsimp only [zobjI] at q1
        split at q1
        · next hI =>
          split at q1
          · next hw =>
            cases q1
            obtain ⟨w0, -⟩ := hCal.2.2.2 _ _ _ _ _ hI
            obtain ⟨w1, w2, w3⟩ := w0 rfl
            have h8 := zw8_map (B := B) (xa := xa) hw
            exact W.objInit hx hb hown (hts' _ w1) (hts' _ w2) (hts' _ w3) rfl (hl.1.trans hml.symm) rfl hd (by omega) (by show 2 * 0 + _ + 12 ≤ _; omega) (ih _ _ _ _ _ _ cells slots _ _ _ q2 hc1 hc2 hR hS hl)
          · cases q1
        · cases q1
      | invokestatic j =>
        obtain rfl : len = 3 := eq_of_beq hlen
        dsimp only [zobjI] at q1
        split at q1
        · next hI =>
          split at q1
          · next hw =>
            cases q1
            obtain ⟨w1, w2, w3, w4⟩ := (hMa _ _ _ _ _ hI).1 rfl
            have h8 := zw8_map (B := B) (xa := xa) hw
            exact va_mmax hx hb (hml.trans hl.1.symm) hown (hts' _ w1) (hts' _ w2) (hts' _ w3) (hts' _ w4) (by omega) (by omega) (by omega) (by omega) hd (ih _ _ _ _ _ _ cells slots _ _ _ q2 hc1 hc2 hR hS hl)
          · cases q1
        · next hI =>
          split at q1
          · next hw =>
            cases q1
            obtain ⟨w1, w2, w3, w4⟩ := (hMa _ _ _ _ _ hI).2.1 rfl
            have h8 := zw8_map (B := B) (xa := xa) hw
            exact va_mmin hx hb (hml.trans hl.1.symm) hown (hts' _ w1) (hts' _ w2) (hts' _ w3) (hts' _ w4) (by omega) (by omega) (by omega) (by omega) hd (ih _ _ _ _ _ _ cells slots _ _ _ q2 hc1 hc2 hR hS hl)
          · cases q1
        · next hI =>
          split at q1
          · next hw =>
            cases q1
            obtain ⟨w1, w2, w3, w4⟩ := (hMa _ _ _ _ _ hI).2.2.1 rfl
            have h8 := zw8_map (B := B) (xa := xa) hw
            exact va_mabs hx hb (hml.trans hl.1.symm) hown (hts' _ w1) (hts' _ w2) (hts' _ w3) (hts' _ w4) (by omega) (by omega) (by omega) (by omega) hd (ih _ _ _ _ _ _ cells slots _ _ _ q2 hc1 hc2 hR hS hl)
          · cases q1
        · next hI =>
          split at q1
          · next hw =>
            cases q1
            obtain ⟨w1, w2, w3, w4⟩ := (hMa _ _ _ _ _ hI).2.2.2.1 rfl
            have h8 := zw8_map (B := B) (xa := xa) hw
            exact va_mmax_long hx hb (hml.trans hl.1.symm) hown (hts' _ w1) (hts' _ w2) (hts' _ w3) (hts' _ w4) (by omega) (by omega) (by omega) (by omega) hd (ih _ _ _ _ _ _ cells slots _ _ _ q2 hc1 hc2 hR hS hl)
          · cases q1
        · next hI =>
          split at q1
          · next hw =>
            cases q1
            obtain ⟨w1, w2, w3, w4⟩ := (hMa _ _ _ _ _ hI).2.2.2.2.1 rfl
            have h8 := zw8_map (B := B) (xa := xa) hw
            exact va_mmin_long hx hb (hml.trans hl.1.symm) hown (hts' _ w1) (hts' _ w2) (hts' _ w3) (hts' _ w4) (by omega) (by omega) (by omega) (by omega) hd (ih _ _ _ _ _ _ cells slots _ _ _ q2 hc1 hc2 hR hS hl)
          · cases q1
        · next hI =>
          split at q1
          · next hw =>
            cases q1
            obtain ⟨w1, w2, w3, w4⟩ := (hMa _ _ _ _ _ hI).2.2.2.2.2 rfl
            have h8 := zw8_map (B := B) (xa := xa) hw
            exact va_mabs_long hx hb (hml.trans hl.1.symm) hown (hts' _ w1) (hts' _ w2) (hts' _ w3) (hts' _ w4) (by omega) (by omega) (by omega) (by omega) hd (ih _ _ _ _ _ _ cells slots _ _ _ q2 hc1 hc2 hR hS hl)
          · cases q1
        · cases q1
      | _ => exact nomatch (show (none : Option (List Value)) = some _ from q1)
    · obtain ⟨hle, c1, ini1, nL1, rt1, tab1, hmi, hMet⟩ := hM _ _ _ _ _ q3
      have hle2 := zRun_h hCh _ _ _ _ _ _ _ q2
      have g1 := hle.1
      have g2 := hle.2
      have g3 := hle2.1
      have g4 := hle2.2
      refine zcall_W (zcall_ok (d := d) hx hb hml hd hlen hts hown hG hN hCal hR hS hl.1 q1 hmi hMet hfr hlo ⟨by omega, by omega⟩) hS (fun H1 locs1 k1 k2 => ?_)
      have k9 := ih _ _ _ _ _ _ (cells + (h1.length - h.length)) (slots + (zsl h1 - zsl h)) _ _ _ q2 (by omega) (by omega) k1 k2 hl
      rw [show cells + (h1.length - h.length) + (hF.length - h1.length) = cells + (hF.length - h.length) by omega, show slots + (zsl h1 - zsl h) + (zsl hF - zsl h1) = slots + (zsl hF - zsl h) by omega] at k9
      rw [List.map_append] at k9
      have k8 : (r1.map (zcv B xa)).toList = r1.toList.map (zcv B xa) := by cases r1 <;> rfl
      rw [k8]
      exact k9
end ZS
/-- THE METHODS: what a run of ours says of a method is its contract on the Java machine -/
theorem zEv_ok {l : Launch} {B : Nat} {xa : Nat → Nat} {ca : Nat → ClassId} {D : va_G} {cl : List vw_C} {Ts : List Cond} {P : String} {X : zX} {own : Nat → String} {I : zI} {y : Nat → MethodName × ByteArray} {mcl : Nat → Nat} {mt : zM} (hCal : zCal Ts I y own mcl mt cl) (hMa : zMath Ts I own) (hT : ∀ (mi c : Nat) (ini : Bool) (nL : Nat) (rt : Option FieldType) (tab : Nat → Option (Instr × Nat)), mt mi = some (c, ini, nL, rt, tab) → zTab Ts cl P X c (own c)) : ∀ d : Nat, zMet l B xa ca D cl Ts P X own I y mt d (zEv X I mcl mt d) := by
  intro d
  induction d with
  | zero => intro mi as h r h' q; exact q.elim
  | succ d ih =>
    intro mi as h r h' q
    refine ⟨zEv_h _ _ _ _ _ _ q, ?_⟩
    obtain ⟨c0, ini, nL, rt, tab, n, hmi, hlg, q⟩ := q
    refine ⟨c0, ini, nL, rt, tab, hmi, ?_⟩
    obtain ⟨m1, m2, m3, m4, m5, m6, m7⟩ := hCal.1 _ _ _ _ _ _ hmi
    refine Met.ofW (cc := (y mi).2) (maxL := nL) (ret := rt) (by rw [m4]) rfl ?_
    intro p e s m args below meth c s₁ Bd hml hv
    obtain ⟨rfl, hR, hG, hN⟩ := hv
    have hx := Bd.exec
    have hb := Bd.bytes
    have hr := Bd.returns
    have hts := atoms_spec (ws := zws Ts y mi nL rt) Bd.pre
    have hown : s.vm.findClass (own c0) = some m.cls := by rw [← m2]; exact findClass_of_methodNamed Bd.named
    have hlocks := Bd.notSynchronized
    have hB : B ≤ s.heap.size := by rw [hR.1]; omega
    have hl := lv_entry (as.map (zcv B xa)) (n := nL) (by rw [zsl_len]; exact hlg)
    rw [lg_entry_eq]
    generalize (lg_sl (as.map (zcv B xa)) ++ List.replicate (nL - (lg_sl (as.map (zcv B xa))).length) Slot.unset).toArray = LS at hl ⊢
    rw [zargs_cl] at hl
    have k := zrun_ok (p := p) (l := l) (e := e) (R := (headSpec (zws Ts y mi nL rt) (zrm (d + 1) (h'.length - h.length) (zsl h' - zsl h))).room) (s := s) (m := m) (args := (as.map (zcv B xa)).toArray) (below := below) (meth := meth) (c := c) (d := d) hx hb hml hr hlocks hts hown (hT _ _ _ _ _ _ hmi) hG hN (fun hi => by rw [(name_of_methodNamed Bd.named Bd.method).1]; exact m6 hi) hB m7 hCal hMa ih (Nat.le_refl _) (Nat.le_refl _) n 0 (lv_args 0 as) [] h r h' 0 0 s.heap [] LS q (by show 0 + (h'.length - h.length) ≤ h'.length - h.length; omega) (by show 0 + (zsl h' - zsl h) ≤ zsl h' - zsl h; omega) hR va_S.rf hl
    rw [Nat.zero_add, Nat.zero_add] at k
    exact k
