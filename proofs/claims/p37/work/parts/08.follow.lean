theorem zGoodIn {Ts : List Cond} (hg : ∀ w ∈ Ts, (w.onTables && w.keeps) = true ∨ ∃ ty, w = .arrayClass ty) {c0 : Cond} {ws : List Cond} (h : ∀ w ∈ ws, w ∈ Ts) : GoodIn (c0 :: Ts) ws := fun w hw => ⟨List.mem_cons_of_mem _ (h w hw), hg w (h w hw)⟩
theorem zsplit {st r : List Value} {n : Nat} {v : Value} (h : st.drop n = v :: r) (f : Value → Value) : st.map f = ((st.take n).reverse.map f).reverse ++ f v :: r.map f := by
  have h1 : st = st.take n ++ (v :: r) := by rw [← h, List.take_append_drop]
  have h2 := congrArg (List.map f) h1
  rw [List.map_append] at h2
  rw [h2, List.map_reverse, List.reverse_reverse]
  rfl
theorem zsplitS {st : List Value} {n : Nat} (f : Value → Value) : st.map f = ((st.take n).reverse.map f).reverse ++ (st.drop n).map f := by
  have h2 := congrArg (List.map f) (List.take_append_drop n st).symm
  rw [List.map_append] at h2
  rw [h2, List.map_reverse, List.reverse_reverse]
theorem zlen_take {st : List Value} {n : Nat} (h : n ≤ st.length) (f : Value → Value) : ((st.take n).reverse.map f).length = n := by simp [Nat.min_eq_left h]
section ZS
variable {p : Program} {l : Launch} {e : Env} {R : Room} {s : State} {m : MethodId} {args : Array Value} {below : List Frame} {meth : Method} {c : Code} {H : Heap} {locs : List Loc} {Q : State → Prop}
variable {cc : ByteArray} {B : Nat} {xa : Nat → Nat} {ca : Nat → ClassId} {D : va_G} {cl : List vw_C}
variable {Ts : List Cond} {P : String} {X : zX} {own : Nat → String} {I : zI} {y : Nat → MethodName × ByteArray} {mcl : Nat → Nat} {mt : zM}
set_option maxHeartbeats 4000000 in
theorem zcall_ok {c0 nL cells slots pc len : Nat} {cd0 : Cond} {i : Instr} {st : List Value} {h h1 : zH} {LS : Array Slot} {mi : Nat} {as rest : List Value} {r1 : Option Value} {d mc ms c1 nL1 : Nat} {ini1 : Bool} {rt1 : Option FieldType} {tab1 : Nat → Option (Instr × Nat)}
    (hx : p.tables.exec = Jvm.exec) (hb : c.code = cc) (hml : c.maxLocals = nL) (hd : decode cc pc = .ok (i, len)) (hlen : zlok i len = true) (hts : ∀ w ∈ cd0 :: Ts, w.before args s = true) (hown : s.vm.findClass (own c0) = some m.cls) (hG : zGS Ts B xa ca D cl P X own s) (hN : zGN I y own s) (hCal : zCal Ts I y own mcl mt cl)
    (hR : zHR B xa ca D cl h H) (hS : va_S (zA B) s.heap H locs) (hl : LS.size = nL) (hz : zcall X I mcl c0 i st h = some (mi, as, rest)) (hmi : mt mi = some (c1, ini1, nL1, rt1, tab1))
    (hM : Met l (y mi).1 (zws Ts y mi nL1 rt1) (zrm d mc ms) (zPc Ts B xa ca D cl P X own I y as h) (zQc B xa ca D cl r1 h1) mc ms (zA B)) (hfr : d + 1 ≤ R.frames) (hlo : (d + 1) * 64 ≤ R.locals) (hf : cells + mc ≤ R.cells ∧ slots + ms ≤ R.slots) :
    va_Run p l e R s m args below meth c H locs cells slots mc ms (F0 m pc LS (st.map (zcv B xa))) (rest.map (zcv B xa)) (zQc B xa ca D cl r1 h1 (as.map (zcv B xa)).toArray) (zA B) := by
  obtain ⟨k1, k2, k3, k4⟩ := hCal
  obtain ⟨m1, m2, m3, m4, m5, m6, m7⟩ := k1 _ _ _ _ _ _ hmi
  have m51 := m5.1
  have hpre : ∀ U : State, U.heap = H → s.WarmedH U.vm → zPc Ts B xa ca D cl P X own I y as h (as.map (zcv B xa)).toArray U := fun U hU hW => ⟨rfl, by rw [hU]; exact hR, zGS.moved hW (fun q g1 g2 => by rw [hU]; exact hS.2.1 q g1 g2) hG, zGN.moved hW hN⟩
  have hrm : (zrm d mc ms).frames + 1 ≤ R.frames ∧ 8 + (nL1 + 11) + (zrm d mc ms).locals ≤ R.locals := ⟨hfr, by show 8 + (nL1 + 11) + d * 64 ≤ _; omega⟩
  have hwsin : ∀ w ∈ zws Ts y mi nL1 rt1, w ∈ Ts := fun w hw => by
    rcases List.mem_cons.mp hw with rfl | hw
    · exact m1
    · exact hw
  cases i with
  | invokevirtual j =>
    obtain rfl : len = 3 := eq_of_beq hlen
    dsimp only [zcall] at hz
    split at hz
    · next mi' n hI =>
      obtain ⟨-, w1, w2, -⟩ := k4 _ _ _ _ _ hI
      have w1 := w1 ⟨by decide, by decide⟩
      have w2 := w2 rfl
      split at hz
      · next b r hdrop =>
        split at hz
        · next ci fs hbh =>
          split at hz
          · next hcond =>
            obtain ⟨hci, hn, hw⟩ := hcond
            cases hz
            obtain ⟨r', h1', cell, g1, g2, g3, -⟩ := hR.2 _ _ hbh (by show ci < 1000; rw [hci, m3]; exact m5.2)
            have hcls := (hG.1.1 ci _ h1').2.1
            have hnm : r'.1 = (y mi).1.cls := by rw [k3 _ _ h1', m2, hci, m3]
            exact va_runV (C := (y mi).1.cls) ⟨hx, hb, hml, hown, hts⟩ hM (cwV n hts (zGoodIn k2 (fun w hw => by
                rcases List.mem_append.mp hw with hw | hw
                · simp only [List.mem_cons, List.not_mem_nil, or_false] at hw
                  rcases hw with rfl | rfl | rfl | rfl
                  · exact w2.1
                  · exact w2.2.1
                  · exact w2.2.2
                  · exact w1.2.2.2
                · exact hwsin w hw)) rfl rfl rfl ⟨rfl, w1.1, w1.2.1, w1.2.2.1⟩ hrm)
              ⟨zPc_blind, ⟨cell, g1, by rw [g3]; rfl, by rw [← hnm, g2]; exact hcls⟩, hpre⟩ rfl (zlen_take hn _) hl (zsplit hdrop _) (lv_room (zw8_map hw)) hd hf
          · cases hz
        · cases hz
      · next b r hdrop =>
        split at hz
        · next hcond =>
          obtain ⟨hci, hn, hw⟩ := hcond
          cases hz
          obtain ⟨cell, g1, g2, g3, g4⟩ := (hG.2.2.2.2.2.2 _ _ hci).kept hS.2.1
          have hnm : own (mcl mi) = (y mi).1.cls := by rw [m2, m3]
          exact va_runV (C := (y mi).1.cls) ⟨hx, hb, hml, hown, hts⟩ hM (cwV n hts (zGoodIn k2 (fun w hw => by
                rcases List.mem_append.mp hw with hw | hw
                · simp only [List.mem_cons, List.not_mem_nil, or_false] at hw
                  rcases hw with rfl | rfl | rfl | rfl
                  · exact w2.1
                  · exact w2.2.1
                  · exact w2.2.2
                  · exact w1.2.2.2
                · exact hwsin w hw)) rfl rfl rfl ⟨rfl, w1.1, w1.2.1, w1.2.2.1⟩ hrm)
            ⟨zPc_blind, ⟨cell, g1, g2, by rw [← hnm]; exact g3⟩, hpre⟩ rfl (zlen_take hn _) hl (zsplit hdrop _) (lv_room (zw8_map hw)) hd hf
        · cases hz
      · cases hz
    · cases hz
  | invokestatic j =>
    obtain rfl : len = 3 := eq_of_beq hlen
    dsimp only [zcall] at hz
    split at hz
    · next mi' n hI =>
      obtain ⟨-, w1, -, w2, -⟩ := k4 _ _ _ _ _ hI
      have w1 := w1 ⟨by decide, by decide⟩
      have w2 := w2 rfl
      split at hz
      · next hcond =>
        obtain ⟨hn, hw⟩ := hcond
        cases hz
        exact va_runS ⟨hx, hb, hml, hown, hts⟩ hM (va_cwS n hts (zGoodIn k2 (fun w hw => by
              rcases List.mem_append.mp hw with hw | hw
              · simp only [List.mem_cons, List.not_mem_nil, or_false] at hw
                rcases hw with rfl | rfl | rfl
                · exact w2.1
                · exact w2.2
                · exact w1.2.2.2
              · exact hwsin w hw)) rfl rfl rfl ⟨w1.1, w1.2.1, w1.2.2.1⟩ hrm)
          ⟨zPc_blind, hpre⟩ rfl (zlen_take hn _) hl (zsplitS _) (lv_room (zw8_map hw)) hd hf
      · cases hz
    · cases hz
  | invokespecial j =>
    obtain rfl : len = 3 := eq_of_beq hlen
    dsimp only [zcall] at hz
    split at hz
    · next mi' n hI =>
      obtain ⟨-, w1, -, -, w2, -⟩ := k4 _ _ _ _ _ hI
      have w1 := w1 ⟨by decide, by decide⟩
      have w2 := w2 rfl
      split at hz
      · next b r hdrop =>
        split at hz
        · next hcond =>
          obtain ⟨hn, hw⟩ := hcond
          cases hz
          have hrt := w2.2.2.2 _ _ _ _ _ hmi
          subst hrt
          exact va_runI ⟨hx, hb, hml, hown, hts⟩ hM (cwI n hts (zGoodIn k2 hwsin) rfl rfl rfl (hts _ (List.mem_cons_of_mem _ w1.2.2.2)) (hts _ (List.mem_cons_of_mem _ w2.1)) (hts _ (List.mem_cons_of_mem _ w2.2.1)) w2.2.2.1 ⟨w1.1, w1.2.1, w1.2.2.1⟩ hrm)
            ⟨zPc_blind, hpre⟩ rfl (zlen_take hn _) hl (zsplit hdrop _) (lv_room (zw8_map hw)) hd hf
        · cases hz
      · cases hz
    · next mi' n hI =>
      obtain ⟨-, w1, -, -, -, w2⟩ := k4 _ _ _ _ _ hI
      have w1 := w1 ⟨by decide, by decide⟩
      have w2 := w2 rfl
      split at hz
      · next b r hdrop =>
        split at hz
        · next hcond =>
          obtain ⟨hn, hw⟩ := hcond
          cases hz
          have hrt := w2.2.2 _ _ _ _ _ hmi
          subst hrt
          obtain ⟨host, hh⟩ := hN _ _ _ _ hI
          exact va_runIN ⟨hx, hb, hml, hown, hts⟩ hM ⟨va_cnB n hts (zGoodIn k2 hwsin) rfl rfl rfl hh (hts _ (List.mem_cons_of_mem _ w1.2.2.2)) ⟨w1.1, w1.2.1, w1.2.2.1⟩ hrm, w2.2.1, hts _ (List.mem_cons_of_mem _ w2.1)⟩
            ⟨zPc_blind, hpre⟩ rfl (zlen_take hn _) hl (zsplit hdrop _) (lv_room (zw8_map hw)) hd hf
        · cases hz
      · cases hz
    · cases hz
  | _ => exact nomatch (show (none : Option (Nat × List Value × List Value)) = some _ from hz)
end ZS
