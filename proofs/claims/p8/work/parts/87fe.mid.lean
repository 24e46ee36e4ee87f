/-! Behind the first call of two: all within its type. -/
/-- behind the first call of two all is within its type -/
def lckH (q1 : aQ) (ts : List aY) : Bool := match acon qW q1.2.2.2.2.1 (lE ts) lm (.inr (.inr (.inl 1)) :: lA 4 ts.length) q1 with
  | some A => A.2.2.all (fun o => lbad o.1 || lfin o)
  | none => false
theorem lmid {nf : Bool} {xs : List Int32} {q1 : aQ} {ts : List aY} {ys : List Int32} {h : zH} (c1 : aCon qW qG (zEv (zXt nf xs) zIT zmcl zMt 952) q1 (fun _ => True)) (chk : lckH q1 ts = true) (hI : lJ h) (hl : ts.length = ys.length) (hb : ∀ j : Nat, ∀ y : aY, ts[j]? = some y → y.1 = 0 ∧ y.2.1 ≤ (ys.getD j 0).toInt ∧ (ys.getD j 0).toInt ≤ y.2.2) {r1 : Option Value} {h1 : zH} (e1 : zEv (zXt nf xs) zIT zmcl zMt 952 q1.1 (.ref 0 :: ys.map Value.int) h r1 h1) : aH qW qG [0] [] h1 := by
  obtain ⟨hH, x, x1, x2⟩ := hI
  unfold lckH at chk
  split at chk
  · next A hA =>
    have hx : 0 ≤ x.toInt ∧ x.toInt ≤ 700 := by
      obtain ⟨v, g1, g2⟩ := hH.2.1 0 1 (by decide +kernel) (by decide +kernel)
      rw [qrdx (qG_off (by decide) (by decide)), x1] at g1
      cases g1
      rcases g2 with g2 | ⟨e, he, -⟩
      · have ht : apl (afm qW (asrt qW 0)) 1 = (0, 0, 700) := by decide +kernel
        rw [ht] at g2
        obtain ⟨y, y1, y2⟩ := g2
        cases y1
        exact y2
      · cases he
    have hE := lE_ok hx ys ts hl hb
    have hH1 : aH qW qG ([0, 0, 128, x.toInt] ++ ys.map Int32.toInt) lm h := by
      have m1 := aH_add (q := (1, 0, 1)) (b := .inl (3, 0)) (a := 0) (k := 1) (v := .int x) (aH_nil (ρ' := [0, 0, 128, x.toInt] ++ ys.map Int32.toInt) hH) (qden (k := 1) (c := 0) (r := 1) hE (by decide) rfl) (by decide +kernel) (by decide +kernel) (by rw [qrdx (qG_off (by decide) (by decide))]; exact x1) ⟨x, ⟨x.toInt, rfl, by rw [Int.add_zero, Int32.ofInt_toInt]⟩, rfl⟩
      exact aH_add (q := (2, 0, 2)) (b := .inl (3, 0)) (a := 128) (k := 2) (v := .int x) m1 (qden (k := 2) (c := 128) (r := 2) hE (by decide) rfl) (by decide +kernel) (by decide +kernel) (by rw [qrdx (qG_real (by decide +kernel) (by decide +kernel))]; exact x2) ⟨x, ⟨x.toInt, rfl, by rw [Int.add_zero, Int32.ofInt_toInt]⟩, rfl⟩
    have hst : aSt ([0, 0, 128, x.toInt] ++ ys.map Int32.toInt) (lA 4 ts.length) (ys.map Value.int) := by
      rw [hl]
      refine lA_st ys 4 (fun j hj => ⟨(ys.getD j 0).toInt, ?_, by rw [Int32.ofInt_toInt]⟩)
      rw [List.getElem?_append_right (by simp)]
      show (ys.map Int32.toInt)[4 + j - 4]? = _
      rw [show 4 + j - 4 = j by omega, List.getElem?_map, List.getElem?_eq_getElem hj, List.getD_eq_getElem?_getD, List.getElem?_eq_getElem hj]
      rfl
    have hs0 : aSt ([0, 0, 128, x.toInt] ++ ys.map Int32.toInt) (.inr (.inr (.inl 1)) :: lA 4 ts.length) (.ref 0 :: ys.map Value.int) := ⟨.ref 0, _, rfl, ⟨0, rfl, rfl⟩, hst⟩
    obtain ⟨r1x, h1x, g1, o, o1, ρ1, y1, y2, y3, y4, y5⟩ := acon_use (h0 := h) hA hE hH1 hs0 aF.rf c1 (fun _ _ _ _ _ => trivial)
    have chk := List.all_eq_true.mp chk o o1
    rw [Bool.or_eq_true] at chk
    rcases chk with chk | chk
    · exact (lbad_no y2 chk).elim
    · unfold lfin at chk
      rw [Bool.and_eq_true] at chk
      obtain ⟨k3, k4⟩ := chk
      obtain ⟨m', hm'⟩ := Option.isSome_iff_exists.mp k3
      obtain ⟨hK, hK2⟩ := akill_ok y2 hm' y4
      have e0 : m' = [] := by
        cases m' with
        | nil => rfl
        | cons a r => cases (hK2 a List.mem_cons_self).2
      subst e0
      obtain ⟨-, eh⟩ := zEv_same e1 g1
      rw [eh]
      exact aH_nil hK
  · cases chk
