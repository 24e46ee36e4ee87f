/-! Contracts by hand: what is held, what is put. -/
theorem aH_add {W : aW} {G : aG} {ρ : List Int} {m : aM} {h : zH} {q : aK} {b : aV} {a k : Nat} {v : Value} (hH : aH W G ρ m h) (hd : aden ρ q a k) (ha : a < W.1.length) (hk : k < apn (afm W (asrt W a))) (hv : rdx G h a k = some v) (hb : av ρ b v) : aH W G ρ ((q, b) :: m) h := by
  refine ⟨hH.1, fun a' k' ha' hk' => ?_, fun e he => ?_⟩
  · obtain ⟨w, g1, g2⟩ := hH.2.1 a' k' ha' hk'
    refine ⟨w, g1, ?_⟩
    rcases g2 with g2 | ⟨e, he, g2⟩
    · exact Or.inl g2
    · exact Or.inr ⟨e, List.mem_cons_of_mem _ he, g2⟩
  · rcases List.mem_cons.mp he with rfl | he
    · exact ⟨a, k, v, hd, ha, hk, hv, hb⟩
    · exact hH.2.2 e he
def qhc (q q1 : aQ) (E' : List aY) (m' : aM) : Bool := (match acon qW q.2.2.2.2.1 E' m' (aarg q) q1 with
  | some A => A.2.2.all (axck qW q)
  | none => false) && (q.2.2.2.2.1.all (fun d => Nat.beq d.2.1 0) && Nat.beq q1.1 q.1)
theorem qhc_ok {q q1 : aQ} {E' : List aY} {m' : aM} {C : zC} (h1 : aCon qW qG C q1 (fun _ => True)) (chk : qhc q q1 E' m' = true) (val : ∀ (ρ : List Int) (h : zH), aE qW (aent q) ρ → aH qW qG ρ (aem q) h → ∃ ρ', aext ρ ρ' ∧ aE qW E' ρ' ∧ aH qW qG ρ' m' h) : aCon qW qG C q (fun _ => True) := by
  intro ρ h vs _ hE hv hH
  unfold qhc at chk
  simp only [Bool.and_eq_true] at chk
  obtain ⟨c1, c2, c3⟩ := chk
  split at c1
  · next A hA =>
    obtain ⟨ρ', x1, x2, x3⟩ := val ρ h hE hH
    obtain ⟨r, h', g1, g2⟩ := acon_use (h0 := h) hA x2 x3 (hv.ext x1) aF.rf h1 (fun _ _ _ _ _ => trivial)
    rw [Nat.eq_of_beq_eq_true c3] at g1
    exact ⟨r, h', g1, axck_ok hE.1 (fun d hd => Or.inl (Nat.eq_of_beq_eq_true (List.all_eq_true.mp c2 d hd))) x1 c1 g2⟩
  · cases c1
/-- the cell of a symbol -/
theorem qcell {E : List aY} {ρ : List Int} {i so c : Nat} {y : Int} (hE : aE qW E ρ) (hi : E[i]? = some (2, (so : Int), y)) (hu : ∀ a : Nat, a < qW.1.length → (asrt qW a : Int) = (so : Int) → a = c) : ρ[i]? = some (c : Int) := by
  obtain ⟨z, z1, z2⟩ := hE.has hi
  obtain ⟨n, n1, n2, n3⟩ := (show ∃ n : Nat, z = (n : Int) ∧ n < qW.1.length ∧ (asrt qW n : Int) = (so : Int) from z2)
  rw [z1, n1, hu n n2 n3]
/-- no key of these stands for the place -/
def qnk (m : aM) (k : Nat) : Bool := m.all (fun e => Nat.beq e.1.1 1 && (Nat.beq e.1.2.1 0 && (ile 0 e.1.2.2 && (ile e.1.2.2 900 && !ieq e.1.2.2 (k : Int)))))
theorem qnk_ok {E : List aY} {ρ : List Int} {m : aM} {k a c : Nat} (hE : aE qW E ρ) (h : qnk m k = true) (hr : ρ[1]? = some (c : Int)) {e : aK × aV} (he : e ∈ m) (hd : aden ρ e.1 a k) : False := by
  have q := List.all_eq_true.mp h e he
  simp only [Bool.and_eq_true, Bool.not_eq_true'] at q
  obtain ⟨q1, q2, q3, q4, q5⟩ := q
  obtain ⟨⟨e1, e2, e3⟩, v⟩ := e
  have e1' : e1 = 1 := Nat.eq_of_beq_eq_true q1
  have e2' : e2 = 0 := Nat.eq_of_beq_eq_true q2
  have q3 := ile_iff.mp q3
  have q4 := ile_iff.mp q4
  have q3 : 0 ≤ e3 := q3
  have q4 : e3 ≤ 900 := q4
  subst e1' e2'
  have hd : aden ρ (1, 0, e3) a k := hd
  rw [show e3 = ((e3.toNat : Nat) : Int) by omega] at hd
  obtain ⟨-, e4⟩ := qden_u hE (by omega) hr hd
  have : e3 = (k : Int) := by omega
  rw [show ieq e3 (k : Int) = true by rw [this]; exact ieq_rf _] at q5
  cases q5
theorem qnk_o {E : List aY} {ρ : List Int} {m : aM} {k a c j : Nat} (hE : aE qW E ρ) (h : qnk m j = true) (hr : ρ[1]? = some (c : Int)) (hc : ¬ a = c) {e : aK × aV} (he : e ∈ m) (hd : aden ρ e.1 a k) : False := by
  have q := List.all_eq_true.mp h e he
  simp only [Bool.and_eq_true] at q
  obtain ⟨⟨e1, e2, e3⟩, v⟩ := e
  have e1' : e1 = 1 := Nat.eq_of_beq_eq_true q.1
  subst e1'
  have h1 := hd.1
  rw [hr] at h1
  injection h1 with h1
  omega
/-- a real place that isn't remembered lies in its type -/
theorem qreal {ρ : List Int} {m : aM} {h : zH} {a k : Nat} (hH : aH qW qG ρ m h) (ha : a < qW.1.length) (hk : k < (afm qW (asrt qW a)).2.2.1) (hk2 : k < apn (afm qW (asrt qW a))) (hn : ∀ e ∈ m, ¬ aden ρ e.1 a k) : ∃ v : Value, rd h a k = some v ∧ avt qW (apl (afm qW (asrt qW a)) k) v := by
  obtain ⟨v, g1, g2⟩ := hH.2.1 a k ha hk2
  rw [qrdx (qG_real ha hk)] at g1
  refine ⟨v, g1, ?_⟩
  rcases g2 with g2 | ⟨e, he, g2⟩
  · exact g2
  · exact (hn e he g2).elim
theorem qint {ρ : List Int} {m : aM} {h : zH} {a k : Nat} {l u : Int} (hH : aH qW qG ρ m h) (ha : a < qW.1.length) (hk : k < (afm qW (asrt qW a)).2.2.1) (hk2 : k < apn (afm qW (asrt qW a))) (hn : ∀ e ∈ m, ¬ aden ρ e.1 a k) (ht : apl (afm qW (asrt qW a)) k = (0, l, u)) : ∃ x : Int32, rd h a k = some (.int x) ∧ l ≤ x.toInt ∧ x.toInt ≤ u := by
  obtain ⟨v, g1, g2⟩ := qreal hH ha hk hk2 hn
  rw [ht] at g2
  obtain ⟨x, rfl, x1⟩ := g2
  exact ⟨x, g1, x1⟩
theorem av_toInt {ρ : List Int} {s : Nat} {c z : Int} {x : Int32} (hz : ρ[s]? = some z) (h : av ρ (.inl (s, c)) (.int x)) (h1 : -2147483648 ≤ z + c) (h2 : z + c ≤ 2147483647) : x.toInt = z + c := by
  obtain ⟨y, ⟨w, w1, w2⟩, y2⟩ := h
  cases y2
  rw [hz] at w1
  cases w1
  rw [w2, ai32 h1 h2]
theorem qhandO {C : zC} (h1 : aCon qW qG C qc16 (fun _ => True)) : aCon qW qG C qc15 (fun _ => True) := by
  refine qhc_ok (E' := aent qc15 ++ [(0, 0, 71)]) (m' := ((1, 0, 2), .inl (7, 0)) :: aem qc15) h1 (by decide +kernel) (fun ρ h hE hH => ?_)
  have hr : ρ[1]? = some ((2 : Nat) : Int) := qcell (so := 2) hE rfl (fun a => qun2)
  obtain ⟨z3, p3, q3⟩ := hE.has (k := 3) rfl
  obtain ⟨z4, p4, q4⟩ := hE.has (k := 4) rfl
  obtain ⟨z5, p5, q5⟩ := hE.has (k := 5) rfl
  have q3 : 0 ≤ z3 ∧ z3 ≤ 7 := q3
  have q4 : 0 ≤ z4 ∧ z4 ≤ 64 := q4
  have q5 : 0 ≤ z5 ∧ z5 ≤ 64 := q5
  obtain ⟨x, x1, x2, x3⟩ := qint (a := 2) (k := 2) (l := 0) (u := 72) hH (by decide +kernel) (by decide +kernel) (by decide +kernel) (fun e he => qnk_ok hE (by decide +kernel) hr he) (by decide +kernel)
  have f22 : qv h 2 2 = x.toInt := by rw [qv_on (by decide), qi_int x1]
  have g7 := qamg_g (k := 7) (v := .inl (3, 0)) hE hH (by decide) hr (qg7 _) rfl
  have g8 := qamg_g (k := 8) (v := .inl (4, 0)) hE hH (by decide) hr (qg8 _) rfl
  obtain ⟨w4, w41, w42, w43⟩ := qamg_r (k := 4) (v := .inl (5, 0)) hE hH (by decide) hr (qr24 h) (by decide) rfl
  obtain ⟨y, y1, rfl⟩ := (show ∃ y : Int32, ai ρ 5 0 y ∧ w4 = .int y from w42)
  have f24 := w43 y rfl
  have ey := av_toInt p5 (show av ρ (.inl (5, 0)) (.int y) from ⟨y, y1, rfl⟩) (by omega) (by omega)
  have hle := qgc_le (qv h)
  have e7 := av_toInt p3 g7 (by omega) (by omega)
  rw [ai32 (by omega) (by omega)] at e7
  have e8 := av_toInt p4 g8 (by omega) (by omega)
  rw [ai32 (by omega) (by omega)] at e8
  have h71 : x.toInt ≤ 71 := by omega
  refine ⟨ρ ++ [x.toInt], aext.one _, hE.push (t := (0, 0, 71)) ⟨x2, h71⟩, ?_⟩
  have hE2 := hE.push (t := (0, 0, 71)) (z := x.toInt) ⟨x2, h71⟩
  have hl : ρ.length = 7 := hE.1
  refine aH_add (a := 2) (k := 2) (v := .int x) (hH.ext (aext.one _)) (qden (k := 2) hE2 (by decide) ((aext.one _).get hr)) (by decide +kernel) (by decide +kernel) (by rw [qrdx (qr22 h)]; exact x1) ⟨x, ⟨x.toInt, ?_, by rw [Int.add_zero, Int32.ofInt_toInt]⟩, rfl⟩
  have := anew_get (ρ := ρ) x.toInt
  rw [hl] at this
  exact this
/-- how many knots are laid, where some are counted and not laid -/
theorem qN63 {E : List aY} {ρ : List Int} {m : aM} {h : zH} {z5 : Int} (hE : aE qW E ρ) (hH : aH qW qG ρ m h) (hr : ρ[1]? = some ((128 : Nat) : Int)) (hm : amg m (1, 0, 74) = some (.inl (5, 0))) (h33 : qnk m 33 = true) (p5 : ρ[5]? = some z5) (q5 : 1 ≤ z5 ∧ z5 ≤ 64) : ∃ x : Int32, rd h 130 17 = some (.int x) ∧ 0 ≤ x.toInt ∧ x.toInt ≤ 63 := by
  obtain ⟨x, x1, x2, x3⟩ := qint (a := 130) (k := 17) (l := 0) (u := 64) hH (by decide +kernel) (by decide +kernel) (by decide +kernel) (fun e he => qnk_o hE h33 hr (by decide) he) (by decide +kernel)
  obtain ⟨y, y1, y2, y3⟩ := qint (a := 128) (k := 33) (l := 0) (u := 64) hH (by decide +kernel) (by decide +kernel) (by decide +kernel) (fun e he => qnk_ok hE h33 hr he) (by decide +kernel)
  have f17 : qv h 130 17 = x.toInt := by rw [qv_on (by decide), qi_int x1]
  have f33 : qv h 128 33 = y.toInt := by rw [qv_on (by decide), qi_int y1]
  have g := qamg_g (k := 74) hE hH (by decide) hr (qg74 _) hm
  have e := av_toInt p5 g (by omega) (by omega)
  rw [ai32 (by omega) (by omega)] at e
  exact ⟨x, x1, x2, by omega⟩
theorem qhandP {q q1 : aQ} {C : zC} (h1 : aCon qW qG C q1 (fun _ => True)) (chk : qhc q q1 (aent q ++ [(0, 0, 63)]) (((8, 0, 17), .inl (9, 0)) :: aem q) = true) (e1 : (aent q)[1]? = some (2, 49, 49)) (e5 : (aent q)[5]? = some (0, 1, 64)) (e8 : (aent q)[8]? = some (2, 51, 51)) (hl : (aent q).length = 9) (hm : amg (aem q) (1, 0, 74) = some (.inl (5, 0))) (h33 : qnk (aem q) 33 = true) : aCon qW qG C q (fun _ => True) := by
  refine qhc_ok h1 chk (fun ρ h hE hH => ?_)
  have hr : ρ[1]? = some ((128 : Nat) : Int) := qcell (so := 49) hE e1 (fun a => qun49)
  have hr8 : ρ[8]? = some ((130 : Nat) : Int) := qcell (so := 51) hE e8 (fun a => qun51)
  obtain ⟨z5, p5, q5⟩ := hE.has e5
  have q5 : 1 ≤ z5 ∧ z5 ≤ 64 := q5
  obtain ⟨x, x1, x2, x3⟩ := qN63 hE hH hr hm h33 p5 q5
  have hE2 := hE.push (t := (0, 0, 63)) (z := x.toInt) ⟨x2, x3⟩
  refine ⟨ρ ++ [x.toInt], aext.one _, hE2, ?_⟩
  have hl : ρ.length = 9 := by rw [hE.1]; exact hl
  refine aH_add (a := 130) (k := 17) (v := .int x) (hH.ext (aext.one _)) (qden (k := 17) hE2 (by decide) ((aext.one _).get hr8)) (by decide +kernel) (by decide +kernel) (by rw [qrdx (qG_off (by decide) (by decide))]; exact x1) ⟨x, ⟨x.toInt, ?_, by rw [Int.add_zero, Int32.ofInt_toInt]⟩, rfl⟩
  have := anew_get (ρ := ρ) x.toInt
  rw [hl] at this
  exact this
theorem qhandB {C : zC} (h1 : aCon qW qG C qc79 (fun _ => True)) : aCon qW qG C qc78 (fun _ => True) := qhandP h1 (by decide +kernel) rfl rfl rfl rfl rfl (by decide +kernel)
theorem qhandC {C : zC} (h1 : aCon qW qG C qc81 (fun _ => True)) : aCon qW qG C qc80 (fun _ => True) := qhandP h1 (by decide +kernel) rfl rfl rfl rfl rfl (by decide +kernel)
theorem qhandN {C : zC} (h1 : aCon qW qG C qc86 (fun _ => True)) : aCon qW qG C qc85 (fun _ => True) := qhandP h1 (by decide +kernel) rfl rfl rfl rfl rfl (by decide +kernel)
theorem qhandT {C : zC} (h1 : aCon qW qG C qc88 (fun _ => True)) : aCon qW qG C qc87 (fun _ => True) := qhandP h1 (by decide +kernel) rfl rfl rfl rfl rfl (by decide +kernel)
theorem qhandM {C : zC} (h1 : aCon qW qG C qc84 (fun _ => True)) : aCon qW qG C qc83 (fun _ => True) := by
  refine qhc_ok (E' := (aent qc83).set 3 (0, 0, 6) ++ [(0, 0, 63)]) (m' := ((8, 0, 17), .inl (10, 0)) :: aem qc83) h1 (by decide +kernel) (fun ρ h hE hH => ?_)
  have hr : ρ[1]? = some ((128 : Nat) : Int) := qcell (so := 49) hE rfl (fun a => qun49)
  have hr8 : ρ[8]? = some ((130 : Nat) : Int) := qcell (so := 51) hE rfl (fun a => qun51)
  obtain ⟨z5, p5, q5⟩ := hE.has (k := 5) rfl
  have q5 : 1 ≤ z5 ∧ z5 ≤ 64 := q5
  obtain ⟨x, x1, x2, x3⟩ := qN63 hE hH hr rfl (by decide +kernel) p5 q5
  obtain ⟨z3, p3, q3⟩ := hE.has (k := 3) rfl
  have q3 : 0 ≤ z3 ∧ z3 ≤ 2147483632 := q3
  obtain ⟨z9, p9, q9⟩ := hE.has (k := 9) rfl
  have q9 : 0 ≤ z9 ∧ z9 ≤ 0 := q9
  obtain ⟨w6, w61, w62, w63⟩ := qamg_r (k := 26) (v := .inl (9, 0)) hE hH (by decide) hr (qr26 h) (by decide) rfl
  obtain ⟨y6, i6, rfl⟩ := (show ∃ y : Int32, ai ρ 9 0 y ∧ w6 = .int y from w62)
  have f6 := w63 y6 rfl
  have e6 := av_toInt p9 (show av ρ (.inl (9, 0)) (.int y6) from ⟨y6, i6, rfl⟩) (by omega) (by omega)
  obtain ⟨w7, w71, w72, w73⟩ := qamg_r (k := 27) (v := .inl (3, 15)) hE hH (by decide) hr (qr27 h) (by decide) rfl
  obtain ⟨y7, i7, rfl⟩ := (show ∃ y : Int32, ai ρ 3 15 y ∧ w7 = .int y from w72)
  have f7 := w73 y7 rfl
  have e7 := av_toInt p3 (show av ρ (.inl (3, 15)) (.int y7) from ⟨y7, i7, rfl⟩) (by omega) (by omega)
  have h6 : z3 ≤ 6 := by
    obtain ⟨v, v1, v2⟩ := hH.2.1 128 83 (by decide +kernel) (by decide +kernel)
    rw [qrdg (qg83 _)] at v1
    cases v1
    rcases v2 with v2 | ⟨e, he, v2⟩
    · have ht : apl (afm qW (asrt qW 128)) 83 = (0, -1, 21) := by decide +kernel
      rw [ht] at v2
      obtain ⟨u, u1, u2, u3⟩ := v2
      cases u1
      rw [if_pos (by omega), f7, ai32 (by omega) (by omega)] at u3
      omega
    · exact (qnk_ok hE (by decide +kernel) hr he v2).elim
  have hE1 := hE.set p3 (t := (0, 0, 6)) ⟨q3.1, h6⟩
  have hE2 := hE1.push (t := (0, 0, 63)) (z := x.toInt) ⟨x2, x3⟩
  refine ⟨ρ ++ [x.toInt], aext.one _, hE2, ?_⟩
  have hl : ρ.length = 10 := hE.1
  refine aH_add (a := 130) (k := 17) (v := .int x) (hH.ext (aext.one _)) (qden (k := 17) hE2 (by decide) ((aext.one _).get hr8)) (by decide +kernel) (by decide +kernel) (by rw [qrdx (qG_off (by decide) (by decide))]; exact x1) ⟨x, ⟨x.toInt, ?_, by rw [Int.add_zero, Int32.ofInt_toInt]⟩, rfl⟩
  have := anew_get (ρ := ρ) x.toInt
  rw [hl] at this
  exact this
