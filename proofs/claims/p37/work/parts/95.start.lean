/-! From the law's entry to its loop's head; what holds there. -/
theorem zGo_call {X : zX} {I : zI} {mcl : Nat → Nat} {C : zC} {c : Nat} {ini : Bool} {nL : Nat} {tab : Nat → Option (Instr × Nat)} {a : zSt} {i : Instr} {len mi : Nat} {as rest : List Value} {r1 : Option Value} {h1 : zH} (ht : tab a.1 = some (i, len)) (hc : zcall X I mcl c i a.2.2.1 a.2.2.2 = some (mi, as, rest)) (hC : C mi as a.2.2.2 r1 h1) : zGo X I mcl C c ini nL tab 1 a (a.1 + 3, a.2.1, r1.toList ++ rest, h1) :=
  ⟨i, len, ht, Or.inr (Or.inr ⟨mi, as, rest, r1, h1, hc, hC, rfl⟩)⟩
theorem zGo_one {X : zX} {I : zI} {mcl : Nat → Nat} {C : zC} {c : Nat} {ini : Bool} {nL : Nat} {tab : Nat → Option (Instr × Nat)} {a b : zSt} {i : Instr} {len : Nat} (ht : tab a.1 = some (i, len)) (hs : zstep X nL ini c i a.1 a.2.1 a.2.2.1 a.2.2.2 = some b) : zGo X I mcl C c ini nL tab 1 a b :=
  ⟨i, len, ht, Or.inl ⟨b, hs, rfl⟩⟩
def yLS (i : Int32) : zL := [(4, .int i), (3, .ref 175), (2, .ref 128), (1, .ref 0), (0, .retAddr 6)]
theorem yce_pe {ρ : yR} {a c : zE} (hp : yplain a = true) (h : yce ρ a c) : c = a := by
  obtain ⟨t, a⟩ := a
  rcases a with l | l | l | fs
  · exact h
  · exact h
  · exact yce_refs h (of_decide_eq_true hp)
  · have h' : (decide (t < 100) && fs.all (fun v => !ysym v)) = true := hp
    rw [Bool.and_eq_true] at h'
    obtain ⟨gs, rfl, hg⟩ := yce_obj h (of_decide_eq_true h'.1)
    have e : gs = fs := by
      have h2 : ∀ {as bs : List Value}, as.all (fun v => !ysym v) = true → yvs ρ as bs → bs = as := by
        intro as
        induction as with
        | nil => intro bs _ h; exact h
        | cons a as ih =>
          intro bs hd h
          obtain ⟨b, bs', e, hr, h⟩ := h
          rw [List.all_cons, Bool.and_eq_true] at hd
          rw [e, ih hd.2 h, yv_c hr (by simpa using hd.1)]
      exact h2 h'.2 hg
    rw [e]
theorem yhs_pe {ρ : yR} : ∀ {h c : zH}, h.all yplain = true → yhs ρ h c → c = h
  | [], _, _, h => h
  | a :: as, _, hp, ⟨b, bs, e, hr, h⟩ => by
    rw [List.all_cons, Bool.and_eq_true] at hp
    rw [e, yce_pe hp.1 hr, yhs_pe hp.2 h]
noncomputable def yin2 : Bool := match fev (yX0 none) zIT zmcl zMt fB 20 nX11_init ([], 0) [.ref 128] (129, yTj) with
  | none => false
  | some os => os.all (fun o => (match o.2.1 with
    | none => true
    | some _ => false) && (yvok 0 ((hL o.2.2).take 128) && yeqH ((hL o.2.2).drop 128) yHm))
theorem yTi_eq : hL (1, yTi) = [(10, zobj zD10)] := yeqH_ok (by decide +kernel)
theorem yTj_eq : hL (129, yTj) = yVars 128 ++ [(11, zobj zD11)] := yeqH_ok (by decide +kernel)
theorem yin2_ok : yin2 = true := by decide +kernel
theorem yHm_plain : yHm.all yplain = true := by decide +kernel
theorem yHm_len : yHm.length = 47 := by decide +kernel
theorem yinit1 (hk : ∀ nf, yin1 nf = true) (nf : Bool) (xs : List Int32) : zEv (zXt nf xs) zIT zmcl zMt 20 nX10_init [.ref 0] [(10, zobj zD10)] none yHx := by
  have h := hk nf
  unfold yin1 at h
  split at h
  · cases h
  · next os ho =>
    obtain ⟨o, m, ρ', r, h', a1, a2, a3, a0, a4, a5⟩ := fev_ok fB_ok (yX0_ok nf xs (o := some nf) (Or.inr rfl)) ymcl 20 nX10_init ([], 0) _ _ _ ho (show 1 ≤ 256 by decide) ([], [], []) [.ref 0] [(10, zobj zD10)] ⟨rfl, rfl, fun k q x hq _ => by cases hq⟩ (y0 (yv_r rfl) rfl) (by rw [yTi_eq]; exact yhs_plain (by decide +kernel))
    have h1 := List.all_eq_true.mp h o m
    rw [Bool.and_eq_true] at h1
    have e1 := yeqH_ok h1.2
    rw [e1] at a4
    have e2 := yhs_pe yHx_plain a4
    have e3 : r = none := by
      cases hq : o.2.1 with
      | none => rw [hq] at a3; exact a3
      | some v => rw [hq] at h1; cases h1.1
    rw [e2, e3] at a5
    exact a5
theorem yinit2 (nf : Bool) (xs : List Int32) : zEv (zXt nf xs) zIT zmcl zMt 20 nX11_init [.ref 128] (yHx ++ [(11, zobj zD11)]) none (yHx ++ yHm) := by
  have h := yin2_ok
  unfold yin2 at h
  split at h
  · cases h
  · next os ho =>
    obtain ⟨o, m, ρ', r, h', a1, a2, a3, a0, a4, a5⟩ := fev_ok fB_ok (yX0_ok nf xs (o := none) (Or.inl rfl)) ymcl 20 nX11_init ([], 0) _ _ _ ho (show 129 ≤ 256 by decide) ([], [], yHx) [.ref 128] (yHx ++ [(11, zobj zD11)]) ⟨rfl, rfl, fun k q x hq _ => by cases hq⟩ (y0 (yv_r rfl) rfl) (by rw [yTj_eq]; exact yA.app (yhs_plain (by decide +kernel)) (yhs_vars (ρ := ([], [], yHx)) yHx_len))
    have h1 := List.all_eq_true.mp h o m
    rw [Bool.and_eq_true, Bool.and_eq_true] at h1
    have e1 := yeqH_ok h1.2.2
    have d1 := yA.drop 128 a4
    have t1 := yA.take 128 a4
    rw [e1] at d1
    have e2 := yhs_pe yHm_plain d1
    have l0 : h'.length = 175 := by
      have h9 := congrArg List.length e2
      rw [yHm_len, List.length_drop] at h9
      omega
    have l1 : ((hL o.2.2).take 128).length = 128 := by
      have h9 := yA.len a4
      rw [l0] at h9
      rw [List.length_take]
      omega
    have e4 := yhs_vok (n := 128) (by rw [a1.2.2]; exact yHx_len) l1 h1.2.1 t1
    rw [a1.2.2] at e4
    have e3 : r = none := by
      cases hq : o.2.1 with
      | none => rw [hq] at a3; exact a3
      | some v => rw [hq] at h1; cases h1.1
    have e5 : h' = yHx ++ yHm := by
      rw [← List.take_append_drop 128 h', e4, e2]
    rw [e5, e3] at a5
    exact a5
theorem ystart (hk : ∀ nf, yin1 nf = true) (nf : Bool) (xs : List Int32) : ∃ n : Nat, zLaw nf xs n (0, [(0, .retAddr 6)], [], []) (23, yLS 0, [], yHx ++ yHo) := by
  have s1 : zLaw nf xs 1 (0, [(0, .retAddr 6)], [], []) (3, [(0, .retAddr 6)], [.ref 0], [(10, zobj zD10)]) := zGo_one (i := .new 8) (len := 3) rfl (ystepH rfl)
  have s2 : zLaw nf xs 1 (3, [(0, .retAddr 6)], [.ref 0], [(10, zobj zD10)]) (4, [(0, .retAddr 6)], [.ref 0, .ref 0], [(10, zobj zD10)]) := zGo_one (i := .dup) (len := 1) rfl (ystepI rfl)
  have s3 : zLaw nf xs 1 (4, [(0, .retAddr 6)], [.ref 0, .ref 0], [(10, zobj zD10)]) (7, [(0, .retAddr 6)], [.ref 0], yHx) := zGo_call (a := (4, [(0, .retAddr 6)], [.ref 0, .ref 0], [(10, zobj zD10)])) (i := .invokespecial 17) (len := 3) (mi := nX10_init) (as := [.ref 0]) (rest := [.ref 0]) rfl rfl (zEv_le (by decide) (yinit1 hk nf xs))
  have s4 : zLaw nf xs 1 (7, [(0, .retAddr 6)], [.ref 0], yHx) (8, [(1, .ref 0), (0, .retAddr 6)], [], yHx) := zGo_one (i := .astore_n 1) (len := 1) rfl (ystepL rfl)
  have s5 : zLaw nf xs 1 (8, [(1, .ref 0), (0, .retAddr 6)], [], yHx) (11, [(1, .ref 0), (0, .retAddr 6)], [.ref yHx.length], yHx ++ [(11, zobj zD11)]) := zGo_one (i := .new 18) (len := 3) rfl (ystepH rfl)
  rw [yHx_len] at s5
  have s6 : zLaw nf xs 1 (11, [(1, .ref 0), (0, .retAddr 6)], [.ref 128], yHx ++ [(11, zobj zD11)]) (12, [(1, .ref 0), (0, .retAddr 6)], [.ref 128, .ref 128], yHx ++ [(11, zobj zD11)]) := zGo_one (i := .dup) (len := 1) rfl (ystepI rfl)
  have s7 : zLaw nf xs 1 (12, [(1, .ref 0), (0, .retAddr 6)], [.ref 128, .ref 128], yHx ++ [(11, zobj zD11)]) (15, [(1, .ref 0), (0, .retAddr 6)], [.ref 128], yHx ++ yHm) := zGo_call (a := (12, [(1, .ref 0), (0, .retAddr 6)], [.ref 128, .ref 128], yHx ++ [(11, zobj zD11)])) (i := .invokespecial 20) (len := 3) (mi := nX11_init) (as := [.ref 128]) (rest := [.ref 128]) rfl rfl (zEv_le (by decide) (yinit2 nf xs))
  have s8 : zLaw nf xs 1 (15, [(1, .ref 0), (0, .retAddr 6)], [.ref 128], yHx ++ yHm) (16, [(2, .ref 128), (1, .ref 0), (0, .retAddr 6)], [], yHx ++ yHm) := zGo_one (i := .astore_n 2) (len := 1) rfl (ystepL rfl)
  have s9 : zLaw nf xs 1 (16, [(2, .ref 128), (1, .ref 0), (0, .retAddr 6)], [], yHx ++ yHm) (17, [(2, .ref 128), (1, .ref 0), (0, .retAddr 6)], [.int 1], yHx ++ yHm) := zGo_one (i := .iconst 1) (len := 1) rfl (ystepL rfl)
  have s10 : zLaw nf xs 1 (17, [(2, .ref 128), (1, .ref 0), (0, .retAddr 6)], [.int 1], yHx ++ yHm) (19, [(2, .ref 128), (1, .ref 0), (0, .retAddr 6)], [.ref 175], yHx ++ yHo) := by
    refine zGo_one (i := .newarray .long) (len := 2) rfl (ystepH ?_)
    have hl : (yHx ++ yHm).length = 175 := by rw [List.length_append, yHx_len, yHm_len]
    dsimp only [zstH]
    rw [if_neg (by decide), hl]
    unfold yHo
    rw [List.append_assoc]
    rfl
  have s11 : zLaw nf xs 1 (19, [(2, .ref 128), (1, .ref 0), (0, .retAddr 6)], [.ref 175], yHx ++ yHo) (20, [(3, .ref 175), (2, .ref 128), (1, .ref 0), (0, .retAddr 6)], [], yHx ++ yHo) := zGo_one (i := .astore_n 3) (len := 1) rfl (ystepL rfl)
  have s12 : zLaw nf xs 1 (20, [(3, .ref 175), (2, .ref 128), (1, .ref 0), (0, .retAddr 6)], [], yHx ++ yHo) (21, [(3, .ref 175), (2, .ref 128), (1, .ref 0), (0, .retAddr 6)], [.int 0], yHx ++ yHo) := zGo_one (i := .iconst 0) (len := 1) rfl (ystepL rfl)
  have s13 : zLaw nf xs 1 (21, [(3, .ref 175), (2, .ref 128), (1, .ref 0), (0, .retAddr 6)], [.int 0], yHx ++ yHo) (23, yLS 0, [], yHx ++ yHo) := zGo_one (i := .istore 4) (len := 2) rfl (ystepL rfl)
  exact ⟨_, zLaw_trans s1 (zLaw_trans s2 (zLaw_trans s3 (zLaw_trans s4 (zLaw_trans s5 (zLaw_trans s6 (zLaw_trans s7 (zLaw_trans s8 (zLaw_trans s9 (zLaw_trans s10 (zLaw_trans s11 (zLaw_trans s12 s13)))))))))))⟩
theorem yin1_all : ∀ nf, yin1 nf = true := fun nf => by
  cases nf
  · exact yin1_f
  · exact yin1_t
theorem yH_len : (yHx ++ yHo).length = 176 := by rw [List.length_append, yHx_len, yHo_len]
theorem yH_sl : zsl (yHx ++ yHo) = 5905 := by decide +kernel
/-! The start's cells lie in their types. -/
def avtB (t : aY) (v : Value) : Bool := match t with
  | (0, l, u) => match v with
    | .int x => ile l x.toInt && ile x.toInt u
    | _ => false
  | (1, l, u) => match v with
    | .long x => ile l x.toInt && ile x.toInt u
    | _ => false
  | (2, s, s') => match v with
    | .ref n => !Nat.ble qW.1.length n && (ieq (asrt qW n : Int) s || ieq (asrt qW n : Int) s')
    | _ => false
  | _ => false
theorem avtB_ok {t : aY} {v : Value} (h : avtB t v = true) : avt qW t v := by
  obtain ⟨k, l, u⟩ := t
  unfold avtB at h
  split at h
  · next heq =>
    cases heq
    split at h
    · rw [Bool.and_eq_true] at h
      exact ⟨_, rfl, ile_iff.mp h.1, ile_iff.mp h.2⟩
    · cases h
  · next heq =>
    cases heq
    split at h
    · rw [Bool.and_eq_true] at h
      exact ⟨_, rfl, ile_iff.mp h.1, ile_iff.mp h.2⟩
    · cases h
  · next heq =>
    cases heq
    split at h
    · next n =>
      rw [Bool.and_eq_true, Bool.or_eq_true] at h
      refine ⟨n, rfl, ?_, h.2.imp ieq_ok ieq_ok⟩
      have h1 : Nat.ble qW.1.length n = false := by simpa using h.1
      cases hh : Nat.decLt n qW.1.length with
      | isTrue q => exact q
      | isFalse q => rw [Nat.ble_eq_true_of_le (by omega)] at h1; cases h1
    · cases h
  · cases h
def lvs (e : zE) : List Value := match e.2 with
  | .inr (.inr (.inr fs)) => fs
  | .inl l => l.map Value.int
  | .inr (.inl l) => l.map Value.long
  | .inr (.inr (.inl l)) => l.map zrv
theorem rd_lvs {h : zH} {a k : Nat} {e : zE} (he : h[a]? = some e) : rd h a k = (lvs e)[k]? := by
  unfold rd lvs
  rw [he]
  obtain ⟨t, l | l | l | fs⟩ := e
  · exact (List.getElem?_map ..).symm
  · exact (List.getElem?_map ..).symm
  · exact (List.getElem?_map ..).symm
  · rfl
def ashB (t : aT) (e : zE) : Bool := Nat.beq e.1 t.1 && (match e.2 with
  | .inr (.inr (.inr fs)) => Nat.beq t.2.1 0 && Nat.beq fs.length t.2.2.1
  | .inl l => (Nat.beq t.2.1 1 || Nat.beq t.2.1 2) && Nat.beq l.length t.2.2.1
  | .inr (.inl l) => Nat.beq t.2.1 3 && Nat.beq l.length t.2.2.1
  | .inr (.inr (.inl l)) => Nat.beq t.2.1 4 && Nat.beq l.length t.2.2.1)
theorem ashB_ok {t : aT} {e : zE} (h : ashB t e = true) : ash t e ∧ (lvs e).length = t.2.2.1 := by
  obtain ⟨e1, e2⟩ := e
  obtain ⟨t1, t2, t3, t4⟩ := t
  unfold ashB at h
  rw [Bool.and_eq_true] at h
  have q1 := Nat.eq_of_beq_eq_true h.1
  have h2 := h.2
  rcases e2 with l | l | l | fs
  · have h2 : ((Nat.beq t2 1 || Nat.beq t2 2) && Nat.beq l.length t3) = true := h2
    rw [Bool.and_eq_true, Bool.or_eq_true] at h2
    have q3 := Nat.eq_of_beq_eq_true h2.2
    refine ⟨⟨q1, ?_⟩, by unfold lvs; simp [q3]⟩
    rcases h2.1 with q | q
    · have := Nat.eq_of_beq_eq_true q; subst this; exact q3
    · have := Nat.eq_of_beq_eq_true q; subst this; exact q3
  · have h2 : (Nat.beq t2 3 && Nat.beq l.length t3) = true := h2
    rw [Bool.and_eq_true] at h2
    have q2 := Nat.eq_of_beq_eq_true h2.1
    have q3 := Nat.eq_of_beq_eq_true h2.2
    subst q2
    exact ⟨⟨q1, q3⟩, by unfold lvs; simp [q3]⟩
  · have h2 : (Nat.beq t2 4 && Nat.beq l.length t3) = true := h2
    rw [Bool.and_eq_true] at h2
    have q2 := Nat.eq_of_beq_eq_true h2.1
    have q3 := Nat.eq_of_beq_eq_true h2.2
    subst q2
    exact ⟨⟨q1, q3⟩, by unfold lvs; simp [q3]⟩
  · have h2 : (Nat.beq t2 0 && Nat.beq fs.length t3) = true := h2
    rw [Bool.and_eq_true] at h2
    have q2 := Nat.eq_of_beq_eq_true h2.1
    have q3 := Nat.eq_of_beq_eq_true h2.2
    subst q2
    exact ⟨⟨q1, q3⟩, by unfold lvs; exact q3⟩
def lcL (f : Nat → aY) : Nat → List Value → Bool
  | _, [] => true
  | k, v :: r => avtB (f k) v && lcL f (k + 1) r
theorem lcL_ok {f : Nat → aY} : ∀ (l : List Value) (k j : Nat) (v : Value), lcL f k l = true → l[j]? = some v → avt qW (f (k + j)) v
  | [], _, _, _, _, hv => by cases hv
  | w :: r, k, 0, v, h, hv => by
    unfold lcL at h
    rw [Bool.and_eq_true] at h
    cases hv
    exact avtB_ok h.1
  | w :: r, k, j + 1, v, h, hv => by
    unfold lcL at h
    rw [Bool.and_eq_true] at h
    have := lcL_ok r (k + 1) j v h.2 (by simpa using hv)
    rw [show k + (j + 1) = k + 1 + j by omega]
    exact this
def lcC : Nat → List zE → Bool
  | _, [] => true
  | a, e :: r => (ashB (afm qW (asrt qW a)) e && lcL (apl (afm qW (asrt qW a))) 0 (lvs e)) && lcC (a + 1) r
theorem lcC_ok : ∀ (l : List zE) (a j : Nat) (e : zE), lcC a l = true → l[j]? = some e → ashB (afm qW (asrt qW (a + j))) e = true ∧ lcL (apl (afm qW (asrt qW (a + j)))) 0 (lvs e) = true
  | [], _, _, _, _, he => by cases he
  | w :: r, a, 0, e, h, he => by
    unfold lcC at h
    rw [Bool.and_eq_true, Bool.and_eq_true] at h
    cases he
    exact h.1
  | w :: r, a, j + 1, e, h, he => by
    unfold lcC at h
    rw [Bool.and_eq_true] at h
    have := lcC_ok r (a + 1) j e h.2 (by simpa using he)
    rw [show a + (j + 1) = a + 1 + j by omega]
    exact this
theorem lcC0 : lcC 0 (yHx ++ yHo) = true := by decide +kernel
theorem l0q : ([(2, 2), (144, 0), (144, 1), (144, 2), (145, 0), (145, 1), (145, 2), (128, 26), (128, 27), (0, 1), (128, 2)] : List (Nat × Nat)).all (fun p => ieq (qi (yHx ++ yHo) p.1 p.2) 0) = true := by decide +kernel
theorem l0v {a k : Nat} (h : (a, k) ∈ ([(2, 2), (144, 0), (144, 1), (144, 2), (145, 0), (145, 1), (145, 2), (128, 26), (128, 27), (0, 1), (128, 2)] : List (Nat × Nat))) : qi (yHx ++ yHo) a k = 0 := ieq_ok (List.all_eq_true.mp l0q (a, k) h)
theorem l0f {a k : Nat} (h : (a, k) ∈ ([(2, 2), (144, 0), (144, 1), (144, 2), (145, 0), (145, 1), (145, 2), (128, 26), (128, 27), (0, 1), (128, 2)] : List (Nat × Nat))) (hp : qpr a k = true) : qv (yHx ++ yHo) a k = 0 := by rw [qv_on hp]; exact l0v h
/-- forms: places beyond the real ones are those two objects' -/
def lfx : Bool := (List.range qW.1.length).all (fun a => Nat.beq (apn (afm qW (asrt qW a))) (afm qW (asrt qW a)).2.2.1 || (Nat.beq a 2 || Nat.beq a 128))
theorem lfx_ok : lfx = true := by decide +kernel
theorem lJ0 : lJ (yHx ++ yHo) := by
  have hcell : ∀ a : Nat, a < qW.1.length → ∃ e : zE, (yHx ++ yHo)[a]? = some e ∧ ash (afm qW (asrt qW a)) e ∧ (lvs e).length = (afm qW (asrt qW a)).2.2.1 ∧ lcL (apl (afm qW (asrt qW a))) 0 (lvs e) = true := fun a ha => by
    have hl : a < (yHx ++ yHo).length := by
      rw [yH_len]
      have : qW.1.length = 176 := by decide +kernel
      omega
    have he : (yHx ++ yHo)[a]? = some ((yHx ++ yHo)[a]'hl) := List.getElem?_eq_getElem hl
    have h1 := lcC_ok _ 0 a _ lcC0 he
    rw [Nat.zero_add] at h1
    obtain ⟨h2, h3⟩ := ashB_ok h1.1
    exact ⟨_, he, h2, h3, h1.2⟩
  have real : ∀ a k : Nat, a < qW.1.length → k < (afm qW (asrt qW a)).2.2.1 → ∃ v : Value, rd (yHx ++ yHo) a k = some v ∧ avt qW (apl (afm qW (asrt qW a)) k) v := fun a k ha hk => by
    obtain ⟨e, h1, -, h3, h4⟩ := hcell a ha
    have hk' : k < (lvs e).length := by omega
    refine ⟨(lvs e)[k], by rw [rd_lvs h1]; exact List.getElem?_eq_getElem hk', ?_⟩
    have := lcL_ok (lvs e) 0 k _ h4 (List.getElem?_eq_getElem hk')
    rw [Nat.zero_add] at this
    exact this
  refine ⟨⟨fun a ha => ?_, fun a k ha hk => ?_, fun e he => by cases he⟩, 0, ?_, ?_⟩
  · obtain ⟨e, h1, h2, -⟩ := hcell a ha
    exact ⟨e, h1, h2⟩
  · by_cases hr : k < (afm qW (asrt qW a)).2.2.1
    · obtain ⟨v, h1, h2⟩ := real a k ha hr
      exact ⟨v, by rw [qrdx (qG_real ha hr)]; exact h1, Or.inl h2⟩
    · have hx := List.all_eq_true.mp lfx_ok a (List.mem_range.mpr ha)
      simp only [Bool.or_eq_true] at hx
      rcases hx with hx | hx | hx
      · have := Nat.eq_of_beq_eq_true hx
        omega
      · have e := Nat.eq_of_beq_eq_true hx
        subst e
        have n1 : apn (afm qW (asrt qW 2)) = 10 := by decide +kernel
        have n2 : (afm qW (asrt qW 2)).2.2.1 = 7 := by decide +kernel
        rw [n1] at hk
        rw [n2] at hr
        have t7 : apl (afm qW (asrt qW 2)) 7 = (0, -2147483648, 2147483647) := by decide +kernel
        have t8 : apl (afm qW (asrt qW 2)) 8 = (0, -2147483648, 2147483647) := by decide +kernel
        have t9 : apl (afm qW (asrt qW 2)) 9 = (0, 0, 72) := by decide +kernel
        rcases (show k = 7 ∨ k = 8 ∨ k = 9 by omega) with rfl | rfl | rfl
        · exact ⟨_, qrdg (qg7 _), Or.inl (by rw [t7]; exact ⟨_, rfl, ab _⟩)⟩
        · exact ⟨_, qrdg (qg8 _), Or.inl (by rw [t8]; exact ⟨_, rfl, ab _⟩)⟩
        · refine ⟨_, qrdg (qg9 _), Or.inl ?_⟩
          rw [t9, l0f (a := 2) (k := 2) (by simp) (by decide)]
          exact ⟨_, rfl, by decide, by decide⟩
      · have e := Nat.eq_of_beq_eq_true hx
        subst e
        have n1 : apn (afm qW (asrt qW 128)) = 84 := by decide +kernel
        have n2 : (afm qW (asrt qW 128)).2.2.1 = 74 := by decide +kernel
        rw [n1] at hk
        rw [n2] at hr
        have tf : ∀ k : Nat, k = 74 ∨ k = 75 ∨ k = 76 ∨ k = 77 ∨ k = 79 ∨ k = 80 ∨ k = 81 ∨ k = 82 → apl (afm qW (asrt qW 128)) k = (0, -2147483648, 2147483647) := fun k q => by rcases q with rfl | rfl | rfl | rfl | rfl | rfl | rfl | rfl <;> decide +kernel
        have t78 : apl (afm qW (asrt qW 128)) 78 = (0, 1, 1) := by decide +kernel
        have t83 : apl (afm qW (asrt qW 128)) 83 = (0, -1, 21) := by decide +kernel
        have full : ∀ (k : Nat) (g : Int), qgF (qv (yHx ++ yHo)) 128 k = some g → apl (afm qW (asrt qW 128)) k = (0, -2147483648, 2147483647) → ∃ v : Value, rdx qG (yHx ++ yHo) 128 k = some v ∧ (avt qW (apl (afm qW (asrt qW 128)) k) v ∨ ∃ e ∈ ([] : aM), aden [0] e.1 128 k) := fun k g q t => ⟨_, qrdg q, Or.inl (by rw [t]; exact ⟨_, rfl, ab _⟩)⟩
        rcases (show k = 74 ∨ k = 75 ∨ k = 76 ∨ k = 77 ∨ k = 78 ∨ k = 79 ∨ k = 80 ∨ k = 81 ∨ k = 82 ∨ k = 83 by omega) with rfl | rfl | rfl | rfl | rfl | rfl | rfl | rfl | rfl | rfl
        · exact full _ _ (qg74 _) (tf _ (by omega))
        · exact full _ _ (qg75 _) (tf _ (by omega))
        · exact full _ _ (qg76 _) (tf _ (by omega))
        · exact full _ _ (qg77 _) (tf _ (by omega))
        · refine ⟨_, qrdg (qg78 _), Or.inl ?_⟩
          have hp : qp1 (qv (yHx ++ yHo)) := by
            unfold qp1
            rw [l0f (a := 144) (k := 0) (by simp) (by decide), l0f (a := 144) (k := 1) (by simp) (by decide), l0f (a := 144) (k := 2) (by simp) (by decide), l0f (a := 145) (k := 0) (by simp) (by decide), l0f (a := 145) (k := 1) (by simp) (by decide), l0f (a := 145) (k := 2) (by simp) (by decide)]
            have q : qlw (qv (yHx ++ yHo)) 0 0 0 64 := ⟨by decide, by decide, by decide, fun q => by omega⟩
            exact ⟨q, q, q⟩
          rw [t78, qbo_t hp]
          exact ⟨_, rfl, by decide, by decide⟩
        · exact full _ _ (qg79 _) (tf _ (by omega))
        · exact full _ _ (qg80 _) (tf _ (by omega))
        · exact full _ _ (qg81 _) (tf _ (by omega))
        · exact full _ _ (qg82 _) (tf _ (by omega))
        · refine ⟨_, qrdg (qg83 _), Or.inl ?_⟩
          rw [t83, l0f (a := 128) (k := 26) (by simp) (by decide), l0f (a := 128) (k := 27) (by simp) (by decide)]
          exact ⟨_, rfl, by decide, by decide⟩
  · obtain ⟨v, h1, h2⟩ := real 0 1 (by decide +kernel) (by decide +kernel)
    have ht : apl (afm qW (asrt qW 0)) 1 = (0, 0, 700) := by decide +kernel
    rw [ht] at h2
    obtain ⟨x, rfl, -⟩ := h2
    have := l0v (a := 0) (k := 1) (by simp)
    rw [qi_int h1] at this
    rw [h1, show x = 0 from Int32.toInt_inj.mp this]
  · obtain ⟨v, h1, h2⟩ := real 128 2 (by decide +kernel) (by decide +kernel)
    have ht : apl (afm qW (asrt qW 128)) 2 = (0, 0, 700) := by decide +kernel
    rw [ht] at h2
    obtain ⟨x, rfl, -⟩ := h2
    have := l0v (a := 128) (k := 2) (by simp)
    rw [qi_int h1] at this
    rw [h1, show x = 0 from Int32.toInt_inj.mp this]
theorem lX0 : lX (yHx ++ yHo) := by
  have c1 : (yHx ++ yHo).all (fun e => match e with
    | (t, .inr (.inr (.inr fs))) => kconf t fs
    | _ => true) = true := by decide +kernel
  have c2 : rfs.all (fun t => decide (rd (yHx ++ yHo) t.1 t.2.1 = some (.ref t.2.2))) = true := by decide +kernel
  have c3 : rd (yHx ++ yHo) 0 5 = some (.ref 7) ∧ rd (yHx ++ yHo) 0 6 = some (.ref 31) := by decide +kernel
  have c4 : (List.range 22).all (fun i => decide (rd (yHx ++ yHo) 4 i = some (.int (wcs.getD i 0)))) = true := by decide +kernel
  have c5 : (List.range 700).all (fun i => decide (gi (yHx ++ yHo) 1 i = gi (yHx ++ yHo) 129 i)) = true := by decide +kernel
  have c6 : gi (yHx ++ yHo) 0 2 = gi (yHx ++ yHo) 128 30 ∧ gi (yHx ++ yHo) 0 3 = gi (yHx ++ yHo) 128 31 := by decide +kernel
  have c7 : rd (yHx ++ yHo) 3 1 = some (.ref 5) := by decide +kernel
  have c8 : (List.range 8).all (fun w => decide (gi (yHx ++ yHo) (7 + 1 + 2 * w) 0 = Int32.ofNat (cN w)) && (decide (gi (yHx ++ yHo) (7 + 1 + 2 * w) 1 = Int32.ofNat (mN w)) && decide (gi (yHx ++ yHo) (7 + 1 + 2 * w) 3 = Int32.ofNat 0))) = true := by decide +kernel
  have c9 : (List.range 6).all (fun w => Nat.beq w 0 || decide (gi (yHx ++ yHo) 130 w = Int32.ofNat 0)) = true := by decide +kernel
  have c10 : gi (yHx ++ yHo) 130 0 = df 0 ∧ gi (yHx ++ yHo) 130 6 = df 6 ∧ gi (yHx ++ yHo) 130 7 = df 7 := by decide +kernel
  have kt : KT (yHx ++ yHo) := fun a t fs k v h1 h2 => kconf_ok (List.all_eq_true.mp c1 _ (List.mem_of_getElem? h1)) h2
  refine ⟨kt, ⟨kt, fun t ht => of_decide_eq_true (List.all_eq_true.mp c2 t ht), ⟨7, 31, Or.inl ⟨rfl, rfl⟩, c3.1, c3.2⟩, fun i hi => of_decide_eq_true (List.all_eq_true.mp c4 i (List.mem_range.mpr hi)), fun i hi => of_decide_eq_true (List.all_eq_true.mp c5 i (List.mem_range.mpr hi)), c6⟩, Or.inr c7, 7, fun _ => [], Or.inl rfl, c3.1, fun w hw => ?_, fun w _ => Nat.zero_le _, fun w w1 w2 => ?_, fun w _ r hr => absurd hr (Nat.not_lt_zero r), fun w hw => ?_⟩
  · have q := List.all_eq_true.mp c8 w (List.mem_range.mpr hw)
    rw [Bool.and_eq_true, Bool.and_eq_true] at q
    exact ⟨of_decide_eq_true q.1, of_decide_eq_true q.2.1, of_decide_eq_true q.2.2, Nat.zero_le _, fun r hr => absurd hr (Nat.not_lt_zero r)⟩
  · have q := List.all_eq_true.mp c9 w (List.mem_range.mpr (by omega))
    rw [Bool.or_eq_true] at q
    rcases q with q | q
    · have := Nat.eq_of_beq_eq_true q
      omega
    · exact of_decide_eq_true q
  · rcases hw with rfl | rfl | rfl
    · exact c10.1
    · exact c10.2.1
    · exact c10.2.2
theorem lB0 : lB (yHx ++ yHo) := by
  have c1 : gr (yHx ++ yHo) 0 5 = some 7 ∧ gr (yHx ++ yHo) 55 2 = some 7 ∧ gi (yHx ++ yHo) 7 10 = gi (yHx ++ yHo) 130 0 ∧ gi (yHx ++ yHo) 12 3 = 0 ∧ gi (yHx ++ yHo) 55 3 = 0 ∧ gi (yHx ++ yHo) 116 3 = 0 ∧ gi (yHx ++ yHo) 120 5 = 0 ∧ gi (yHx ++ yHo) 0 11 = 0 ∧ gi (yHx ++ yHo) 55 4 = gi (yHx ++ yHo) 150 0 ∧ gi (yHx ++ yHo) 55 5 = gi (yHx ++ yHo) 151 0 := by decide +kernel
  have c2 : gi (yHx ++ yHo) 130 1 = 0 ∧ gi (yHx ++ yHo) 130 2 = 0 ∧ gi (yHx ++ yHo) 128 54 = 0 ∧ gi (yHx ++ yHo) 128 67 = 0 ∧ gi (yHx ++ yHo) 128 53 = 0 := by decide +kernel
  obtain ⟨a1, a2, a3, a4, a5, a6, a7, a8, a9, a10⟩ := c1
  obtain ⟨b1, b2, b3, b4, b5⟩ := c2
  exact ⟨7, 0, 0, 0, fun _ => (0, 0, 0), rowOf (gi (yHx ++ yHo)) (gl (yHx ++ yHo)), 0, 0, gi (yHx ++ yHo) 130 0, Or.inl rfl, by decide, by decide, by decide, ⟨a1, a2, a3, a4, a5, a6, a7, a8, ⟨a9, a10, fun p hp => absurd hp (Nat.not_lt_zero p), fun j hj => absurd hj (Nat.not_lt_zero j)⟩, Or.inl rfl, fun k hk => absurd hk (Nat.not_lt_zero k)⟩, ⟨rfl, b1, b2, b3, b4, b5, fun r _ => rfl⟩, fun j hj => absurd hj (Nat.not_lt_zero j), Or.inl rfl, fun k hk => absurd hk (Nat.not_lt_zero k)⟩
theorem lInq0 : lInq (yHx ++ yHo) := ⟨lJ0, lX0, lB0⟩
