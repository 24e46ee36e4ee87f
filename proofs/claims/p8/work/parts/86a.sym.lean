/-! SYMBOLS: one run for all values of some ints and longs. `.float k` stands for the int number k, `.double k` for the long number k. A cell of tag 100 with fields is a row of ints in which symbols may stand; one of tag 1000 + k with references is the k-th of some cells that aren't looked at. -/
abbrev yR : Type := List Int32 × List Int64 × List zE
def ysym (a : Value) : Bool := match a with
  | .float _ => true
  | .double _ => true
  | _ => false
def yv (ρ : yR) (a v : Value) : Prop := match a with
  | .float k => ∃ x : Int32, ρ.1[k.toNat]? = some x ∧ v = .int x
  | .double k => ∃ x : Int64, ρ.2.1[k.toNat]? = some x ∧ v = .long x
  | .int x => v = .int x
  | .long x => v = .long x
  | .null => v = .null
  | .ref a => v = .ref a
  | .retAddr a => v = .retAddr a
def yA {α β : Type} (R : α → β → Prop) : List α → List β → Prop
  | [], l => l = []
  | a :: as, l => ∃ (b : β) (bs : List β), l = b :: bs ∧ R a b ∧ yA R as bs
theorem yA.len {α β : Type} {R : α → β → Prop} : ∀ {as : List α} {bs : List β}, yA R as bs → bs.length = as.length
  | [], _, h => by rw [show _ = [] from h]; rfl
  | a :: as, _, ⟨b, bs, e, _, h⟩ => by rw [e, List.length_cons, List.length_cons, yA.len h]
theorem yA.get {α β : Type} {R : α → β → Prop} : ∀ {as : List α} {bs : List β} {i : Nat} {a : α}, yA R as bs → as[i]? = some a → ∃ b, bs[i]? = some b ∧ R a b
  | [], _, _, _, _, h => by simp at h
  | a :: as, _, 0, x, ⟨b, bs, e, hr, _⟩, h => by
    simp at h
    subst h
    exact ⟨b, by rw [e]; rfl, hr⟩
  | a :: as, _, i + 1, x, ⟨b, bs, e, _, hs⟩, h => by
    have h1 : as[i]? = some x := by simpa using h
    obtain ⟨b', g, hr⟩ := yA.get hs h1
    exact ⟨b', by rw [e]; simpa using g, hr⟩
theorem yA.set {α β : Type} {R : α → β → Prop} {x : α} {z : β} (hx : R x z) : ∀ {as : List α} {bs : List β} {i : Nat}, yA R as bs → yA R (as.set i x) (bs.set i z)
  | [], _, _, h => by rw [show _ = [] from h]; exact rfl
  | a :: as, _, 0, ⟨b, bs, e, _, h⟩ => by rw [e]; exact ⟨z, bs, rfl, hx, h⟩
  | a :: as, _, i + 1, ⟨b, bs, e, hr, h⟩ => by rw [e]; exact ⟨b, bs.set i z, rfl, hr, yA.set hx h⟩
theorem yA.app {α β : Type} {R : α → β → Prop} {cs : List α} {ds : List β} (hc : yA R cs ds) : ∀ {as : List α} {bs : List β}, yA R as bs → yA R (as ++ cs) (bs ++ ds)
  | [], _, h => by rw [show _ = [] from h]; exact hc
  | a :: as, _, ⟨b, bs, e, hr, h⟩ => by rw [e]; exact ⟨b, bs ++ ds, rfl, hr, yA.app hc h⟩
theorem yA.mono {α β : Type} {R S : α → β → Prop} (hRS : ∀ a b, R a b → S a b) : ∀ {as : List α} {bs : List β}, yA R as bs → yA S as bs
  | [], _, h => h
  | a :: as, _, ⟨b, bs, e, hr, h⟩ => ⟨b, bs, e, hRS _ _ hr, yA.mono hRS h⟩
theorem yA.drop {α β : Type} {R : α → β → Prop} : ∀ {as : List α} {bs : List β} (n : Nat), yA R as bs → yA R (as.drop n) (bs.drop n)
  | [], _, _, h => by rw [show _ = [] from h]; simp; exact rfl
  | a :: as, _, 0, h => h
  | a :: as, _, n + 1, ⟨b, bs, e, _, h⟩ => by rw [e]; exact yA.drop n h
theorem yA.take {α β : Type} {R : α → β → Prop} : ∀ {as : List α} {bs : List β} (n : Nat), yA R as bs → yA R (as.take n) (bs.take n)
  | [], _, _, h => by rw [show _ = [] from h]; simp; exact rfl
  | a :: as, _, 0, h => rfl
  | a :: as, _, n + 1, ⟨b, bs, e, hr, h⟩ => by rw [e]; exact ⟨b, bs.take n, rfl, hr, yA.take n h⟩
theorem yA.rev {α β : Type} {R : α → β → Prop} : ∀ {as : List α} {bs : List β}, yA R as bs → yA R as.reverse bs.reverse
  | [], _, h => by rw [show _ = [] from h]; exact rfl
  | a :: as, _, ⟨b, bs, e, hr, h⟩ => by
    rw [e, List.reverse_cons, List.reverse_cons]
    have h0 : yA R [a] [b] := ⟨b, [], rfl, hr, rfl⟩
    exact yA.app h0 (yA.rev h)
theorem yA.filter {α β : Type} {R : α → β → Prop} {p : α → Bool} {q : β → Bool} (hpq : ∀ a b, R a b → q b = p a) : ∀ {as : List α} {bs : List β}, yA R as bs → yA R (as.filter p) (bs.filter q)
  | [], _, h => by rw [show _ = [] from h]; exact rfl
  | a :: as, _, ⟨b, bs, e, hr, h⟩ => by
    rw [e, List.filter_cons, List.filter_cons, hpq a b hr]
    split
    · exact ⟨b, _, rfl, hr, yA.filter hpq h⟩
    · exact yA.filter hpq h
theorem yA.find {α β : Type} {R : α → β → Prop} {p : α → Bool} {q : β → Bool} (hpq : ∀ a b, R a b → q b = p a) : ∀ {as : List α} {bs : List β} {x : α}, yA R as bs → as.find? p = some x → ∃ z, bs.find? q = some z ∧ R x z
  | [], _, _, _, h => by simp at h
  | a :: as, _, x, ⟨b, bs, e, hr, h⟩, hf => by
    rw [e, List.find?_cons, hpq a b hr]
    rw [List.find?_cons] at hf
    split at hf
    · cases hf
      exact ⟨b, rfl, hr⟩
    · exact yA.find hpq h hf
def yvs (ρ : yR) : List Value → List Value → Prop := yA (yv ρ)
def yls (ρ : yR) : zL → zL → Prop := yA (fun a b => b.1 = a.1 ∧ yv ρ a.2 b.2)
def yce (ρ : yR) (a c : zE) : Prop := match a with
  | (t, .inr (.inr (.inr fs))) => if t < 100 then ∃ gs : List Value, c = (t, .inr (.inr (.inr gs))) ∧ yvs ρ fs gs else t = 100 ∧ ∃ l : List Int32, c = (0, .inl l) ∧ yvs ρ fs (l.map .int)
  | (t, .inl l) => c = (t, .inl l)
  | (t, .inr (.inl l)) => c = (t, .inr (.inl l))
  | (t, .inr (.inr (.inl l))) => if 1000 ≤ t then ρ.2.2[t - 1000]? = some c else c = (t, .inr (.inr (.inl l)))
def yhs (ρ : yR) : zH → zH → Prop := yA (yce ρ)
def yext (ρ ρ' : yR) : Prop := (∃ a : List Int32, ρ'.1 = ρ.1 ++ a) ∧ (∃ b : List Int64, ρ'.2.1 = ρ.2.1 ++ b) ∧ ρ'.2.2 = ρ.2.2
theorem yext.rf {ρ : yR} : yext ρ ρ := ⟨⟨[], by simp⟩, ⟨[], by simp⟩, rfl⟩
theorem yext.trans {a b c : yR} : yext a b → yext b c → yext a c
  | ⟨⟨x, hx⟩, ⟨y, hy⟩, hz⟩, ⟨⟨u, hu⟩, ⟨v, hv⟩, hw⟩ => ⟨⟨x ++ u, by rw [hu, hx, List.append_assoc]⟩, ⟨y ++ v, by rw [hv, hy, List.append_assoc]⟩, hw.trans hz⟩
theorem ylook {α : Type} {l a : List α} {k : Nat} {x : α} (h : l[k]? = some x) : (l ++ a)[k]? = some x := by
  rw [List.getElem?_append_left (List.getElem?_eq_some_iff.mp h).1]
  exact h
theorem yv.ext {ρ ρ' : yR} {a v : Value} (hx : yext ρ ρ') (h : yv ρ a v) : yv ρ' a v := by
  obtain ⟨⟨p, hp⟩, ⟨q, hq⟩, -⟩ := hx
  cases a with
  | float k =>
    obtain ⟨x, h1, h2⟩ := h
    exact ⟨x, by rw [hp]; exact ylook h1, h2⟩
  | double k =>
    obtain ⟨x, h1, h2⟩ := h
    exact ⟨x, by rw [hq]; exact ylook h1, h2⟩
  | _ => exact h
theorem yvs.ext {ρ ρ' : yR} {a v : List Value} (hx : yext ρ ρ') (h : yvs ρ a v) : yvs ρ' a v := yA.mono (fun _ _ q => yv.ext hx q) h
theorem yls.ext {ρ ρ' : yR} {a v : zL} (hx : yext ρ ρ') (h : yls ρ a v) : yls ρ' a v := yA.mono (fun _ _ q => ⟨q.1, yv.ext hx q.2⟩) h
theorem yce.ext {ρ ρ' : yR} {a c : zE} (hx : yext ρ ρ') (h : yce ρ a c) : yce ρ' a c := by
  obtain ⟨t, a⟩ := a
  rcases a with l | l | l | fs
  · exact h
  · exact h
  · have h' : if 1000 ≤ t then ρ.2.2[t - 1000]? = some c else c = (t, .inr (.inr (.inl l))) := h
    show if 1000 ≤ t then ρ'.2.2[t - 1000]? = some c else c = (t, .inr (.inr (.inl l)))
    rw [hx.2.2]
    exact h'
  · show if t < 100 then _ else _
    have h' : if t < 100 then ∃ gs : List Value, c = (t, .inr (.inr (.inr gs))) ∧ yvs ρ fs gs else t = 100 ∧ ∃ l : List Int32, c = (0, .inl l) ∧ yvs ρ fs (l.map .int) := h
    split
    · next q =>
      rw [if_pos q] at h'
      obtain ⟨gs, e, hg⟩ := h'
      exact ⟨gs, e, hg.ext hx⟩
    · next q =>
      rw [if_neg q] at h'
      obtain ⟨t0, l, e, hg⟩ := h'
      exact ⟨t0, l, e, hg.ext hx⟩
theorem yhs.ext {ρ ρ' : yR} {a v : zH} (hx : yext ρ ρ') (h : yhs ρ a v) : yhs ρ' a v := yA.mono (fun _ _ q => yce.ext hx q) h
theorem yv_c {ρ : yR} {a v : Value} (h : yv ρ a v) (hs : ysym a = false) : v = a := by
  cases a with
  | float k => cases hs
  | double k => cases hs
  | _ => exact h
theorem yv_r {ρ : yR} {a : Value} (hs : ysym a = false) : yv ρ a a := by
  cases a with
  | float k => cases hs
  | double k => cases hs
  | _ => exact rfl
theorem yvs_r {ρ : yR} : ∀ {as : List Value}, (∀ v ∈ as, ysym v = false) → yvs ρ as as
  | [], _ => rfl
  | a :: as, h => ⟨a, as, rfl, yv_r (h a List.mem_cons_self), yvs_r (fun v hv => h v (List.mem_cons_of_mem _ hv))⟩
theorem yv_cat {ρ : yR} {a v : Value} (h : yv ρ a v) : v.category = a.category := by
  cases a with
  | float k =>
    obtain ⟨x, -, e⟩ := h
    rw [e]; rfl
  | double k =>
    obtain ⟨x, -, e⟩ := h
    rw [e]; rfl
  | int x => rw [show v = .int x from h]
  | long x => rw [show v = .long x from h]
  | null => rw [show v = .null from h]
  | ref x => rw [show v = .ref x from h]
  | retAddr x => rw [show v = .retAddr x from h]
theorem yce_obj {ρ : yR} {t : Nat} {fs : List Value} {c : zE} (h : yce ρ (t, .inr (.inr (.inr fs))) c) (ht : t < 100) : ∃ gs : List Value, c = (t, .inr (.inr (.inr gs))) ∧ yvs ρ fs gs := by
  have h' : if t < 100 then ∃ gs : List Value, c = (t, .inr (.inr (.inr gs))) ∧ yvs ρ fs gs else t = 100 ∧ ∃ l : List Int32, c = (0, .inl l) ∧ yvs ρ fs (l.map .int) := h
  rw [if_pos ht] at h'
  exact h'
theorem yce_mk {ρ : yR} {t : Nat} {fs gs : List Value} (ht : t < 100) (h : yvs ρ fs gs) : yce ρ (t, .inr (.inr (.inr fs))) (t, .inr (.inr (.inr gs))) := by
  show if t < 100 then _ else _
  rw [if_pos ht]
  exact ⟨gs, rfl, h⟩
theorem yce_ints {ρ : yR} {t : Nat} {l : List Int32} {c : zE} (h : yce ρ (t, .inl l) c) : c = (t, .inl l) := h
theorem yce_im {ρ : yR} {t : Nat} {l : List Int32} : yce ρ (t, .inl l) (t, .inl l) := rfl
theorem yce_refs {ρ : yR} {t : Nat} {l : List (Option Nat)} {c : zE} (h : yce ρ (t, .inr (.inr (.inl l))) c) (ht : t < 1000) : c = (t, .inr (.inr (.inl l))) := by
  have h' : if 1000 ≤ t then ρ.2.2[t - 1000]? = some c else c = (t, .inr (.inr (.inl l))) := h
  rw [if_neg (by omega)] at h'
  exact h'
theorem yce_rm {ρ : yR} {t : Nat} {l : List (Option Nat)} (ht : t < 1000) : yce ρ (t, .inr (.inr (.inl l))) (t, .inr (.inr (.inl l))) := by
  show if 1000 ≤ t then ρ.2.2[t - 1000]? = some _ else (t, .inr (.inr (.inl l))) = ((t, .inr (.inr (.inl l))) : zE)
  rw [if_neg (by omega)]
theorem yce_var {ρ : yR} {k : Nat} {l : List (Option Nat)} {c : zE} : yce ρ (1000 + k, .inr (.inr (.inl l))) c ↔ ρ.2.2[k]? = some c := by
  show (if 1000 ≤ 1000 + k then ρ.2.2[1000 + k - 1000]? = some c else c = (1000 + k, .inr (.inr (.inl l)))) ↔ _
  rw [if_pos (by omega), Nat.add_sub_cancel_left]
theorem yget {ρ : yR} {ls cs : zL} {i : Nat} {a : Value} (h : yls ρ ls cs) (hg : zget ls i = some a) : ∃ v, zget cs i = some v ∧ yv ρ a v := by
  unfold zget at hg
  obtain ⟨q, hq, e⟩ := Option.map_eq_some_iff.mp hg
  obtain ⟨z, hz, hr⟩ := yA.find (q := fun q => q.1 == i) (fun a b h => by rw [h.1]) h hq
  subst e
  exact ⟨z.2, by unfold zget; rw [hz]; rfl, hr.2⟩
theorem yset1 {ρ : yR} {ls cs : zL} {i : Nat} {a v : Value} (h : yls ρ ls cs) (hv : yv ρ a v) : yls ρ (zset1 ls i a) (zset1 cs i v) :=
  ⟨(i, v), _, rfl, ⟨rfl, hv⟩, yA.filter (fun a b h => by rw [h.1, yv_cat h.2]) h⟩
theorem yset2 {ρ : yR} {ls cs : zL} {i : Nat} {a v : Value} (h : yls ρ ls cs) (hv : yv ρ a v) : yls ρ (zset2 ls i a) (zset2 cs i v) :=
  ⟨(i, v), _, rfl, ⟨rfl, hv⟩, yA.filter (fun a b h => by rw [h.1, yv_cat h.2]) h⟩
theorem yargs {ρ : yR} : ∀ {as cs : List Value} (i : Nat), yvs ρ as cs → yls ρ (lv_args i as) (lv_args i cs)
  | [], _, _, h => by rw [show _ = [] from h]; exact rfl
  | a :: as, _, i, ⟨b, bs, e, hr, h⟩ => by
    rw [e]
    refine ⟨(i, b), _, rfl, ⟨rfl, hr⟩, ?_⟩
    rw [yv_cat hr]
    exact yargs _ h
theorem ysl_len {ρ : yR} : ∀ {as cs : List Value}, yvs ρ as cs → (lg_sl cs).length = (lg_sl as).length
  | [], _, h => by rw [show _ = [] from h]
  | a :: as, _, ⟨b, bs, e, hr, h⟩ => by
    have h1 := ysl_len h
    rw [e]
    simp only [lg_sl, List.flatMap_cons, List.length_append] at h1 ⊢
    rw [h1, yv_cat hr]
    split <;> rfl
theorem yw8 {ρ : yR} {r cr : List Value} (h : yvs ρ r cr) : zw8 cr = zw8 r := by
  have : ∀ {as cs : List Value}, yvs ρ as cs → (cs.map fun v => v.category).sum = (as.map fun v => v.category).sum := by
    intro as
    induction as with
    | nil => intro cs h; rw [show cs = [] from h]
    | cons a as ih =>
      intro cs h
      obtain ⟨b, bs, e, hr, h⟩ := h
      rw [e, List.map_cons, List.map_cons, List.sum_cons, List.sum_cons, ih h, yv_cat hr]
  unfold zw8
  rw [this h]
theorem y1 {ρ : yR} {a : Value} {r cst : List Value} (h : yvs ρ (a :: r) cst) (ha : ∀ v, yv ρ a v → v = a) : ∃ cr, cst = a :: cr ∧ yvs ρ r cr := by
  obtain ⟨b, bs, e, hr, h⟩ := h
  rw [ha b hr] at e
  exact ⟨bs, e, h⟩
theorem y0 {ρ : yR} {a v : Value} {r cr : List Value} (ha : yv ρ a v) (h : yvs ρ r cr) : yvs ρ (a :: r) (v :: cr) := ⟨v, cr, rfl, ha, h⟩
theorem yjump_s {pc : Nat} {off : Int} {ls : zL} {st : List Value} {h : zH} {pc' : Nat} {ls' : zL} {st' : List Value} {h' : zH} (e : zjump pc off ls st h = some (pc', ls', st', h')) : ls' = ls ∧ st' = st ∧ h' = h ∧ ∀ (cl : zL) (cs : List Value) (ch : zH), zjump pc off cl cs ch = some (pc', cl, cs, ch) := by
  unfold zjump at e
  split at e
  · next q =>
    cases e
    exact ⟨rfl, rfl, rfl, fun _ _ _ => by unfold zjump; rw [if_pos q]⟩
  · cases e
theorem ybr_s {b : Bool} {pc : Nat} {off : Int} {ls : zL} {st : List Value} {h : zH} {pc' : Nat} {ls' : zL} {st' : List Value} {h' : zH} (e : zbr b pc off ls st h = some (pc', ls', st', h')) : ls' = ls ∧ st' = st ∧ h' = h ∧ ∀ (cl : zL) (cs : List Value) (ch : zH), zbr b pc off cl cs ch = some (pc', cl, cs, ch) := by
  unfold zbr at e
  split at e
  · next q =>
    split at e
    · next q2 =>
      cases e
      exact ⟨rfl, rfl, rfl, fun _ _ _ => by unfold zbr; rw [if_pos q, if_pos q2]⟩
    · next q2 =>
      cases e
      exact ⟨rfl, rfl, rfl, fun _ _ _ => by unfold zbr; rw [if_pos q, if_neg q2]⟩
  · cases e
set_option maxHeartbeats 8000000 in
theorem yzI {X0 X : zX} {ρ : yR} {i : Instr} {pc : Nat} {ls : zL} {st : List Value} {h : zH} {pc' : Nat} {ls' : zL} {st' : List Value} {h' : zH} {cst : List Value} (hs : zstI X0 i pc ls st h = some (pc', ls', st', h')) (hst : yvs ρ st cst) : ls' = ls ∧ h' = h ∧ ∃ cst' : List Value, yvs ρ st' cst' ∧ ∀ (cl : zL) (ch : zH), zstI X i pc cl cst ch = some (pc', cl, cst', ch) := by
  cases i with
  | iadd =>
    dsimp only [zstI] at hs
    split at hs
    · cases hs
      obtain ⟨c1, rfl, h1⟩ := y1 hst (fun _ h => h)
      obtain ⟨c2, rfl, h2⟩ := y1 h1 (fun _ h => h)
      exact ⟨rfl, rfl, _, y0 (yv_r rfl) h2, fun _ _ => rfl⟩
    · cases hs
  | isub =>
    dsimp only [zstI] at hs
    split at hs
    · cases hs
      obtain ⟨c1, rfl, h1⟩ := y1 hst (fun _ h => h)
      obtain ⟨c2, rfl, h2⟩ := y1 h1 (fun _ h => h)
      exact ⟨rfl, rfl, _, y0 (yv_r rfl) h2, fun _ _ => rfl⟩
    · cases hs
  | imul =>
    dsimp only [zstI] at hs
    split at hs
    · cases hs
      obtain ⟨c1, rfl, h1⟩ := y1 hst (fun _ h => h)
      obtain ⟨c2, rfl, h2⟩ := y1 h1 (fun _ h => h)
      exact ⟨rfl, rfl, _, y0 (yv_r rfl) h2, fun _ _ => rfl⟩
    · cases hs
  | iand =>
    dsimp only [zstI] at hs
    split at hs
    · cases hs
      obtain ⟨c1, rfl, h1⟩ := y1 hst (fun _ h => h)
      obtain ⟨c2, rfl, h2⟩ := y1 h1 (fun _ h => h)
      exact ⟨rfl, rfl, _, y0 (yv_r rfl) h2, fun _ _ => rfl⟩
    · cases hs
  | ior =>
    dsimp only [zstI] at hs
    split at hs
    · cases hs
      obtain ⟨c1, rfl, h1⟩ := y1 hst (fun _ h => h)
      obtain ⟨c2, rfl, h2⟩ := y1 h1 (fun _ h => h)
      exact ⟨rfl, rfl, _, y0 (yv_r rfl) h2, fun _ _ => rfl⟩
    · cases hs
  | ixor =>
    dsimp only [zstI] at hs
    split at hs
    · cases hs
      obtain ⟨c1, rfl, h1⟩ := y1 hst (fun _ h => h)
      obtain ⟨c2, rfl, h2⟩ := y1 h1 (fun _ h => h)
      exact ⟨rfl, rfl, _, y0 (yv_r rfl) h2, fun _ _ => rfl⟩
    · cases hs
  | ishl =>
    dsimp only [zstI] at hs
    split at hs
    · cases hs
      obtain ⟨c1, rfl, h1⟩ := y1 hst (fun _ h => h)
      obtain ⟨c2, rfl, h2⟩ := y1 h1 (fun _ h => h)
      exact ⟨rfl, rfl, _, y0 (yv_r rfl) h2, fun _ _ => rfl⟩
    · cases hs
  | ishr =>
    dsimp only [zstI] at hs
    split at hs
    · cases hs
      obtain ⟨c1, rfl, h1⟩ := y1 hst (fun _ h => h)
      obtain ⟨c2, rfl, h2⟩ := y1 h1 (fun _ h => h)
      exact ⟨rfl, rfl, _, y0 (yv_r rfl) h2, fun _ _ => rfl⟩
    · cases hs
  | iushr =>
    dsimp only [zstI] at hs
    split at hs
    · cases hs
      obtain ⟨c1, rfl, h1⟩ := y1 hst (fun _ h => h)
      obtain ⟨c2, rfl, h2⟩ := y1 h1 (fun _ h => h)
      exact ⟨rfl, rfl, _, y0 (yv_r rfl) h2, fun _ _ => rfl⟩
    · cases hs
  | ladd =>
    dsimp only [zstI] at hs
    split at hs
    · cases hs
      obtain ⟨c1, rfl, h1⟩ := y1 hst (fun _ h => h)
      obtain ⟨c2, rfl, h2⟩ := y1 h1 (fun _ h => h)
      exact ⟨rfl, rfl, _, y0 (yv_r rfl) h2, fun _ _ => rfl⟩
    · cases hs
  | lsub =>
    dsimp only [zstI] at hs
    split at hs
    · cases hs
      obtain ⟨c1, rfl, h1⟩ := y1 hst (fun _ h => h)
      obtain ⟨c2, rfl, h2⟩ := y1 h1 (fun _ h => h)
      exact ⟨rfl, rfl, _, y0 (yv_r rfl) h2, fun _ _ => rfl⟩
    · cases hs
  | lmul =>
    dsimp only [zstI] at hs
    split at hs
    · cases hs
      obtain ⟨c1, rfl, h1⟩ := y1 hst (fun _ h => h)
      obtain ⟨c2, rfl, h2⟩ := y1 h1 (fun _ h => h)
      exact ⟨rfl, rfl, _, y0 (yv_r rfl) h2, fun _ _ => rfl⟩
    · cases hs
  | land =>
    dsimp only [zstI] at hs
    split at hs
    · cases hs
      obtain ⟨c1, rfl, h1⟩ := y1 hst (fun _ h => h)
      obtain ⟨c2, rfl, h2⟩ := y1 h1 (fun _ h => h)
      exact ⟨rfl, rfl, _, y0 (yv_r rfl) h2, fun _ _ => rfl⟩
    · cases hs
  | lor =>
    dsimp only [zstI] at hs
    split at hs
    · cases hs
      obtain ⟨c1, rfl, h1⟩ := y1 hst (fun _ h => h)
      obtain ⟨c2, rfl, h2⟩ := y1 h1 (fun _ h => h)
      exact ⟨rfl, rfl, _, y0 (yv_r rfl) h2, fun _ _ => rfl⟩
    · cases hs
  | lxor =>
    dsimp only [zstI] at hs
    split at hs
    · cases hs
      obtain ⟨c1, rfl, h1⟩ := y1 hst (fun _ h => h)
      obtain ⟨c2, rfl, h2⟩ := y1 h1 (fun _ h => h)
      exact ⟨rfl, rfl, _, y0 (yv_r rfl) h2, fun _ _ => rfl⟩
    · cases hs
  | lshl =>
    dsimp only [zstI] at hs
    split at hs
    · cases hs
      obtain ⟨c1, rfl, h1⟩ := y1 hst (fun _ h => h)
      obtain ⟨c2, rfl, h2⟩ := y1 h1 (fun _ h => h)
      exact ⟨rfl, rfl, _, y0 (yv_r rfl) h2, fun _ _ => rfl⟩
    · cases hs
  | lshr =>
    dsimp only [zstI] at hs
    split at hs
    · cases hs
      obtain ⟨c1, rfl, h1⟩ := y1 hst (fun _ h => h)
      obtain ⟨c2, rfl, h2⟩ := y1 h1 (fun _ h => h)
      exact ⟨rfl, rfl, _, y0 (yv_r rfl) h2, fun _ _ => rfl⟩
    · cases hs
  | lushr =>
    dsimp only [zstI] at hs
    split at hs
    · cases hs
      obtain ⟨c1, rfl, h1⟩ := y1 hst (fun _ h => h)
      obtain ⟨c2, rfl, h2⟩ := y1 h1 (fun _ h => h)
      exact ⟨rfl, rfl, _, y0 (yv_r rfl) h2, fun _ _ => rfl⟩
    · cases hs
  | lcmp =>
    dsimp only [zstI] at hs
    split at hs
    · cases hs
      obtain ⟨c1, rfl, h1⟩ := y1 hst (fun _ h => h)
      obtain ⟨c2, rfl, h2⟩ := y1 h1 (fun _ h => h)
      exact ⟨rfl, rfl, _, y0 (yv_r rfl) h2, fun _ _ => rfl⟩
    · cases hs
  | idiv =>
    dsimp only [zstI] at hs
    split at hs
    · split at hs
      · cases hs
      · next hn =>
        cases hs
        obtain ⟨c1, rfl, h1⟩ := y1 hst (fun _ h => h)
        obtain ⟨c2, rfl, h2⟩ := y1 h1 (fun _ h => h)
        exact ⟨rfl, rfl, _, y0 (yv_r rfl) h2, fun _ _ => by dsimp only [zstI]; rw [if_neg hn]⟩
    · cases hs
  | irem =>
    dsimp only [zstI] at hs
    split at hs
    · split at hs
      · cases hs
      · next hn =>
        cases hs
        obtain ⟨c1, rfl, h1⟩ := y1 hst (fun _ h => h)
        obtain ⟨c2, rfl, h2⟩ := y1 h1 (fun _ h => h)
        exact ⟨rfl, rfl, _, y0 (yv_r rfl) h2, fun _ _ => by dsimp only [zstI]; rw [if_neg hn]⟩
    · cases hs
  | ldiv =>
    dsimp only [zstI] at hs
    split at hs
    · split at hs
      · cases hs
      · next hn =>
        cases hs
        obtain ⟨c1, rfl, h1⟩ := y1 hst (fun _ h => h)
        obtain ⟨c2, rfl, h2⟩ := y1 h1 (fun _ h => h)
        exact ⟨rfl, rfl, _, y0 (yv_r rfl) h2, fun _ _ => by dsimp only [zstI]; rw [if_neg hn]⟩
    · cases hs
  | lrem =>
    dsimp only [zstI] at hs
    split at hs
    · split at hs
      · cases hs
      · next hn =>
        cases hs
        obtain ⟨c1, rfl, h1⟩ := y1 hst (fun _ h => h)
        obtain ⟨c2, rfl, h2⟩ := y1 h1 (fun _ h => h)
        exact ⟨rfl, rfl, _, y0 (yv_r rfl) h2, fun _ _ => by dsimp only [zstI]; rw [if_neg hn]⟩
    · cases hs
  | ineg =>
    dsimp only [zstI] at hs
    split at hs
    · cases hs
      obtain ⟨c1, rfl, h1⟩ := y1 hst (fun _ h => h)
      exact ⟨rfl, rfl, _, y0 (yv_r rfl) h1, fun _ _ => rfl⟩
    · cases hs
  | lneg =>
    dsimp only [zstI] at hs
    split at hs
    · cases hs
      obtain ⟨c1, rfl, h1⟩ := y1 hst (fun _ h => h)
      exact ⟨rfl, rfl, _, y0 (yv_r rfl) h1, fun _ _ => rfl⟩
    · cases hs
  | i2l =>
    dsimp only [zstI] at hs
    split at hs
    · cases hs
      obtain ⟨c1, rfl, h1⟩ := y1 hst (fun _ h => h)
      exact ⟨rfl, rfl, _, y0 (yv_r rfl) h1, fun _ _ => rfl⟩
    · cases hs
  | l2i =>
    dsimp only [zstI] at hs
    split at hs
    · cases hs
      obtain ⟨c1, rfl, h1⟩ := y1 hst (fun _ h => h)
      exact ⟨rfl, rfl, _, y0 (yv_r rfl) h1, fun _ _ => rfl⟩
    · cases hs
  | i2c =>
    dsimp only [zstI] at hs
    split at hs
    · cases hs
      obtain ⟨c1, rfl, h1⟩ := y1 hst (fun _ h => h)
      exact ⟨rfl, rfl, _, y0 (yv_r rfl) h1, fun _ _ => rfl⟩
    · cases hs
  | dup =>
    dsimp only [zstI] at hs
    split at hs
    · cases hs
      obtain ⟨c1, rfl, h1⟩ := y1 hst (fun _ h => h)
      exact ⟨rfl, rfl, _, y0 (yv_r rfl) (y0 (yv_r rfl) h1), fun _ _ => rfl⟩
    · cases hs
      obtain ⟨c1, rfl, h1⟩ := y1 hst (fun _ h => h)
      exact ⟨rfl, rfl, _, y0 (yv_r rfl) (y0 (yv_r rfl) h1), fun _ _ => rfl⟩
    · cases hs
  | dup2 =>
    dsimp only [zstI] at hs
    split at hs
    · cases hs
      obtain ⟨c1, rfl, h1⟩ := y1 hst (fun _ h => h)
      obtain ⟨c2, rfl, h2⟩ := y1 h1 (fun _ h => h)
      exact ⟨rfl, rfl, _, y0 (yv_r rfl) (y0 (yv_r rfl) (y0 (yv_r rfl) (y0 (yv_r rfl) h2))), fun _ _ => rfl⟩
    · cases hs
  | pop =>
    dsimp only [zstI] at hs
    split at hs
    · cases hs
      obtain ⟨c1, rfl, h1⟩ := y1 hst (fun _ h => h)
      exact ⟨rfl, rfl, _, h1, fun _ _ => rfl⟩
    · cases hs
      obtain ⟨c1, rfl, h1⟩ := y1 hst (fun _ h => h)
      exact ⟨rfl, rfl, _, h1, fun _ _ => rfl⟩
    · cases hs
  | ifCond cd off =>
    dsimp only [zstI] at hs
    split at hs
    · obtain ⟨c1, rfl, h1⟩ := y1 hst (fun _ h => h)
      obtain ⟨e1, e2, e3, e4⟩ := ybr_s hs
      subst e1 e2 e3
      exact ⟨rfl, rfl, _, h1, fun _ _ => e4 _ _ _⟩
    · cases hs
  | if_icmp cd off =>
    dsimp only [zstI] at hs
    split at hs
    · obtain ⟨c1, rfl, h1⟩ := y1 hst (fun _ h => h)
      obtain ⟨c2, rfl, h2⟩ := y1 h1 (fun _ h => h)
      obtain ⟨e1, e2, e3, e4⟩ := ybr_s hs
      subst e1 e2 e3
      exact ⟨rfl, rfl, _, h2, fun _ _ => e4 _ _ _⟩
    · cases hs
  | goto off =>
    obtain ⟨e1, e2, e3, e4⟩ := yjump_s hs
    subst e1 e2 e3
    exact ⟨rfl, rfl, _, hst, fun _ _ => e4 _ _ _⟩
  | tableswitch d lo hi offs =>
    dsimp only [zstI] at hs
    split at hs
    · obtain ⟨c1, rfl, h1⟩ := y1 hst (fun _ h => h)
      split at hs
      · next q =>
        obtain ⟨e1, e2, e3, e4⟩ := yjump_s hs
        subst e1 e2 e3
        exact ⟨rfl, rfl, _, h1, fun _ _ => by dsimp only [zstI]; rw [if_pos q]; exact e4 _ _ _⟩
      · next q =>
        split at hs
        · next q2 =>
          obtain ⟨e1, e2, e3, e4⟩ := yjump_s hs
          subst e1 e2 e3
          exact ⟨rfl, rfl, _, h1, fun _ _ => by dsimp only [zstI]; rw [if_neg q, q2]; exact e4 _ _ _⟩
        · cases hs
    · cases hs
  | lookupswitch d ps =>
    dsimp only [zstI] at hs
    split at hs
    · obtain ⟨c1, rfl, h1⟩ := y1 hst (fun _ h => h)
      split at hs
      · next q =>
        obtain ⟨e1, e2, e3, e4⟩ := yjump_s hs
        subst e1 e2 e3
        exact ⟨rfl, rfl, _, h1, fun _ _ => by dsimp only [zstI]; rw [if_pos q]; exact e4 _ _ _⟩
      · cases hs
    · cases hs
  | _ => exact nomatch (show (none : Option (Nat × zL × List Value × zH)) = some _ from hs)
set_option maxHeartbeats 8000000 in
theorem yzL {nL : Nat} {ρ : yR} {i : Instr} {pc : Nat} {ls : zL} {st : List Value} {h : zH} {pc' : Nat} {ls' : zL} {st' : List Value} {h' : zH} {cl : zL} {cst : List Value} (hs : zstL nL i pc ls st h = some (pc', ls', st', h')) (hl : yls ρ ls cl) (hst : yvs ρ st cst) : h' = h ∧ ∃ (cl' : zL) (cst' : List Value), yls ρ ls' cl' ∧ yvs ρ st' cst' ∧ ∀ ch : zH, zstL nL i pc cl cst ch = some (pc', cl', cst', ch) := by
  cases i with
  | iconst n =>
    dsimp only [zstL] at hs
    cases hs
    exact ⟨rfl, _, _, hl, y0 (yv_r rfl) hst, fun _ => rfl⟩
  | bipush n =>
    dsimp only [zstL] at hs
    cases hs
    exact ⟨rfl, _, _, hl, y0 (yv_r rfl) hst, fun _ => rfl⟩
  | sipush n =>
    dsimp only [zstL] at hs
    cases hs
    exact ⟨rfl, _, _, hl, y0 (yv_r rfl) hst, fun _ => rfl⟩
  | lconst n =>
    dsimp only [zstL] at hs
    cases hs
    exact ⟨rfl, _, _, hl, y0 (yv_r rfl) hst, fun _ => rfl⟩
  | iload_n k =>
    dsimp only [zstL] at hs
    split at hs
    · next hg =>
      cases hs
      obtain ⟨v, g, e⟩ := yget hl hg
      rw [yv_c e rfl] at g
      exact ⟨rfl, _, _, hl, y0 (yv_r rfl) hst, fun _ => by dsimp only [zstL]; rw [g]⟩
    · cases hs
  | iload k =>
    dsimp only [zstL] at hs
    split at hs
    · next hg =>
      cases hs
      obtain ⟨v, g, e⟩ := yget hl hg
      rw [yv_c e rfl] at g
      exact ⟨rfl, _, _, hl, y0 (yv_r rfl) hst, fun _ => by dsimp only [zstL]; rw [g]⟩
    · cases hs
  | lload_n k =>
    dsimp only [zstL] at hs
    split at hs
    · next hg =>
      cases hs
      obtain ⟨v, g, e⟩ := yget hl hg
      rw [yv_c e rfl] at g
      exact ⟨rfl, _, _, hl, y0 (yv_r rfl) hst, fun _ => by dsimp only [zstL]; rw [g]⟩
    · cases hs
  | lload k =>
    dsimp only [zstL] at hs
    split at hs
    · next hg =>
      cases hs
      obtain ⟨v, g, e⟩ := yget hl hg
      rw [yv_c e rfl] at g
      exact ⟨rfl, _, _, hl, y0 (yv_r rfl) hst, fun _ => by dsimp only [zstL]; rw [g]⟩
    · cases hs
  | aload_n k =>
    dsimp only [zstL] at hs
    split at hs
    · next hg =>
      cases hs
      obtain ⟨v, g, e⟩ := yget hl hg
      rw [yv_c e rfl] at g
      exact ⟨rfl, _, _, hl, y0 (yv_r rfl) hst, fun _ => by dsimp only [zstL]; rw [g]⟩
    · next hg =>
      cases hs
      obtain ⟨v, g, e⟩ := yget hl hg
      rw [yv_c e rfl] at g
      exact ⟨rfl, _, _, hl, y0 (yv_r rfl) hst, fun _ => by dsimp only [zstL]; rw [g]⟩
    · next hg =>
      cases hs
      obtain ⟨v, g, e⟩ := yget hl hg
      rw [yv_c e rfl] at g
      exact ⟨rfl, _, _, hl, y0 (yv_r rfl) hst, fun _ => by dsimp only [zstL]; rw [g]⟩
    · cases hs
  | aload k =>
    dsimp only [zstL] at hs
    split at hs
    · next hg =>
      cases hs
      obtain ⟨v, g, e⟩ := yget hl hg
      rw [yv_c e rfl] at g
      exact ⟨rfl, _, _, hl, y0 (yv_r rfl) hst, fun _ => by dsimp only [zstL]; rw [g]⟩
    · next hg =>
      cases hs
      obtain ⟨v, g, e⟩ := yget hl hg
      rw [yv_c e rfl] at g
      exact ⟨rfl, _, _, hl, y0 (yv_r rfl) hst, fun _ => by dsimp only [zstL]; rw [g]⟩
    · next hg =>
      cases hs
      obtain ⟨v, g, e⟩ := yget hl hg
      rw [yv_c e rfl] at g
      exact ⟨rfl, _, _, hl, y0 (yv_r rfl) hst, fun _ => by dsimp only [zstL]; rw [g]⟩
    · cases hs
  | istore_n k =>
    dsimp only [zstL] at hs
    split at hs
    · obtain ⟨c1, rfl, h1⟩ := y1 hst (fun _ h => h)
      split at hs
      · next q =>
        cases hs
        exact ⟨rfl, _, _, yset1 hl (yv_r rfl), h1, fun _ => by dsimp only [zstL]; rw [if_pos q]⟩
      · cases hs
    · cases hs
  | istore k =>
    dsimp only [zstL] at hs
    split at hs
    · obtain ⟨c1, rfl, h1⟩ := y1 hst (fun _ h => h)
      split at hs
      · next q =>
        cases hs
        exact ⟨rfl, _, _, yset1 hl (yv_r rfl), h1, fun _ => by dsimp only [zstL]; rw [if_pos q]⟩
      · cases hs
    · cases hs
  | lstore_n k =>
    dsimp only [zstL] at hs
    split at hs
    · obtain ⟨c1, rfl, h1⟩ := y1 hst (fun _ h => h)
      split at hs
      · next q =>
        cases hs
        exact ⟨rfl, _, _, yset2 hl (yv_r rfl), h1, fun _ => by dsimp only [zstL]; rw [if_pos q]⟩
      · cases hs
    · cases hs
  | lstore k =>
    dsimp only [zstL] at hs
    split at hs
    · obtain ⟨c1, rfl, h1⟩ := y1 hst (fun _ h => h)
      split at hs
      · next q =>
        cases hs
        exact ⟨rfl, _, _, yset2 hl (yv_r rfl), h1, fun _ => by dsimp only [zstL]; rw [if_pos q]⟩
      · cases hs
    · cases hs
  | astore_n k =>
    dsimp only [zstL] at hs
    split at hs
    · obtain ⟨c1, rfl, h1⟩ := y1 hst (fun _ h => h)
      split at hs
      · next q =>
        cases hs
        exact ⟨rfl, _, _, yset1 hl (yv_r rfl), h1, fun _ => by dsimp only [zstL]; rw [if_pos q]⟩
      · cases hs
    · cases hs
  | astore k =>
    dsimp only [zstL] at hs
    split at hs
    · obtain ⟨c1, rfl, h1⟩ := y1 hst (fun _ h => h)
      split at hs
      · next q =>
        cases hs
        exact ⟨rfl, _, _, yset1 hl (yv_r rfl), h1, fun _ => by dsimp only [zstL]; rw [if_pos q]⟩
      · cases hs
    · cases hs
  | iinc k n =>
    dsimp only [zstL] at hs
    split at hs
    · next hg =>
      obtain ⟨v, g, e⟩ := yget hl hg
      rw [yv_c e rfl] at g
      split at hs
      · next q =>
        cases hs
        exact ⟨rfl, _, _, yset1 hl (yv_r rfl), hst, fun _ => by dsimp only [zstL]; rw [g]; dsimp only; rw [if_pos q]⟩
      · cases hs
    · cases hs
  | _ => exact nomatch (show (none : Option (Nat × zL × List Value × zH)) = some _ from hs)
