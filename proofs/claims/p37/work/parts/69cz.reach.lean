/-! Joined: 69cz.reach, 69d.clstext, 69e.feed, 69f.ride, 69g.notes, 69h.rows. -/
section
/-! What a call can't reach it leaves as it is. A: addresses that may be reached. -/
def vA (A : Nat → Prop) (v : Value) : Prop := ∀ b : Nat, v = .ref b → A b
theorem vA_ref {A : Nat → Prop} {a : Nat} (h : vA A (.ref a)) : A a := h a rfl
theorem vA_of {A : Nat → Prop} {a : Nat} (h : A a) : vA A (.ref a) := fun _ q => by cases q; exact h
theorem vA_int {A : Nat → Prop} {x : Int32} : vA A (.int x) := fun _ q => by cases q
theorem vA_long {A : Nat → Prop} {x : Int64} : vA A (.long x) := fun _ q => by cases q
theorem vA_ra {A : Nat → Prop} {x : Nat} : vA A (.retAddr x) := fun _ q => by cases q
theorem vA_null {A : Nat → Prop} : vA A .null := fun _ q => by cases q
def sA (A : Nat → Prop) (st : List Value) : Prop := ∀ v ∈ st, vA A v
theorem sA_nil {A : Nat → Prop} : sA A [] := fun _ q => by cases q
theorem sA_hd {A : Nat → Prop} {v : Value} {st : List Value} (h : sA A (v :: st)) : vA A v := h v (List.mem_cons_self ..)
theorem sA_tl {A : Nat → Prop} {v : Value} {st : List Value} (h : sA A (v :: st)) : sA A st := fun w hw => h w (List.mem_cons_of_mem _ hw)
theorem sA_t2 {A : Nat → Prop} {v w : Value} {st : List Value} (h : sA A (v :: w :: st)) : sA A st := sA_tl (sA_tl h)
theorem sA_t3 {A : Nat → Prop} {v w x : Value} {st : List Value} (h : sA A (v :: w :: x :: st)) : sA A st := sA_tl (sA_t2 h)
theorem sA_cs {A : Nat → Prop} {v : Value} {st : List Value} (h1 : vA A v) (h : sA A st) : sA A (v :: st) := fun w hw => by
  rcases List.mem_cons.mp hw with rfl | hw
  · exact h1
  · exact h w hw
theorem sA_i {A : Nat → Prop} {x : Int32} {st : List Value} (h : sA A st) : sA A (.int x :: st) := sA_cs vA_int h
theorem sA_l {A : Nat → Prop} {x : Int64} {st : List Value} (h : sA A st) : sA A (.long x :: st) := sA_cs vA_long h
theorem sA_d2 {A : Nat → Prop} {x : Int32} {a : Nat} {st : List Value} (h : sA A (.int x :: .ref a :: st)) : sA A (.int x :: .ref a :: .int x :: .ref a :: st) := sA_i (sA_cs (sA_hd (sA_tl h)) h)
theorem sA_d1 {A : Nat → Prop} {v : Value} {st : List Value} (h : sA A (v :: st)) : sA A (v :: v :: st) := sA_cs (sA_hd h) h
theorem sA_dr {A : Nat → Prop} {n : Nat} {st : List Value} (h : sA A st) : sA A (st.drop n) := fun w hw => h w (List.mem_of_mem_drop hw)
theorem sA_tk {A : Nat → Prop} {n : Nat} {st : List Value} (h : sA A st) : sA A (st.take n).reverse := fun w hw => h w (List.mem_of_mem_take (List.mem_reverse.mp hw))
def lRc (A : Nat → Prop) (ls : zL) : Prop := ∀ q ∈ ls, vA A q.2
theorem lRc_get {A : Nat → Prop} {ls : zL} {i : Nat} {v : Value} (h : lRc A ls) (e : zget ls i = some v) : vA A v := by
  unfold zget at e
  cases hf : ls.find? (fun q => q.1 == i) with
  | none => rw [hf] at e; cases e
  | some q =>
    rw [hf] at e
    cases e
    exact h q (List.mem_of_find?_eq_some hf)
theorem lRc_s1 {A : Nat → Prop} {ls : zL} {i : Nat} {v : Value} (h : lRc A ls) (hv : vA A v) : lRc A (zset1 ls i v) := fun q hq => by
  rcases List.mem_cons.mp hq with rfl | hq
  · exact hv
  · exact h q (List.mem_filter.mp hq).1
theorem lRc_s2 {A : Nat → Prop} {ls : zL} {i : Nat} {v : Value} (h : lRc A ls) (hv : vA A v) : lRc A (zset2 ls i v) := fun q hq => by
  rcases List.mem_cons.mp hq with rfl | hq
  · exact hv
  · exact h q (List.mem_filter.mp hq).1
theorem lRc_args {A : Nat → Prop} : ∀ (as : List Value) (i : Nat), sA A as → lRc A (lv_args i as)
  | [], _, _ => fun _ q => by cases q
  | v :: as, i, h => fun q hq => by
    rcases List.mem_cons.mp hq with rfl | hq
    · exact sA_hd h
    · exact lRc_args as _ (sA_tl h) q hq
/-- heaps: what is reached holds what is reached; the rest is as in h0 -/
def hA (A : Nat → Prop) (h0 h : zH) : Prop := (∀ a k b : Nat, A a → rd h a k = some (.ref b) → A b) ∧ (∀ b : Nat, h.length ≤ b → A b) ∧ ∀ a : Nat, ¬ A a → h[a]? = h0[a]?
theorem hA_set {A : Nat → Prop} {h0 h : zH} {a : Nat} {e0 e : zE} (H : hA A h0 h) (ha : A a) (he : h[a]? = some e0) (hn : ∀ k b : Nat, rd [e] 0 k = some (.ref b) → A b) : hA A h0 (h.set a e) := by
  refine ⟨fun a' k b h1 h2 => ?_, fun b hb => H.2.1 b (by rwa [List.length_set] at hb), fun b hb => ?_⟩
  · rw [rd_set he] at h2
    split at h2
    · exact hn k b h2
    · exact H.1 a' k b h1 h2
  · rw [xget_set he, if_neg (fun q : b = a => hb (by rw [q]; exact ha))]
    exact H.2.2 b hb
theorem hA_i {A : Nat → Prop} {h0 h : zH} {a t t' : Nat} {l l' : List Int32} (H : hA A h0 h) (ha : vA A (.ref a)) (he : h[a]? = some (t, .inl l)) : hA A h0 (h.set a (t', .inl l')) := hA_set H (vA_ref ha) he (fun k b q => by
  have q : l'[k]?.map Value.int = some (.ref b) := q
  cases hq : l'[k]? <;> (rw [hq] at q; cases q))
theorem hA_l {A : Nat → Prop} {h0 h : zH} {a t t' : Nat} {l l' : List Int64} (H : hA A h0 h) (ha : vA A (.ref a)) (he : h[a]? = some (t, .inr (.inl l))) : hA A h0 (h.set a (t', .inr (.inl l'))) := hA_set H (vA_ref ha) he (fun k b q => by
  have q : l'[k]?.map Value.long = some (.ref b) := q
  cases hq : l'[k]? <;> (rw [hq] at q; cases q))
theorem hA_r {A : Nat → Prop} {h0 h : zH} {a t t' i x : Nat} {l : List (Option Nat)} (H : hA A h0 h) (ha : vA A (.ref a)) (hx : vA A (.ref x)) (he : h[a]? = some (t, .inr (.inr (.inl l)))) : hA A h0 (h.set a (t', .inr (.inr (.inl (l.set i (some x)))))) := hA_set H (vA_ref ha) he (fun k b q => by
  have q : (l.set i (some x))[k]?.map zrv = some (.ref b) := q
  have o : ∀ {w : Option Nat}, w = some b → l[k]? = some w → A b := fun hw hl => H.1 a k b (vA_ref ha) (by unfold rd; rw [he]; show l[k]?.map zrv = _; rw [hl, hw]; rfl)
  by_cases hk : i = k
  · subst hk
    rcases Nat.lt_or_ge i l.length with g | g
    · rw [List.getElem?_set_self g] at q
      cases q
      exact vA_ref hx
    · rw [List.getElem?_eq_none (by rw [List.length_set]; exact g)] at q
      cases q
  · rw [List.getElem?_set_ne hk] at q
    cases hq : l[k]? with
    | none => rw [hq] at q; cases q
    | some w =>
      rw [hq] at q
      cases w with
      | none => cases q
      | some w => cases q; exact o rfl hq)
theorem hA_o {A : Nat → Prop} {h0 h : zH} {a t t' i : Nat} {l : List Value} {v : Value} (H : hA A h0 h) (ha : vA A (.ref a)) (hx : vA A v) (he : h[a]? = some (t, .inr (.inr (.inr l)))) : hA A h0 (h.set a (t', .inr (.inr (.inr (l.set i v))))) := hA_set H (vA_ref ha) he (fun k b q => by
  have q : (l.set i v)[k]? = some (.ref b) := q
  by_cases hk : i = k
  · subst hk
    rcases Nat.lt_or_ge i l.length with g | g
    · rw [List.getElem?_set_self g] at q
      cases q
      exact vA_ref hx
    · rw [List.getElem?_eq_none (by rw [List.length_set]; exact g)] at q
      cases q
  · rw [List.getElem?_set_ne hk] at q
    exact H.1 a k b (vA_ref ha) (by unfold rd; rw [he]; exact q))
theorem hA_push {A : Nat → Prop} {h0 h : zH} {e : zE} (H : hA A h0 h) (hn : ∀ k b : Nat, ¬ rd [e] 0 k = some (.ref b)) : hA A h0 (h ++ [e]) := by
  refine ⟨fun a k b h1 h2 => ?_, fun b hb => H.2.1 b (by rw [List.length_append] at hb; omega), fun b hb => ?_⟩
  · rcases Nat.lt_or_ge a h.length with q | q
    · refine H.1 a k b h1 ?_
      unfold rd at h2 ⊢
      rwa [List.getElem?_append_left q] at h2
    · exfalso
      unfold rd at h2
      rw [List.getElem?_append_right q] at h2
      by_cases e1 : a - h.length = 0
      · rw [e1] at h2
        exact hn k b h2
      · rw [List.getElem?_eq_none (by simp; omega)] at h2
        cases h2
  · rcases Nat.lt_or_ge b h.length with q | q
    · rw [List.getElem?_append_left q]; exact H.2.2 b hb
    · exact absurd (H.2.1 b q) hb
theorem hA_pi {A : Nat → Prop} {h0 h : zH} {u : Nat} {l : List Int32} (H : hA A h0 h) : hA A h0 (h ++ [(u, .inl l)]) := hA_push H (fun k b q => by
  have q : l[k]?.map Value.int = some (.ref b) := q
  cases hq : l[k]? <;> (rw [hq] at q; cases q))
theorem hA_pl {A : Nat → Prop} {h0 h : zH} {u : Nat} {l : List Int64} (H : hA A h0 h) : hA A h0 (h ++ [(u, .inr (.inl l))]) := hA_push H (fun k b q => by
  have q : l[k]?.map Value.long = some (.ref b) := q
  cases hq : l[k]? <;> (rw [hq] at q; cases q))
theorem hA_pr {A : Nat → Prop} {h0 h : zH} {u n : Nat} (H : hA A h0 h) : hA A h0 (h ++ [(u, .inr (.inr (.inl (List.replicate n none))))]) := hA_push H (fun k b q => by
  have q : (List.replicate n (none : Option Nat))[k]?.map zrv = some (.ref b) := q
  rcases Nat.lt_or_ge k n with g | g
  · rw [List.getElem?_replicate_of_lt g] at q; cases q
  · rw [List.getElem?_eq_none (by simp; omega)] at q; cases q)
def noref (v : Value) : Bool := match v with
  | .ref _ => false
  | _ => true
theorem noref_ok {v : Value} {A : Nat → Prop} (h : noref v = true) : vA A v := fun b q => by subst q; cases h
theorem znew_nr : (List.range 20).all (fun c => (List.range 1200).all (fun j => match znewT c j with
  | none => true
  | some q => q.2.all noref)) = true := by decide +kernel
theorem znew_nref {c j ci : Nat} {fs : List Value} (h : znewT c j = some (ci, fs)) : fs.all noref = true := by
  have hc : c < 20 := by
    rcases Nat.lt_or_ge c 20 with q | q
    · exact q
    · unfold znewT at h
      rw [show Nat.ble 20 c = true from Nat.ble_eq_true_of_le q] at h
      cases h
  have hj : j < 1200 := by
    rcases Nat.lt_or_ge j 1200 with q | q
    · exact q
    · unfold znewT at h
      rw [show Nat.ble 1200 j = true from Nat.ble_eq_true_of_le q] at h
      cases hb : Nat.ble 20 c <;> (rw [hb] at h; cases h)
  have h1 := List.all_eq_true.mp (List.all_eq_true.mp znew_nr c (List.mem_range.mpr hc)) j (List.mem_range.mpr hj)
  rw [h] at h1
  exact h1
theorem hA_po {A : Nat → Prop} {h0 h : zH} {c j u : Nat} {fs : List Value} (H : hA A h0 h) (hn : znewT c j = some (u, fs)) : hA A h0 (h ++ [(u, .inr (.inr (.inr fs)))]) := hA_push H (fun k b q => by
  have q : fs[k]? = some (.ref b) := q
  have := List.all_eq_true.mp (znew_nref hn) _ (List.mem_of_getElem? q)
  cases this)
theorem hA_gf {A : Nat → Prop} {h0 h : zH} {a t k : Nat} {l : List Value} {v : Value} (H : hA A h0 h) (ha : vA A (.ref a)) (he : h[a]? = some (t, .inr (.inr (.inr l)))) (hv : l[k]? = some v) : vA A v := fun b q => H.1 a k b (vA_ref ha) (by unfold rd; rw [he]; show l[k]? = _; rw [hv, q])
theorem hA_ga {A : Nat → Prop} {h0 h : zH} {a t : Nat} {i : Int32} {l : List (Option Nat)} (H : hA A h0 h) (ha : vA A (.ref a)) (he : h[a]? = some (t, .inr (.inr (.inl l)))) : vA A (zrv (l.getD i.toNatClampNeg none)) := fun b q => by
  rw [List.getD_eq_getElem?_getD] at q
  cases hl : l[i.toNatClampNeg]? with
  | none => rw [hl] at q; cases q
  | some w =>
    rw [hl] at q
    exact H.1 a i.toNatClampNeg b (vA_ref ha) (by unfold rd; rw [he]; show l[i.toNatClampNeg]?.map zrv = _; rw [hl]; exact congrArg some q)
theorem zxg_nr {c j e : Nat} {v : Value} {A : Nat → Prop} (h : zxgT c j e = some v) : vA A v := by
  unfold zxgT at h
  simp only [cond_eq_ite] at h
  repeat' (first | (cases h; exact vA_ra) | (cases h; exact vA_int) | split at h | cases h)
theorem zsta_nr {nf : Bool} {c j : Nat} {v : Value} {A : Nat → Prop} (h : zstaT nf c j = some v) : vA A v := by
  unfold zstaT at h
  simp only [cond_eq_ite] at h
  repeat' (first | (cases h; exact vA_ra) | (cases h; exact vA_int) | (cases h; exact vA_null) | (cases h; split <;> first | exact vA_null | exact vA_ra) | split at h | cases h)
theorem zjump_A {A : Nat → Prop} {pc : Nat} {off : Int} {ls : zL} {st : List Value} {h : zH} {pc' : Nat} {ls' : zL} {st' : List Value} {h' : zH} (e : zjump pc off ls st h = some (pc', ls', st', h')) (hs : sA A st) (hl : lRc A ls) : sA A st' ∧ lRc A ls' := by
  obtain ⟨-, e1, e2, -⟩ := zjump_of e
  rw [e1, e2]
  exact ⟨hs, hl⟩
theorem zbr_A {A : Nat → Prop} {b : Bool} {pc : Nat} {off : Int} {ls : zL} {st : List Value} {h : zH} {pc' : Nat} {ls' : zL} {st' : List Value} {h' : zH} (e : zbr b pc off ls st h = some (pc', ls', st', h')) (hs : sA A st) (hl : lRc A ls) : sA A st' ∧ lRc A ls' := by
  obtain ⟨_, -, e1, e2, -, -⟩ := zbr_of e
  rw [e1, e2]
  exact ⟨hs, hl⟩
set_option maxHeartbeats 8000000 in
theorem zstI_A {A : Nat → Prop} {X : zX} {i : Instr} {pc : Nat} {ls : zL} {st : List Value} {h : zH} {pc' : Nat} {ls' : zL} {st' : List Value} {h' : zH} (hs : zstI X i pc ls st h = some (pc', ls', st', h')) (h1 : sA A st) (h2 : lRc A ls) : sA A st' ∧ lRc A ls' := by
  unfold zstI at hs
  split at hs
  all_goals (try (exact zjump_A hs h1 h2))
  all_goals (try (split at hs))
  all_goals (try (split at hs))
  all_goals (try (exact zjump_A hs (sA_tl h1) h2))
  all_goals (try (split at hs))
  all_goals (try (exact zjump_A hs (sA_tl h1) h2))
  all_goals (try (exact zbr_A hs (sA_tl h1) h2))
  all_goals (try (exact zbr_A hs (sA_t2 h1) h2))
  all_goals first
    | (cases hs; exact ⟨sA_i (sA_t2 h1), h2⟩)
    | (cases hs; exact ⟨sA_i (sA_tl h1), h2⟩)
    | (cases hs; exact ⟨sA_l (sA_t2 h1), h2⟩)
    | (cases hs; exact ⟨sA_l (sA_tl h1), h2⟩)
    | (cases hs; exact ⟨sA_d1 h1, h2⟩)
    | (cases hs; exact ⟨sA_d2 h1, h2⟩)
    | (cases hs; exact ⟨sA_tl h1, h2⟩)
    | cases hs
set_option maxHeartbeats 8000000 in
theorem zstL_A {A : Nat → Prop} {nL : Nat} {i : Instr} {pc : Nat} {ls : zL} {st : List Value} {h : zH} {pc' : Nat} {ls' : zL} {st' : List Value} {h' : zH} (hs : zstL nL i pc ls st h = some (pc', ls', st', h')) (h1 : sA A st) (h2 : lRc A ls) : sA A st' ∧ lRc A ls' := by
  unfold zstL at hs
  split at hs
  all_goals (try (split at hs))
  all_goals (try (split at hs))
  all_goals first
    | (cases hs; exact ⟨sA_i h1, h2⟩)
    | (cases hs; exact ⟨sA_l h1, h2⟩)
    | (cases hs; exact ⟨sA_cs (lRc_get h2 (by assumption)) h1, h2⟩)
    | (cases hs; exact ⟨sA_tl h1, lRc_s1 h2 (sA_hd h1)⟩)
    | (cases hs; exact ⟨sA_tl h1, lRc_s2 h2 (sA_hd h1)⟩)
    | (cases hs; exact ⟨h1, lRc_s1 h2 vA_int⟩)
    | cases hs
set_option maxHeartbeats 16000000 in
theorem zstH_A {A : Nat → Prop} {nf : Bool} {xs : List Int32} {ini : Bool} {c : Nat} {i : Instr} {pc : Nat} {ls : zL} {st : List Value} {h0 h : zH} {pc' : Nat} {ls' : zL} {st' : List Value} {h' : zH} (hs : zstH (zXt nf xs) ini c i pc ls st h = some (pc', ls', st', h')) (h1 : sA A st) (h2 : lRc A ls) (H : hA A h0 h) : sA A st' ∧ lRc A ls' ∧ hA A h0 h' := by
  have hN : A h.length := H.2.1 _ (Nat.le_refl _)
  unfold zstH at hs
  split at hs
  all_goals (try (split at hs))
  all_goals (try (split at hs))
  all_goals (try (split at hs))
  all_goals (try (split at hs))
  all_goals first
    | (cases hs; exact ⟨sA_i (sA_t2 h1), h2, H⟩)
    | (cases hs; exact ⟨sA_i (sA_tl h1), h2, H⟩)
    | (cases hs; exact ⟨sA_l (sA_t2 h1), h2, H⟩)
    | (cases hs; exact ⟨sA_i h1, h2, H⟩)
    | (cases hs; exact ⟨sA_l h1, h2, H⟩)
    | (cases hs; exact ⟨sA_cs vA_ra h1, h2, H⟩)
    | (cases hs; exact ⟨sA_cs (hA_gf H (sA_hd h1) (by assumption) (by assumption)) (sA_tl h1), h2, H⟩)
    | (cases hs; exact ⟨sA_cs (zxg_nr (by assumption)) (sA_tl h1), h2, H⟩)
    | (cases hs; exact ⟨sA_cs (zsta_nr (by assumption)) h1, h2, H⟩)
    | (cases hs; exact ⟨sA_cs (hA_ga H (sA_hd (sA_tl h1)) (by assumption)) (sA_t2 h1), h2, H⟩)
    | (cases hs; exact ⟨sA_t2 h1, h2, hA_o H (sA_hd (sA_tl h1)) (sA_hd h1) (by assumption)⟩)
    | (cases hs; exact ⟨sA_t3 h1, h2, hA_i H (sA_hd (sA_t2 h1)) (by assumption)⟩)
    | (cases hs; exact ⟨sA_t3 h1, h2, hA_l H (sA_hd (sA_t2 h1)) (by assumption)⟩)
    | (cases hs; exact ⟨sA_t3 h1, h2, hA_r H (sA_hd (sA_t2 h1)) (sA_hd h1) (by assumption)⟩)
    | (cases hs; exact ⟨sA_cs (vA_of hN) h1, h2, hA_po H (by assumption)⟩)
    | (cases hs; exact ⟨sA_cs (vA_of hN) (sA_tl h1), h2, hA_pi H⟩)
    | (cases hs; exact ⟨sA_cs (vA_of hN) (sA_tl h1), h2, hA_pl H⟩)
    | (cases hs; exact ⟨sA_cs (vA_of hN) (sA_tl h1), h2, hA_pr H⟩)
    | cases hs
theorem zstep_A {A : Nat → Prop} {nf : Bool} {xs : List Int32} {nL : Nat} {ini : Bool} {c : Nat} {i : Instr} {pc : Nat} {ls : zL} {st : List Value} {h0 h : zH} {pc' : Nat} {ls' : zL} {st' : List Value} {h' : zH} (hs : zstep (zXt nf xs) nL ini c i pc ls st h = some (pc', ls', st', h')) (h1 : sA A st) (h2 : lRc A ls) (H : hA A h0 h) : sA A st' ∧ lRc A ls' ∧ hA A h0 h' := by
  unfold zstep at hs
  split at hs
  · next q =>
    cases hs
    rw [zstI_h q]
    exact ⟨(zstI_A q h1 h2).1, (zstI_A q h1 h2).2, H⟩
  · split at hs
    · next q =>
      cases hs
      rw [zstL_h q]
      exact ⟨(zstL_A q h1 h2).1, (zstL_A q h1 h2).2, H⟩
    · exact zstH_A hs h1 h2 H
theorem zret_A {A : Nat → Prop} {rt : Option FieldType} {i : Instr} {st : List Value} {r : Option Value} (hs : zret rt i st = some r) (h1 : sA A st) : sA A r.toList := by
  unfold zret at hs
  split at hs
  all_goals (try (split at hs))
  all_goals (try (split at hs))
  all_goals first
    | (cases hs; exact h1)
    | (cases hs; exact sA_nil)
    | cases hs
theorem zobj_A {A : Nat → Prop} {I : zI} {c : Nat} {i : Instr} {st rest : List Value} (hs : zobjI I c i st = some rest) (h1 : sA A st) : sA A rest := by
  unfold zobjI at hs
  split at hs
  all_goals (try (split at hs))
  all_goals (try (split at hs))
  all_goals first
    | (cases hs; exact sA_tl h1)
    | (cases hs; exact sA_i (sA_t2 h1))
    | (cases hs; exact sA_i (sA_tl h1))
    | (cases hs; exact sA_l (sA_t2 h1))
    | (cases hs; exact sA_l (sA_tl h1))
    | cases hs
theorem zcall_A {A : Nat → Prop} {X : zX} {I : zI} {mcl : Nat → Nat} {c mi : Nat} {i : Instr} {st as rest : List Value} {h : zH} (hs : zcall X I mcl c i st h = some (mi, as, rest)) (h1 : sA A st) : sA A as ∧ sA A rest := by
  unfold zcall at hs
  have k : ∀ {n : Nat} {v : Value} {r : List Value}, st.drop n = v :: r → vA A v ∧ sA A r := fun {n v r} e => by
    have := sA_dr (n := n) h1
    rw [e] at this
    exact ⟨sA_hd this, sA_tl this⟩
  split at hs
  all_goals (try (split at hs))
  all_goals (try (split at hs))
  all_goals (try (split at hs))
  all_goals (try (split at hs))
  all_goals first
    | (cases hs; exact ⟨sA_tk h1, sA_dr h1⟩)
    | (cases hs; exact ⟨sA_cs (k (by assumption)).1 (sA_tk h1), (k (by assumption)).2⟩)
    | cases hs
theorem sA_app {A : Nat → Prop} {s t : List Value} (h1 : sA A s) (h2 : sA A t) : sA A (s ++ t) := fun v hv => by
  rcases List.mem_append.mp hv with q | q
  · exact h1 v q
  · exact h2 v q
theorem zRun_rc {A : Nat → Prop} {nf : Bool} {xs : List Int32} {I : zI} {mcl : Nat → Nat} {C : zC} {c : Nat} {ini : Bool} {nL : Nat} {rt : Option FieldType} {tab : Nat → Option (Instr × Nat)} {h0 : zH} (hC : ∀ mi as h r h', C mi as h r h' → sA A as → hA A h0 h → sA A r.toList ∧ hA A h0 h') : ∀ (n pc : Nat) (ls : zL) (st : List Value) (h : zH) (r : Option Value) (h' : zH), zRun (zXt nf xs) I mcl C c ini nL rt tab n pc ls st h r h' → sA A st → lRc A ls → hA A h0 h → sA A r.toList ∧ hA A h0 h' := by
  intro n
  induction n with
  | zero => intro pc ls st h r h' q; exact q.elim
  | succ n ih =>
    intro pc ls st h r h' q h1 h2 H
    obtain ⟨i, len, -, q⟩ := q
    rcases q with ⟨q, rfl⟩ | ⟨pc1, ls1, st1, hh, q1, q2⟩ | ⟨rest, q1, q2⟩ | ⟨mi, as, rest, r1, hh, q0, q1, q2⟩
    · exact ⟨zret_A q h1, H⟩
    · obtain ⟨a1, a2, a3⟩ := zstep_A q1 h1 h2 H
      exact ih _ _ _ _ _ _ q2 a1 a2 a3
    · exact ih _ _ _ _ _ _ q2 (zobj_A q1 h1) h2 H
    · obtain ⟨a1, a2⟩ := zcall_A q0 h1
      obtain ⟨a3, a4⟩ := hC _ _ _ _ _ q1 a1 H
      exact ih _ _ _ _ _ _ q2 (sA_app a3 a2) h2 a4
theorem zEv_rc {A : Nat → Prop} {nf : Bool} {xs : List Int32} {I : zI} {mcl : Nat → Nat} {mt : zM} {h0 : zH} : ∀ (d mi : Nat) (as : List Value) (h : zH) (r : Option Value) (h' : zH), zEv (zXt nf xs) I mcl mt d mi as h r h' → sA A as → hA A h0 h → sA A r.toList ∧ hA A h0 h' := by
  intro d
  induction d with
  | zero => intro mi as h r h' q; exact q.elim
  | succ d ih =>
    intro mi as h r h' q h1 H
    obtain ⟨c, ini, nL, rt, tab, n, -, -, q⟩ := q
    exact zRun_rc ih _ _ _ _ _ _ _ q sA_nil (lRc_args _ _ h1) H
/-- what a call leaves: all cells from which it is kept away -/
theorem zEv_reach {A : Nat → Prop} {nf : Bool} {xs : List Int32} {I : zI} {mcl : Nat → Nat} {mt : zM} {d mi : Nat} {as : List Value} {h : zH} {r : Option Value} {h' : zH} (q : zEv (zXt nf xs) I mcl mt d mi as h r h') (h1 : sA A as) (hc : ∀ a k b : Nat, A a → rd h a k = some (.ref b) → A b) (hN : ∀ b : Nat, h.length ≤ b → A b) : ∀ a : Nat, ¬ A a → h'[a]? = h[a]? := (zEv_rc d mi as h r h' q h1 ⟨hc, hN, fun _ _ => rfl⟩).2.2.2
end
section
/-! The class: a whole text. -/
theorem GR_xgu {G : xG} {P a k x : Nat} (h : GR G P) (h7 : 7 ≤ P) (ha : a = 0 ∨ a = 3 ∨ (a = 55 ∧ k = 2)) : GR (xgu G a k x) P := by
  obtain ⟨h1, h2, h3, h4, h5, h6, h8, h9, h10, h11⟩ := h
  exact ⟨(xgu_oth (by omega)).trans h1, (xgu_oth (by omega)).trans h2, fun j hj => ⟨(xgu_oth (by omega)).trans (h3 j hj).1, (xgu_oth (by omega)).trans (h3 j hj).2⟩, (xgu_oth (by omega)).trans h4, (xgu_oth (by omega)).trans h5, (xgu_oth (by omega)).trans h6, (xgu_oth (by omega)).trans h8, h9, h10, h11⟩
/-- the class's cells: plan at P0, spare at P -/
def GC (G : xG) (P P0 : Nat) : Prop := GP (xgu G 3 1 1) P ∧ GR G P ∧ G.1 0 0 = some 1 ∧ G.1 0 4 = some 2 ∧ G.1 0 5 = some P0 ∧ G.1 0 6 = some P ∧ G.1 0 7 = some 55 ∧ G.1 0 13 = some 116 ∧ G.1 0 14 = some 120
/-- what reading into the plan at P can reach -/
def RA (G : xG) (P : Nat) (a : Nat) : Prop := (1 ≤ a ∧ a ≤ 6) ∨ (P ≤ a ∧ a < P + 24) ∨ G.2 a = (0, 9, 0)
def RC (G : xG) (P : Nat) : Prop := ∀ a k b : Nat, RA G P a → G.1 a k = some b → RA G P b
theorem CG.reach {nf : Bool} {xs : List Int32} {d mi : Nat} {as : List Value} {m : xM} {g : xL} {G : xG} {Q : Option Value → xM → xL → xG → Prop} {A : Nat → Prop} (hc : CG nf xs d mi as m g G Q) (hA : sA A as) (hcl : ∀ a k b : Nat, A a → G.1 a k = some b → A b) (hf : ∀ a : Nat, G.2 a = (0, 9, 0) → A a) : CG nf xs d mi as m g G (fun r m' g' G' => Q r m' g' G' ∧ ∀ a : Nat, ¬ A a → m' a = m a ∧ g' a = g a) := by
  intro h r h' hs q
  obtain ⟨m', g', G', hs', hq⟩ := hc h r h' hs q
  refine ⟨m', g', G', hs', hq, fun a ha => ?_⟩
  have hr := zEv_reach q hA (fun a k b h1 h2 => hcl a k b h1 (by
    rw [← hs.2.2.2.1]
    show xr (rd h a k) = some b
    rw [h2]
    rfl)) (fun b hb => hf b (by
    rw [← hs.2.2.2.2]
    show xsh h[b]? = _
    rw [List.getElem?_eq_none hb]
    rfl)) a ha
  rw [← hs'.2.1, ← hs.2.1, ← hs'.2.2.1, ← hs.2.2.1]
  refine ⟨funext fun k => ?_, funext fun k => ?_⟩
  · show xi (rd h' a k) = xi (rd h a k)
    unfold rd
    rw [hr]
  · show xl (rd h' a k) = xl (rd h a k)
    unfold rd
    rw [hr]
/-- how a text ends in the class -/
def TC (B : eB) (P P0 : Nat) (G : xG) (m : xM) (g : xL) : Option Value → xM → xL → xG → Prop := fun r m' g' G' => ∃ (f : Nat) (o : (Nat × Nat) ⊕ (eS × Nat)), lnsF B f eS0 0 = some o ∧ match o with
  | .inl e => r = some (.int (-1)) ∧ m' 0 2 = Int32.ofNat e.1 ∧ m' 0 3 = Int32.ofNat (tP B e.2) ∧ G' = xgu G 3 1 1 ∧ m' 0 11 = m 0 11 ∧ ∀ a : Nat, ¬ RA G P a → ¬ a = 0 → m' a = m a ∧ g' a = g a
  | .inr p => r = some (.int (Int32.ofNat p.2)) ∧ m' 0 2 = 0 ∧ m' 0 3 = -1 ∧ G' = xgu (xgu (xgu (xgu G 3 1 1) 0 5 P) 0 6 P0) 55 2 P ∧ (m' 55 3 = Int32.ofNat (p.1.1 1).length ∧ m' 55 4 = 0 ∧ m' 55 5 = 0 ∧ m' 0 11 = 0 ∧ m' 116 3 = 0 ∧ m' 120 5 = 0 ∧ m' 120 6 = -1 ∧ m' P 10 = tpV 30 (p.1.1 0) ∧ (∀ i : Nat, i < (p.1.1 1).length → m' (58 + 2 * i) 2 = ((p.1.1 1).getD i []).getD 3 0 ∧ m' (58 + 2 * i) 4 = 0) ∧ ∀ j : Nat, j < 6 → g' 57 j = tlF (p.1.1 3) j 0) ∧ ∀ w : Nat, w < 8 → tbC (P + 1 + 2 * w) (P + 2 + 2 * w) (cN w) (mN w) (p.1.1 w) m'
theorem cg_text {nf : Bool} {xs : List Int32} {d : Nat} {m : xM} {g : xL} {G : xG} {P P0 len : Nat} {x : Int32} (hG : GC G P P0) (hR : RC G P) (h0s : ¬ G.2 0 = (0, 9, 0)) (hlen : m 0 1 = Int32.ofNat len) (hl : len ≤ 700) (hb0 : ∀ i : Nat, i < 700 → 0 ≤ (m 1 i).toInt) (hb1 : ∀ i : Nat, i < 700 → (m 1 i).toInt < 256) (hw : WD (m 4)) (hT : ∀ w : Nat, w < 8 → m (P + 1 + 2 * w) 0 = Int32.ofNat (cN w) ∧ m (P + 1 + 2 * w) 1 = Int32.ofNat (mN w)) : CG nf xs d 100 [.ref 0, .int x] m g G (fun r m' g' G' => (x.toInt < 0 ∨ (len : Int) < x.toInt) ∧ r = some (.int (-2)) ∧ m' = m ∧ g' = g ∧ G' = G ∨ ∃ n : Nat, x = Int32.ofNat n ∧ n ≤ len ∧ TC (m 1, m 4, n) P P0 G m g r m' g' G') := by
  obtain ⟨hGP, hGR, h00, h04, h05, h06, h07, h13, h14⟩ := hG
  have h7 : 7 ≤ P := hGP.2.2.2.2.1
  have h31 : P ≤ 31 := hGR.2.2.2.2.2.2.2.2.2
  refine CG.of (c := 10) (ini := false) (nL := 4) (rt := some .int) (tab := zt100) rfl (fun d' r h' N hd hr => ?_)
  replace hr : RR nf xs d' 10 false 4 (some .int) zt100 G r h' N (0, [(0, .ref 0), (1, .int x)], [], m, g) := hr
  have ql : (Int32.ofNat len).toInt = (len : Int) := xn_int (by omega)
  have bad : (x.toInt < 0 ∨ (len : Int) < x.toInt) → ∀ N : Nat, RR nf xs d' 10 false 4 (some .int) zt100 G r h' N (12, [(0, .ref 0), (1, .int x)], [], m, g) → ∃ (m' : xM) (g' : xL) (G' : xG), HS h' m' g' G' ∧ ((x.toInt < 0 ∨ (len : Int) < x.toInt) ∧ r = some (.int (-2)) ∧ m' = m ∧ g' = g ∧ G' = G ∨ ∃ n : Nat, x = Int32.ofNat n ∧ n ≤ len ∧ TC (m 1, m 4, n) P P0 G m g r m' g' G') := by
    intro hx N hr
    replace hr := hr.go (s_k t100_12)
    obtain ⟨rfl, hs⟩ := hr.iret t100_14
    exact ⟨_, _, _, hs, Or.inl ⟨hx, rfl, rfl, rfl, rfl⟩⟩
  replace hr := hr.go (s_iload_n t100_0 rfl)
  rcases hr.zLt t100_1 with ⟨b1, hr⟩ | ⟨b1, hr⟩
  · exact bad (Or.inl b1) _ hr
  · replace hr := hr.go (s_iload_n t100_4 rfl)
    replace hr := hr.go (s_aload_n t100_5 rfl)
    replace hr := hr.go (s_getf t100_6)
    rw [hlen] at hr
    rcases hr.bLe t100_9 with ⟨b9, hr⟩ | ⟨b9, hr⟩
    · obtain ⟨n, hxn, hn⟩ : ∃ n : Nat, x = Int32.ofNat n ∧ n ≤ len := ⟨_, xn_of b1, by rw [Int32.toNatClampNeg]; omega⟩
      have hE : EV (m 1, m 4, n) := ⟨by show n ≤ 700; omega, hw, fun i hi => hb0 i (by have hi : i < n := hi; omega), fun i hi => hb1 i (by have hi : i < n := hi; omega)⟩
      replace hr := hr.go (s_aload_n t100_15 rfl)
      replace hr := hr.go (s_getr t100_16 (h04))
      replace hr := hr.go (s_aload_n t100_19 rfl)
      replace hr := hr.go (s_getr t100_20 (h00))
      replace hr := hr.go (s_iload_n t100_23 rfl)
      replace hr := hr.go (s_aload_n t100_24 rfl)
      replace hr := hr.go (s_getr t100_25 (h06))
      rw [hxn] at hr
      obtain ⟨r1, m1, g1, _, ⟨⟨rfl, f, oo, ho, hO⟩, hfr⟩, hr⟩ := hr.callvG t100_28 rfl rfl (CG.reach (A := RA G P) (cg_read (B := (m 1, m 4, n)) (P := P) hGP hE rfl rfl hT) (sA_cs (vA_of (Or.inl (by decide))) (sA_cs (vA_of (Or.inl (by decide))) (sA_i (sA_cs (vA_of (Or.inr (Or.inl (by omega)))) sA_nil)))) hR (fun a h => Or.inr (Or.inr h)))
      have k04 : (xgu G 3 1 1).1 0 4 = some 2 := (xgu_oth (by decide)).trans h04
      cases oo with
      | inl e =>
        obtain ⟨eg, er, q1, q2⟩ := hO
        subst er
        rw [eg] at hr
        replace hr : RR nf xs d' 10 false 4 (some .int) zt100 (xgu G 3 1 1) r h' N (31, [(0, .ref 0), (1, .int (Int32.ofNat n))], [.int 0], m1, g) := hr
        replace hr := hr.go (s_istore_n (ls' := [(2, _), (0, _), (1, _)]) t100_31 rfl)
        replace hr := hr.go (s_aload_n t100_32 rfl)
        replace hr := hr.go (s_k t100_33)
        replace hr := hr.go (s_putf t100_34)
        replace hr := hr.go (s_aload_n t100_37 rfl)
        replace hr := hr.go (s_aload_n t100_38 rfl)
        replace hr := hr.go (s_getr t100_39 (k04))
        replace hr := hr.go (s_getf t100_42)
        replace hr := hr.go (s_putf t100_45)
        replace hr := hr.go (s_aload_n t100_48 rfl)
        replace hr := hr.go (s_aload_n t100_49 rfl)
        replace hr := hr.go (s_getr t100_50 (k04))
        replace hr := hr.go (s_getf t100_53)
        replace hr := hr.go (s_putf t100_56)
        replace hr := hr.go (s_iload_n t100_59 rfl)
        replace hr := hr.bzF t100_60 (by decide)
        replace hr := hr.go (s_k t100_63)
        obtain ⟨rfl, hs⟩ := hr.iret t100_64
        refine ⟨_, _, _, hs, Or.inr ⟨n, hxn, hn, f, .inl e, ho, rfl, ?_, ?_, rfl, ?_, fun a h1 h2 => ?_⟩⟩
        · rw [xu_oth (by decide), xu_same, xu_oth (by decide)]; exact q1
        · rw [xu_same, xu_oth (by decide), xu_oth (by decide)]; exact q2
        · rw [xu_oth (by decide), xu_oth (by decide), xu_oth (by decide)]
          exact congrFun (And.left (hfr 0 (fun z => by
            rcases z with z | z | z
            · omega
            · omega
            · exact h0s z))) 11
        · rw [xu_row h2, xu_row h2, xu_row h2]; exact ⟨(hfr a h1).1, rfl⟩
      | inr p =>
        obtain ⟨eg, er, hA, q9, q10, -⟩ := hO
        subst er
        rw [eg] at hr
        replace hr : RR nf xs d' 10 false 4 (some .int) zt100 (xgu G 3 1 1) r h' N (31, [(0, .ref 0), (1, .int (Int32.ofNat n))], [.int 1], m1, g) := hr
        have k05 : (xgu G 3 1 1).1 0 5 = some P0 := (xgu_oth (by decide)).trans h05
        have k06 : (xgu G 3 1 1).1 0 6 = some P := (xgu_oth (by decide)).trans h06
        have j07 : (xgu (xgu (xgu G 3 1 1) 0 5 P) 0 6 P0).1 0 7 = some 55 := (xgu_oth (by decide)).trans ((xgu_oth (by decide)).trans ((xgu_oth (by decide)).trans h07))
        have j05 : (xgu (xgu (xgu G 3 1 1) 0 5 P) 0 6 P0).1 0 5 = some P := (xgu_oth (by decide)).trans xgu_same
        have i05 : (xgu (xgu (xgu (xgu G 3 1 1) 0 5 P) 0 6 P0) 55 2 P).1 0 5 = some P := (xgu_oth (by decide)).trans j05
        have i13 : (xgu (xgu (xgu (xgu G 3 1 1) 0 5 P) 0 6 P0) 55 2 P).1 0 13 = some 116 := (xgu_oth (by decide)).trans ((xgu_oth (by decide)).trans ((xgu_oth (by decide)).trans ((xgu_oth (by decide)).trans h13)))
        have i14 : (xgu (xgu (xgu (xgu G 3 1 1) 0 5 P) 0 6 P0) 55 2 P).1 0 14 = some 120 := (xgu_oth (by decide)).trans ((xgu_oth (by decide)).trans ((xgu_oth (by decide)).trans ((xgu_oth (by decide)).trans h14)))
        have h8 : ∀ r : Nat, r < (p.1.1 3).length → m1 (P + 8) (r * 2 + 0) = ((p.1.1 3).getD r []).getD 0 0 ∧ m1 (P + 8) (r * 2 + 1) = ((p.1.1 3).getD r []).getD 1 0 := fun r hr2 => by
          have t3 := hA.2.1 3 (by decide)
          exact ⟨t3.2.2.2.2 r hr2 0 (by decide), t3.2.2.2.2 r hr2 1 (by decide)⟩
        have hMR : MR P (p.1.1 3).length m1 := by
          have t1 := hA.2.1 1 (by decide)
          have t3 := hA.2.1 3 (by decide)
          exact ⟨t1.1, t1.2.1, t3.1, t3.2.1, t3.2.2.1, t3.2.2.2.1⟩
        replace hr := hr.go (s_istore_n (ls' := [(2, _), (0, _), (1, _)]) t100_31 rfl)
        replace hr := hr.go (s_aload_n t100_32 rfl)
        replace hr := hr.go (s_k t100_33)
        replace hr := hr.go (s_putf t100_34)
        replace hr := hr.go (s_aload_n t100_37 rfl)
        replace hr := hr.go (s_aload_n t100_38 rfl)
        replace hr := hr.go (s_getr t100_39 (k04))
        replace hr := hr.go (s_getf t100_42)
        replace hr := hr.go (s_putf t100_45)
        replace hr := hr.go (s_aload_n t100_48 rfl)
        replace hr := hr.go (s_aload_n t100_49 rfl)
        replace hr := hr.go (s_getr t100_50 (k04))
        replace hr := hr.go (s_getf t100_53)
        replace hr := hr.go (s_putf t100_56)
        replace hr := hr.go (s_iload_n t100_59 rfl)
        replace hr := hr.bzT t100_60 (by decide)
        replace hr := hr.go (s_aload_n t100_65 rfl)
        replace hr := hr.go (s_getr t100_66 (k05))
        replace hr := hr.go (s_astore_n (ls' := [(3, _), (2, _), (0, _), (1, _)]) t100_69 rfl)
        replace hr := hr.go (s_aload_n t100_70 rfl)
        replace hr := hr.go (s_aload_n t100_71 rfl)
        replace hr := hr.go (s_getr t100_72 ((by first | exact k06 | exact (xgu_oth (by decide)).trans k06)))
        replace hr := hr.putr t100_75
        replace hr := hr.go (s_aload_n t100_78 rfl)
        replace hr := hr.go (s_aload_n t100_79 rfl)
        replace hr := hr.putr t100_80
        replace hr := hr.go (s_aload_n t100_83 rfl)
        replace hr := hr.go (s_getr t100_84 (j07))
        replace hr := hr.go (s_aload_n t100_87 rfl)
        replace hr := hr.go (s_getr t100_88 (j05))
        obtain ⟨_, m2, g2, _, ⟨rfl, rfl, q2, z3, z4, z5, z6, z7⟩, hr⟩ := hr.callvG t100_91 rfl rfl (cg_rbeginX (R := (p.1.1 3).length) (rows := p.1.1 3) (GR_xgu (GR_xgu (GR_xgu (GR_xgu hGR h7 (by decide)) h7 (by decide)) h7 (by decide)) h7 (by decide)) (by unfold MR; rw [xu_row (by omega), xu_row (by omega), xu_row (by omega), xu_row (by omega), xu_row (by omega), xu_row (by omega)]; exact hMR) (fun r hr2 => by rw [xu_row (by omega), xu_row (by omega), xu_row (by omega)]; exact h8 r hr2) rfl)
        replace hr : RR nf xs d' 10 false 4 (some .int) zt100 (xgu (xgu (xgu (xgu G 3 1 1) 0 5 P) 0 6 P0) 55 2 P) r h' N (94, _, [], m2, g2) := hr
        replace hr := hr.go (s_aload_n t100_94 rfl)
        replace hr := hr.go (s_k t100_95)
        replace hr := hr.go (s_putf t100_96)
        replace hr := hr.go (s_aload_n t100_99 rfl)
        replace hr := hr.go (s_getr t100_100 (i13))
        replace hr := hr.cvN t100_103 rfl rfl (ct_uclear)
        replace hr := hr.go (s_aload_n t100_106 rfl)
        replace hr := hr.go (s_getr t100_107 (i14))
        replace hr := hr.cvN t100_110 rfl rfl (ct_nclear)
        replace hr := hr.go (s_aload_n t100_113 rfl)
        replace hr := hr.go (s_getr t100_114 (i05))
        replace hr := hr.go (s_getf t100_117)
        obtain ⟨rfl, hs⟩ := hr.iret t100_120
        refine ⟨_, _, _, hs, Or.inr ⟨n, hxn, hn, f, .inr p, ho, ?_, ?_, ?_, rfl, ⟨?_, ?_, ?_, ?_, ?_, ?_, ?_, ?_, fun i hi => ?_, z7⟩, fun w hw8 => ?_⟩⟩
        · rw [xu_row (by omega), xu_row (by omega), xu_row (by omega), xu_row (by omega), q2 P (by omega), xu_row (by omega), xu_row (by omega), xu_row (by omega), q9]
        · rw [xu_row (by decide), xu_row (by decide), xu_row (by decide), xu_oth (by decide), q2 0 (by decide), xu_oth (by decide), xu_same, xu_oth (by decide)]; exact hA.2.2.2.2.2.2.1
        · rw [xu_row (by decide), xu_row (by decide), xu_row (by decide), xu_oth (by decide), q2 0 (by decide), xu_same, xu_oth (by decide), xu_oth (by decide)]; exact hA.2.2.2.2.2.2.2
        · have t1 := hA.2.1 1 (by decide)
          have tl : (p.1.1 1).length ≤ 6 := t1.2.2.2.1
          have e3 : m1 (P + 3) 3 = Int32.ofNat (p.1.1 1).length := t1.2.2.1
          rw [xu_row (by decide), xu_row (by decide), xu_row (by decide), xu_row (by decide), z3, xu_row (by omega), xu_row (by omega), xu_row (by omega), e3]
          by_cases l6 : (p.1.1 1).length = 6
          · rw [l6]; decide
          · rw [if_pos (by rw [Int32.lt_iff_toInt_lt, xn_int (by omega), show (6 : Int32).toInt = 6 from rfl]; omega)]
        · rw [xu_row (by decide), xu_row (by decide), xu_row (by decide), xu_row (by decide)]; exact z4
        · rw [xu_row (by decide), xu_row (by decide), xu_row (by decide), xu_row (by decide)]; exact z5
        · rw [xu_row (by decide), xu_row (by decide), xu_row (by decide)]; exact xu_same
        · rw [xu_row (by decide), xu_row (by decide)]; exact xu_same
        · rw [xu_oth (by decide)]; exact xu_same
        · exact xu_same
        · rw [xu_row (by omega), xu_row (by omega), xu_row (by omega), xu_row (by omega), q2 P (by omega), xu_row (by omega), xu_row (by omega), xu_row (by omega), q10]
        · have t1 := hA.2.1 1 (by decide)
          have tl : (p.1.1 1).length ≤ 6 := t1.2.2.2.1
          rw [xu_row (by omega), xu_row (by omega), xu_row (by omega), xu_row (by omega), (z6 i (by omega)).1, xu_row (by omega), xu_row (by omega), xu_row (by omega)]
          exact ⟨t1.2.2.2.2 i hi 3 (by decide), (z6 i (by omega)).2⟩
        · refine tbC_row (hA.2.1 w hw8) ?_ ?_
          · rw [xu_row (by omega), xu_row (by omega), xu_row (by omega), xu_row (by omega), q2 _ (by omega), xu_row (by omega), xu_row (by omega), xu_row (by omega)]
          · rw [xu_row (by omega), xu_row (by omega), xu_row (by omega), xu_row (by omega), q2 _ (by omega), xu_row (by omega), xu_row (by omega), xu_row (by omega)]
    · exact bad (Or.inr (by omega)) _ hr
end
section
/-! feed, of both sides: the same bytes come behind the tape (bj_ush began as b_ushr of kit/laws/BITS). -/
theorem t98_0 : xt zt98 0 1 (.aload_n 0) := ⟨rfl, rfl⟩
theorem t98_1 : xtf zt98 10 1 4 (.getfield 13) 13 10 1 1 := ⟨rfl, rfl, rfl, rfl⟩
theorem t98_4 : xtk zt98 4 7 (680) := Or.inr (Or.inr ⟨680, ⟨rfl, rfl⟩, by decide⟩)
theorem t98_7 : xtb zt98 7 10 12 (.if_icmp .le 5) (5) := ⟨rfl, rfl, rfl⟩
theorem t98_10 : xtk zt98 10 11 (-1) := Or.inl ⟨-1, ⟨rfl, rfl⟩, by decide⟩
theorem t98_11 : xt zt98 11 12 .ireturn := ⟨rfl, rfl⟩
theorem t98_12 : xt zt98 12 13 (.aload_n 0) := ⟨rfl, rfl⟩
theorem t98_13 : xt zt98 13 14 (.iload_n 1) := ⟨rfl, rfl⟩
theorem t98_14 : xtc zt98 10 14 17 (.invokevirtual 92) 92 1 99 1 := ⟨rfl, rfl, rfl⟩
theorem t98_17 : xt zt98 17 18 (.aload_n 0) := ⟨rfl, rfl⟩
theorem t98_18 : xt zt98 18 19 (.iload_n 2) := ⟨rfl, rfl⟩
theorem t98_19 : xtc zt98 10 19 22 (.invokevirtual 92) 92 1 99 1 := ⟨rfl, rfl, rfl⟩
theorem t98_22 : xt zt98 22 23 (.aload_n 0) := ⟨rfl, rfl⟩
theorem t98_23 : xt zt98 23 24 (.iload_n 3) := ⟨rfl, rfl⟩
theorem t98_24 : xtc zt98 10 24 27 (.invokevirtual 92) 92 1 99 1 := ⟨rfl, rfl, rfl⟩
theorem t98_27 : xt zt98 27 28 (.aload_n 0) := ⟨rfl, rfl⟩
theorem t98_28 : xt zt98 28 30 (.iload 4) := ⟨rfl, rfl⟩
theorem t98_30 : xtc zt98 10 30 33 (.invokevirtual 92) 92 1 99 1 := ⟨rfl, rfl, rfl⟩
theorem t98_33 : xt zt98 33 34 (.aload_n 0) := ⟨rfl, rfl⟩
theorem t98_34 : xt zt98 34 36 (.iload 5) := ⟨rfl, rfl⟩
theorem t98_36 : xtc zt98 10 36 39 (.invokevirtual 92) 92 1 99 1 := ⟨rfl, rfl, rfl⟩
theorem t98_39 : xt zt98 39 40 (.aload_n 0) := ⟨rfl, rfl⟩
theorem t98_40 : xtf zt98 10 40 43 (.getfield 13) 13 10 1 1 := ⟨rfl, rfl, rfl, rfl⟩
theorem t98_43 : xt zt98 43 44 .ireturn := ⟨rfl, rfl⟩
theorem t99_0 : xtk zt99 0 2 (24) := Or.inr (Or.inl ⟨24, ⟨rfl, rfl⟩, by decide⟩)
theorem t99_2 : xt zt99 2 3 (.istore_n 2) := ⟨rfl, rfl⟩
theorem t99_3 : xt zt99 3 4 (.iload_n 2) := ⟨rfl, rfl⟩
theorem t99_4 : xtb zt99 4 7 49 (.ifCond .lt 45) (45) := ⟨rfl, rfl, rfl⟩
theorem t99_7 : xt zt99 7 8 (.aload_n 0) := ⟨rfl, rfl⟩
theorem t99_8 : xtf zt99 10 8 11 (.getfield 13) 13 10 1 1 := ⟨rfl, rfl, rfl, rfl⟩
theorem t99_11 : xtk zt99 11 14 (700) := Or.inr (Or.inr ⟨700, ⟨rfl, rfl⟩, by decide⟩)
theorem t99_14 : xtb zt99 14 17 43 (.if_icmp .ge 29) (29) := ⟨rfl, rfl, rfl⟩
theorem t99_17 : xt zt99 17 18 (.aload_n 0) := ⟨rfl, rfl⟩
theorem t99_18 : xtf zt99 10 18 21 (.getfield 9) 9 10 0 3 := ⟨rfl, rfl, rfl, rfl⟩
theorem t99_21 : xt zt99 21 22 (.aload_n 0) := ⟨rfl, rfl⟩
theorem t99_22 : xtf zt99 10 22 25 (.getfield 13) 13 10 1 1 := ⟨rfl, rfl, rfl, rfl⟩
theorem t99_25 : xt zt99 25 26 (.iload_n 1) := ⟨rfl, rfl⟩
theorem t99_26 : xt zt99 26 27 (.iload_n 2) := ⟨rfl, rfl⟩
theorem t99_27 : xt zt99 27 28 .iushr := ⟨rfl, rfl⟩
theorem t99_28 : xtk zt99 28 31 (255) := Or.inr (Or.inr ⟨255, ⟨rfl, rfl⟩, by decide⟩)
theorem t99_31 : xt zt99 31 32 .iand := ⟨rfl, rfl⟩
theorem t99_32 : xt zt99 32 33 .iastore := ⟨rfl, rfl⟩
theorem t99_33 : xt zt99 33 34 (.aload_n 0) := ⟨rfl, rfl⟩
theorem t99_34 : xt zt99 34 35 .dup := ⟨rfl, rfl⟩
theorem t99_35 : xtf zt99 10 35 38 (.getfield 13) 13 10 1 1 := ⟨rfl, rfl, rfl, rfl⟩
theorem t99_38 : xtk zt99 38 39 (1) := Or.inl ⟨1, ⟨rfl, rfl⟩, by decide⟩
theorem t99_39 : xt zt99 39 40 .iadd := ⟨rfl, rfl⟩
theorem t99_40 : xtf zt99 10 40 43 (.putfield 13) 13 10 1 1 := ⟨rfl, rfl, rfl, rfl⟩
theorem t99_43 : xt zt99 43 46 (.iinc 2 (-8)) := ⟨rfl, rfl⟩
theorem t99_46 : xtb zt99 46 49 3 (.goto (-43)) (-43) := ⟨rfl, rfl, rfl⟩
theorem t99_49 : xt zt99 49 50 .return_ := ⟨rfl, rfl⟩
theorem t150_0 : xt zt150 0 1 (.aload_n 0) := ⟨rfl, rfl⟩
theorem t150_1 : xtk zt150 1 2 (0) := Or.inl ⟨0, ⟨rfl, rfl⟩, by decide⟩
theorem t150_2 : xtf zt150 11 2 5 (.putfield 166) 166 11 0 1 := ⟨rfl, rfl, rfl, rfl⟩
theorem t150_5 : xt zt150 5 6 (.aload_n 0) := ⟨rfl, rfl⟩
theorem t150_6 : xtf zt150 11 6 9 (.getfield 169) 169 11 2 1 := ⟨rfl, rfl, rfl, rfl⟩
theorem t150_9 : xtk zt150 9 12 (680) := Or.inr (Or.inr ⟨680, ⟨rfl, rfl⟩, by decide⟩)
theorem t150_12 : xtb zt150 12 15 17 (.if_icmp .le 5) (5) := ⟨rfl, rfl, rfl⟩
theorem t150_15 : xtk zt150 15 16 (-1) := Or.inl ⟨-1, ⟨rfl, rfl⟩, by decide⟩
theorem t150_16 : xt zt150 16 17 .ireturn := ⟨rfl, rfl⟩
theorem t150_17 : xtk zt150 17 18 (0) := Or.inl ⟨0, ⟨rfl, rfl⟩, by decide⟩
theorem t150_18 : xt zt150 18 20 (.istore 6) := ⟨rfl, rfl⟩
theorem t150_20 : xt zt150 20 22 (.iload 6) := ⟨rfl, rfl⟩
theorem t150_22 : xtk zt150 22 24 (20) := Or.inr (Or.inl ⟨20, ⟨rfl, rfl⟩, by decide⟩)
theorem t150_24 : xtb zt150 24 27 110 (.if_icmp .ge 86) (86) := ⟨rfl, rfl, rfl⟩
theorem t150_27 : xt zt150 27 29 (.iload 6) := ⟨rfl, rfl⟩
theorem t150_29 : xtk zt150 29 30 (4) := Or.inl ⟨4, ⟨rfl, rfl⟩, by decide⟩
theorem t150_30 : xtb zt150 30 33 37 (.if_icmp .ge 7) (7) := ⟨rfl, rfl, rfl⟩
theorem t150_33 : xt zt150 33 34 (.iload_n 1) := ⟨rfl, rfl⟩
theorem t150_34 : xtb zt150 34 37 73 (.goto 39) (39) := ⟨rfl, rfl, rfl⟩
theorem t150_37 : xt zt150 37 39 (.iload 6) := ⟨rfl, rfl⟩
theorem t150_39 : xtk zt150 39 41 (8) := Or.inr (Or.inl ⟨8, ⟨rfl, rfl⟩, by decide⟩)
theorem t150_41 : xtb zt150 41 44 48 (.if_icmp .ge 7) (7) := ⟨rfl, rfl, rfl⟩
theorem t150_44 : xt zt150 44 45 (.iload_n 2) := ⟨rfl, rfl⟩
theorem t150_45 : xtb zt150 45 48 73 (.goto 28) (28) := ⟨rfl, rfl, rfl⟩
theorem t150_48 : xt zt150 48 50 (.iload 6) := ⟨rfl, rfl⟩
theorem t150_50 : xtk zt150 50 52 (12) := Or.inr (Or.inl ⟨12, ⟨rfl, rfl⟩, by decide⟩)
theorem t150_52 : xtb zt150 52 55 59 (.if_icmp .ge 7) (7) := ⟨rfl, rfl, rfl⟩
theorem t150_55 : xt zt150 55 56 (.iload_n 3) := ⟨rfl, rfl⟩
theorem t150_56 : xtb zt150 56 59 73 (.goto 17) (17) := ⟨rfl, rfl, rfl⟩
theorem t150_59 : xt zt150 59 61 (.iload 6) := ⟨rfl, rfl⟩
theorem t150_61 : xtk zt150 61 63 (16) := Or.inr (Or.inl ⟨16, ⟨rfl, rfl⟩, by decide⟩)
theorem t150_63 : xtb zt150 63 66 71 (.if_icmp .ge 8) (8) := ⟨rfl, rfl, rfl⟩
theorem t150_66 : xt zt150 66 68 (.iload 4) := ⟨rfl, rfl⟩
theorem t150_68 : xtb zt150 68 71 73 (.goto 5) (5) := ⟨rfl, rfl, rfl⟩
theorem t150_71 : xt zt150 71 73 (.iload 5) := ⟨rfl, rfl⟩
theorem t150_73 : xt zt150 73 75 (.istore 7) := ⟨rfl, rfl⟩
theorem t150_75 : xt zt150 75 76 (.aload_n 0) := ⟨rfl, rfl⟩
theorem t150_76 : xtf zt150 11 76 79 (.getfield 7) 7 11 1 3 := ⟨rfl, rfl, rfl, rfl⟩
theorem t150_79 : xt zt150 79 80 (.aload_n 0) := ⟨rfl, rfl⟩
theorem t150_80 : xtf zt150 11 80 83 (.getfield 169) 169 11 2 1 := ⟨rfl, rfl, rfl, rfl⟩
theorem t150_83 : xt zt150 83 85 (.iload 6) := ⟨rfl, rfl⟩
theorem t150_85 : xt zt150 85 86 .iadd := ⟨rfl, rfl⟩
theorem t150_86 : xt zt150 86 88 (.iload 7) := ⟨rfl, rfl⟩
theorem t150_88 : xtk zt150 88 90 (24) := Or.inr (Or.inl ⟨24, ⟨rfl, rfl⟩, by decide⟩)
theorem t150_90 : xtk zt150 90 92 (8) := Or.inr (Or.inl ⟨8, ⟨rfl, rfl⟩, by decide⟩)
theorem t150_92 : xt zt150 92 94 (.iload 6) := ⟨rfl, rfl⟩
theorem t150_94 : xtk zt150 94 95 (4) := Or.inl ⟨4, ⟨rfl, rfl⟩, by decide⟩
theorem t150_95 : xt zt150 95 96 .irem := ⟨rfl, rfl⟩
theorem t150_96 : xt zt150 96 97 .imul := ⟨rfl, rfl⟩
theorem t150_97 : xt zt150 97 98 .isub := ⟨rfl, rfl⟩
theorem t150_98 : xt zt150 98 99 .ishr := ⟨rfl, rfl⟩
theorem t150_99 : xtk zt150 99 102 (255) := Or.inr (Or.inr ⟨255, ⟨rfl, rfl⟩, by decide⟩)
theorem t150_102 : xt zt150 102 103 .iand := ⟨rfl, rfl⟩
theorem t150_103 : xt zt150 103 104 .iastore := ⟨rfl, rfl⟩
theorem t150_104 : xt zt150 104 107 (.iinc 6 1) := ⟨rfl, rfl⟩
theorem t150_107 : xtb zt150 107 110 20 (.goto (-87)) (-87) := ⟨rfl, rfl, rfl⟩
theorem t150_110 : xt zt150 110 111 (.aload_n 0) := ⟨rfl, rfl⟩
theorem t150_111 : xt zt150 111 112 .dup := ⟨rfl, rfl⟩
theorem t150_112 : xtf zt150 11 112 115 (.getfield 169) 169 11 2 1 := ⟨rfl, rfl, rfl, rfl⟩
theorem t150_115 : xtk zt150 115 117 (20) := Or.inr (Or.inl ⟨20, ⟨rfl, rfl⟩, by decide⟩)
theorem t150_117 : xt zt150 117 118 .iadd := ⟨rfl, rfl⟩
theorem t150_118 : xtf zt150 11 118 121 (.putfield 169) 169 11 2 1 := ⟨rfl, rfl, rfl, rfl⟩
theorem t150_121 : xt zt150 121 122 (.aload_n 0) := ⟨rfl, rfl⟩
theorem t150_122 : xtf zt150 11 122 125 (.getfield 169) 169 11 2 1 := ⟨rfl, rfl, rfl, rfl⟩
theorem t150_125 : xt zt150 125 126 .ireturn := ⟨rfl, rfl⟩
theorem sl_3 : ∀ n : Nat, n < 32 → (((Int32.ofNat n).toUInt32 &&& Int32.toUInt32 31).toBitVec % 32).toNat = n := by decide +kernel
theorem bj_ush (n : Nat) (hn : n < 32) (x : Int32) (i : Nat) : bj ((x.toUInt32 >>> ((Int32.ofNat n).toUInt32 &&& Int32.toUInt32 31)).toInt32) i = bj x (n + i) := by
  show (x.toUInt32 >>> ((Int32.ofNat n).toUInt32 &&& Int32.toUInt32 31)).toBitVec.getLsbD i = x.toUInt32.toBitVec.getLsbD (n + i)
  rw [UInt32.toBitVec_shiftRight]
  show (x.toUInt32.toBitVec >>> (((Int32.ofNat n).toUInt32 &&& Int32.toUInt32 31).toBitVec % 32).toNat).getLsbD i = _
  rw [sl_3 n hn, BitVec.getLsbD_ushiftRight]
theorem bj_255 : ∀ i : Nat, i < 32 → bj 255 i = decide (i < 8) := by decide +kernel
theorem byte_same (n : Nat) (hn : n ≤ 24) (x : Int32) : (x.toUInt32 >>> ((Int32.ofNat n).toUInt32 &&& Int32.toUInt32 31)).toInt32 &&& 255 = (x >>> (Int32.ofNat n &&& 31)) &&& 255 := by
  refine bj_ext (fun i hi => ?_)
  rw [bj_and, bj_and, bj_255 i hi, bj_ush n (by omega), bj_shr n (by omega) x hi]
  by_cases h : i < 8
  · rw [if_pos (by omega)]
  · rw [decide_eq_false h, Bool.and_false, Bool.and_false]
def upd1 (f : Nat → Int32) (p : Nat) (x : Int32) : Nat → Int32 := fun k => if k = p then x else f k
theorem xu_upd {m : xM} {a k : Nat} {x : Int32} : xu m a k x a = upd1 (m a) k x := funext fun j => by
  rw [xu_at]
  rfl
/-- n bytes from p + k on -/
def fdN (f : Nat → Int32) (p : Nat) (x : Nat → Int32) : Nat → Nat → Nat → Int32
  | _, 0 => f
  | k, n + 1 => fdN (upd1 f (p + k) (x k)) p x (k + 1) n
theorem fdN_eq {p : Nat} {x y : Nat → Int32} : ∀ (n k : Nat) (f : Nat → Int32), (∀ j : Nat, k ≤ j → j < k + n → x j = y j) → fdN f p x k n = fdN f p y k n
  | 0, _, _, _ => rfl
  | n + 1, k, f, h => by
    show fdN (upd1 f (p + k) (x k)) p x (k + 1) n = fdN (upd1 f (p + k) (y k)) p y (k + 1) n
    rw [h k (Nat.le_refl _) (by omega)]
    exact fdN_eq n (k + 1) _ (fun j h1 h2 => h j (by omega) (by omega))
def sel (a b c d e : Int32) (k : Nat) : Int32 := if k < 4 then a else if k < 8 then b else if k < 12 then c else if k < 16 then d else e
def byC (v s : Int32) : Int32 := (v.toUInt32 >>> (s.toUInt32 &&& Int32.toUInt32 31)).toInt32 &&& 255
def byR (v : Int32) (k : Nat) : Int32 := (v >>> ((24 - 8 * (Int32.ofNat k - Int32.ofNat k / 4 * 4)) &&& 31)) &&& 255
def shC (k : Nat) : Int32 := [24, 16, 8, 0].getD (k % 4) 0
theorem by_same {v : Int32} : ∀ k : Nat, k < 20 → byC v (shC k) = byR v k := by
  intro k hk
  have e : ∀ k : Nat, k < 20 → ∃ n : Nat, n ≤ 24 ∧ shC k = Int32.ofNat n ∧ 24 - 8 * (Int32.ofNat k - Int32.ofNat k / 4 * 4) = Int32.ofNat n := by
    intro k hk
    rcases (show k = 0 ∨ k = 1 ∨ k = 2 ∨ k = 3 ∨ k = 4 ∨ k = 5 ∨ k = 6 ∨ k = 7 ∨ k = 8 ∨ k = 9 ∨ k = 10 ∨ k = 11 ∨ k = 12 ∨ k = 13 ∨ k = 14 ∨ k = 15 ∨ k = 16 ∨ k = 17 ∨ k = 18 ∨ k = 19 by omega) with rfl | rfl | rfl | rfl | rfl | rfl | rfl | rfl | rfl | rfl | rfl | rfl | rfl | rfl | rfl | rfl | rfl | rfl | rfl | rfl
    all_goals first | exact ⟨24, by decide, by decide, by decide⟩ | exact ⟨16, by decide, by decide, by decide⟩ | exact ⟨8, by decide, by decide, by decide⟩ | exact ⟨0, by decide, by decide, by decide⟩
  obtain ⟨n, h1, h2, h3⟩ := e k hk
  unfold byC byR
  rw [h2, h3]
  exact byte_same n h1 v
theorem st99 {nf : Bool} {xs : List Int32} {d : Nat} {G : xG} {r : Option Value} {h' : zH} {N : Nat} {m : xM} {g : xL} {v s : Int32} {p : Nat} (h0 : G.1 0 0 = some 1) (h1 : m 0 1 = Int32.ofNat p) (hp : p < 700) (hs : zicmp .lt s 0 = false) (hr : RR nf xs d 10 false 3 none zt99 G r h' N (3, [(2, .int s), (0, .ref 0), (1, .int v)], [], m, g)) : ∃ m2 : xM, m2 0 1 = Int32.ofNat (p + 1) ∧ m2 1 = upd1 (m 1) p (byC v s) ∧ RR nf xs d 10 false 3 none zt99 G r h' N (3, [(2, .int (s + Int32.ofInt (-8))), (0, .ref 0), (1, .int v)], [], m2, g) := by
  have q7 : (Int32.ofNat p).toInt = (p : Int) := xn_int (by omega)
  replace hr := hr.go (s_iload_n t99_3 rfl)
  replace hr := hr.bzF t99_4 hs
  replace hr := hr.go (s_aload_n t99_7 rfl)
  replace hr := hr.go (s_getf t99_8)
  rw [h1] at hr
  replace hr := hr.go (s_k t99_11)
  rcases hr.bGe t99_14 with ⟨b14, hr⟩ | ⟨b14, hr⟩
  · exact absurd b14 (by have : (700 : Int32).toInt = 700 := rfl; omega)
  · replace hr := hr.go (s_aload_n t99_17 rfl)
    replace hr := hr.go (s_getr t99_18 (h0))
    replace hr := hr.go (s_aload_n t99_21 rfl)
    replace hr := hr.go (s_getf t99_22)
    rw [h1] at hr
    replace hr := hr.go (s_iload_n t99_25 rfl)
    replace hr := hr.go (s_iload_n t99_26 rfl)
    replace hr := hr.go (s_iushr t99_27)
    replace hr := hr.go (s_k t99_28)
    replace hr := hr.go (s_iand t99_31)
    replace hr := hr.go (s_iastore t99_32)
    rw [xn_nat (show p < 2147483648 by omega)] at hr
    replace hr := hr.go (s_aload_n t99_33 rfl)
    replace hr := hr.go (s_dup t99_34 rfl)
    replace hr := hr.go (s_getf t99_35)
    replace hr := hr.go (s_k t99_38)
    replace hr := hr.go (s_iadd t99_39)
    replace hr := hr.go (s_putf t99_40)
    replace hr := hr.go (s_iinc (ls' := [(2, _), (0, _), (1, _)]) t99_43 rfl rfl)
    replace hr := hr.go (s_goto t99_46)
    refine ⟨_, ?_, ?_, hr⟩
    · rw [xu_same, xu_row (by decide), h1, xn_1]
    · rw [xu_row (by decide), xu_upd]; rfl
theorem ct_putBytes {nf : Bool} {xs : List Int32} {d : Nat} {m : xM} {g : xL} {G : xG} {v : Int32} {p : Nat} (h0 : G.1 0 0 = some 1) (h1 : m 0 1 = Int32.ofNat p) (hp : p + 4 ≤ 700) : CT nf xs d 99 [.ref 0, .int v] m g G (PF none g (fun m' => m' 0 1 = Int32.ofNat (p + 4) ∧ m' 1 = upd1 (upd1 (upd1 (upd1 (m 1) p (byC v 24)) (p + 1) (byC v 16)) (p + 2) (byC v 8)) (p + 3) (byC v 0))) := by
  refine CT.of (c := 10) (ini := false) (nL := 3) (rt := none) (tab := zt99) rfl (fun d' r h' N hd' hr => ?_)
  replace hr : RR nf xs d' 10 false 3 none zt99 G r h' N (0, [(0, .ref 0), (1, .int v)], [], m, g) := hr
  replace hr := hr.go (s_k t99_0)
  replace hr := hr.go (s_istore_n (ls' := [(2, .int 24), (0, _), (1, _)]) t99_2 rfl)
  obtain ⟨m1, a1, b1, hr⟩ := st99 (p := p + 0) h0 h1 (by omega) (by decide) hr
  obtain ⟨m2, a2, b2, hr⟩ := st99 (p := p + 1) h0 a1 (by omega) (by decide) hr
  obtain ⟨m3, a3, b3, hr⟩ := st99 (p := p + 2) h0 a2 (by omega) (by decide) hr
  obtain ⟨m4, a4, b4, hr⟩ := st99 (p := p + 3) h0 a3 (by omega) (by decide) hr
  replace hr := hr.go (s_iload_n t99_3 rfl)
  replace hr := hr.bzT t99_4 (by decide)
  obtain ⟨rfl, hs⟩ := hr.ret t99_49
  exact ⟨_, _, hs, rfl, rfl, a4, by rw [b4, b3, b2, b1]; rfl⟩
theorem ct_feedC {nf : Bool} {xs : List Int32} {d : Nat} {m : xM} {g : xL} {G : xG} {a b c e f : Int32} {p : Nat} (h0 : G.1 0 0 = some 1) (h1 : m 0 1 = Int32.ofNat p) (hp : p ≤ 700) : CT nf xs d 98 [.ref 0, .int a, .int b, .int c, .int e, .int f] m g G (fun r m' _ => (680 < p ∧ m' 1 = m 1) ∨ (p ≤ 680 ∧ m' 1 = fdN (m 1) p (fun k => byC (sel a b c e f k) (shC k)) 0 20)) := by
  refine CT.of (c := 10) (ini := false) (nL := 6) (rt := some .int) (tab := zt98) rfl (fun d' r h' N hd' hr => ?_)
  replace hr : RR nf xs d' 10 false 6 (some .int) zt98 G r h' N (0, [(0, .ref 0), (1, .int a), (2, .int b), (3, .int c), (4, .int e), (5, .int f)], [], m, g) := hr
  have k680 : (680 : Int32).toInt = 680 := rfl
  have qp : (Int32.ofNat p).toInt = (p : Int) := xn_int (by omega)
  replace hr := hr.go (s_aload_n t98_0 rfl)
  replace hr := hr.go (s_getf t98_1)
  rw [h1] at hr
  replace hr := hr.go (s_k t98_4)
  rcases hr.bLe t98_7 with ⟨b7, hr⟩ | ⟨b7, hr⟩
  · replace hr := hr.go (s_aload_n t98_12 rfl)
    replace hr := hr.go (s_iload_n t98_13 rfl)
    obtain ⟨m1, ⟨a1, b1⟩, hr⟩ := hr.fvN t98_14 rfl rfl (ct_putBytes (p := p + 0) h0 h1 (by omega))
    skip
    replace hr := hr.go (s_aload_n t98_17 rfl)
    replace hr := hr.go (s_iload_n t98_18 rfl)
    obtain ⟨m2, ⟨a2, b2⟩, hr⟩ := hr.fvN t98_19 rfl rfl (ct_putBytes (p := p + 4) h0 a1 (by omega))
    skip
    replace hr := hr.go (s_aload_n t98_22 rfl)
    replace hr := hr.go (s_iload_n t98_23 rfl)
    obtain ⟨m3, ⟨a3, b3⟩, hr⟩ := hr.fvN t98_24 rfl rfl (ct_putBytes (p := p + 8) h0 a2 (by omega))
    skip
    replace hr := hr.go (s_aload_n t98_27 rfl)
    replace hr := hr.go (s_iload t98_28 rfl)
    obtain ⟨m4, ⟨a4, b4⟩, hr⟩ := hr.fvN t98_30 rfl rfl (ct_putBytes (p := p + 12) h0 a3 (by omega))
    skip
    replace hr := hr.go (s_aload_n t98_33 rfl)
    replace hr := hr.go (s_iload t98_34 rfl)
    obtain ⟨m5, ⟨a5, b5⟩, hr⟩ := hr.fvN t98_36 rfl rfl (ct_putBytes (p := p + 16) h0 a4 (by omega))
    skip
    replace hr := hr.go (s_aload_n t98_39 rfl)
    replace hr := hr.go (s_getf t98_40)
    obtain ⟨rfl, hs⟩ := hr.iret t98_43
    exact ⟨_, _, hs, Or.inr ⟨by omega, by rw [b5, b4, b3, b2, b1]; rfl⟩⟩
  · replace hr := hr.go (s_k t98_10)
    obtain ⟨rfl, hs⟩ := hr.iret t98_11
    exact ⟨_, _, hs, Or.inl ⟨by omega, rfl⟩⟩
theorem st150 {nf : Bool} {xs : List Int32} {d : Nat} {G : xG} {r : Option Value} {h' : zH} {a b c e f v : Int32} {p k N : Nat} {m : xM} {g : xL} {L : zL} (hL : zset1 L 7 (.int v) = [(7, .int v), (6, .int (Int32.ofNat k)), (0, .ref 128), (1, .int a), (2, .int b), (3, .int c), (4, .int e), (5, .int f)]) (hG : G.1 128 1 = some 129) (hp : p ≤ 680) (hk : k < 20) (h2 : m 128 2 = Int32.ofNat p) (hr : RR nf xs d 11 false 8 (some .int) zt150 G r h' N (73, L, [.int v], m, g)) : ∃ m2 : xM, m2 128 2 = Int32.ofNat p ∧ m2 129 = upd1 (m 129) (p + k) (byR v k) ∧ RR nf xs d 11 false 8 (some .int) zt150 G r h' N (20, [(6, .int (Int32.ofNat (k + 1))), (7, .int v), (0, .ref 128), (1, .int a), (2, .int b), (3, .int c), (4, .int e), (5, .int f)], [], m2, g) := by
  replace hr := hr.go (s_istore t150_73 hL)
  replace hr := hr.go (s_aload_n t150_75 rfl)
  replace hr := hr.go (s_getr t150_76 (hG))
  replace hr := hr.go (s_aload_n t150_79 rfl)
  replace hr := hr.go (s_getf t150_80)
  rw [h2] at hr
  replace hr := hr.go (s_iload t150_83 rfl)
  replace hr := hr.go (s_iadd t150_85)
  rw [xn_add] at hr
  replace hr := hr.go (s_iload t150_86 rfl)
  replace hr := hr.go (s_k t150_88)
  replace hr := hr.go (s_k t150_90)
  replace hr := hr.go (s_iload t150_92 rfl)
  replace hr := hr.go (s_k t150_94)
  replace hr := hr.go (s_irem (by decide) t150_95)
  replace hr := hr.go (s_imul t150_96)
  replace hr := hr.go (s_isub t150_97)
  replace hr := hr.go (s_ishr t150_98)
  replace hr := hr.go (s_k t150_99)
  replace hr := hr.go (s_iand t150_102)
  replace hr := hr.go (s_iastore t150_103)
  rw [xn_nat (show p + k < 2147483648 by omega)] at hr
  replace hr := hr.go (s_iinc (ls' := [(6, _), (7, _), (0, _), (1, _), (2, _), (3, _), (4, _), (5, _)]) t150_104 rfl rfl)
  rw [xn_1i] at hr
  replace hr := hr.go (s_goto t150_107)
  refine ⟨_, ?_, ?_, hr⟩
  · rw [xu_row (by decide)]; exact h2
  · rw [xu_upd]; rfl
theorem sl150A {nf : Bool} {xs : List Int32} {d : Nat} {G : xG} {r : Option Value} {h' : zH} {a b c e f z : Int32} {p k N : Nat} {m : xM} {g : xL} (hG : G.1 128 1 = some 129) (hp : p ≤ 680) (hk : k < 20) (h2 : m 128 2 = Int32.ofNat p) (hr : RR nf xs d 11 false 8 (some .int) zt150 G r h' N (27, [(6, .int (Int32.ofNat k)), (7, .int z), (0, .ref 128), (1, .int a), (2, .int b), (3, .int c), (4, .int e), (5, .int f)], [], m, g)) : ∃ (m2 : xM) (v : Int32), m2 128 2 = Int32.ofNat p ∧ m2 129 = upd1 (m 129) (p + k) (byR (sel a b c e f k) k) ∧ RR nf xs d 11 false 8 (some .int) zt150 G r h' N (20, [(6, .int (Int32.ofNat (k + 1))), (7, .int v), (0, .ref 128), (1, .int a), (2, .int b), (3, .int c), (4, .int e), (5, .int f)], [], m2, g) := by
  have qk : (Int32.ofNat k).toInt = (k : Int) := xn_int (by omega)
  have k4 : (4 : Int32).toInt = 4 := rfl
  have k8 : (8 : Int32).toInt = 8 := rfl
  have k12 : (12 : Int32).toInt = 12 := rfl
  have k16 : (16 : Int32).toInt = 16 := rfl
  replace hr := hr.go (s_iload t150_27 rfl)
  replace hr := hr.go (s_k t150_29)
  rcases hr.bGe t150_30 with ⟨b30, hr⟩ | ⟨b30, hr⟩
  · replace hr := hr.go (s_iload t150_37 rfl)
    replace hr := hr.go (s_k t150_39)
    rcases hr.bGe t150_41 with ⟨b41, hr⟩ | ⟨b41, hr⟩
    · replace hr := hr.go (s_iload t150_48 rfl)
      replace hr := hr.go (s_k t150_50)
      rcases hr.bGe t150_52 with ⟨b52, hr⟩ | ⟨b52, hr⟩
      · replace hr := hr.go (s_iload t150_59 rfl)
        replace hr := hr.go (s_k t150_61)
        rcases hr.bGe t150_63 with ⟨b63, hr⟩ | ⟨b63, hr⟩
        · replace hr := hr.go (s_iload t150_71 rfl)
          have es : sel a b c e f k = f := by unfold sel; repeat (first | rw [if_pos (by omega)] | rw [if_neg (by omega)])
          obtain ⟨m2, q1, q2, hr⟩ := st150 (k := k) (p := p) (a := a) (b := b) (c := c) (e := e) (f := f) rfl hG hp hk h2 hr
          exact ⟨m2, _, q1, by rw [es]; exact q2, hr⟩
        · replace hr := hr.go (s_iload t150_66 rfl)
          replace hr := hr.go (s_goto t150_68)
          have es : sel a b c e f k = e := by unfold sel; repeat (first | rw [if_pos (by omega)] | rw [if_neg (by omega)])
          obtain ⟨m2, q1, q2, hr⟩ := st150 (k := k) (p := p) (a := a) (b := b) (c := c) (e := e) (f := f) rfl hG hp hk h2 hr
          exact ⟨m2, _, q1, by rw [es]; exact q2, hr⟩
      · replace hr := hr.go (s_iload_n t150_55 rfl)
        replace hr := hr.go (s_goto t150_56)
        have es : sel a b c e f k = c := by unfold sel; repeat (first | rw [if_pos (by omega)] | rw [if_neg (by omega)])
        obtain ⟨m2, q1, q2, hr⟩ := st150 (k := k) (p := p) (a := a) (b := b) (c := c) (e := e) (f := f) rfl hG hp hk h2 hr
        exact ⟨m2, _, q1, by rw [es]; exact q2, hr⟩
    · replace hr := hr.go (s_iload_n t150_44 rfl)
      replace hr := hr.go (s_goto t150_45)
      have es : sel a b c e f k = b := by unfold sel; repeat (first | rw [if_pos (by omega)] | rw [if_neg (by omega)])
      obtain ⟨m2, q1, q2, hr⟩ := st150 (k := k) (p := p) (a := a) (b := b) (c := c) (e := e) (f := f) rfl hG hp hk h2 hr
      exact ⟨m2, _, q1, by rw [es]; exact q2, hr⟩
  · replace hr := hr.go (s_iload_n t150_33 rfl)
    replace hr := hr.go (s_goto t150_34)
    have es : sel a b c e f k = a := by unfold sel; repeat (first | rw [if_pos (by omega)] | rw [if_neg (by omega)])
    obtain ⟨m2, q1, q2, hr⟩ := st150 (k := k) (p := p) (a := a) (b := b) (c := c) (e := e) (f := f) rfl hG hp hk h2 hr
    exact ⟨m2, _, q1, by rw [es]; exact q2, hr⟩
theorem sl150B {nf : Bool} {xs : List Int32} {d : Nat} {G : xG} {r : Option Value} {h' : zH} {a b c e f z : Int32} {p k N : Nat} {m : xM} {g : xL} (hG : G.1 128 1 = some 129) (hp : p ≤ 680) (hk : k < 20) (h2 : m 128 2 = Int32.ofNat p) (hr : RR nf xs d 11 false 8 (some .int) zt150 G r h' N (27, [(6, .int (Int32.ofNat k)), (0, .ref 128), (1, .int a), (2, .int b), (3, .int c), (4, .int e), (5, .int f)], [], m, g)) : ∃ (m2 : xM) (v : Int32), m2 128 2 = Int32.ofNat p ∧ m2 129 = upd1 (m 129) (p + k) (byR (sel a b c e f k) k) ∧ RR nf xs d 11 false 8 (some .int) zt150 G r h' N (20, [(6, .int (Int32.ofNat (k + 1))), (7, .int v), (0, .ref 128), (1, .int a), (2, .int b), (3, .int c), (4, .int e), (5, .int f)], [], m2, g) := by
  have qk : (Int32.ofNat k).toInt = (k : Int) := xn_int (by omega)
  have k4 : (4 : Int32).toInt = 4 := rfl
  have k8 : (8 : Int32).toInt = 8 := rfl
  have k12 : (12 : Int32).toInt = 12 := rfl
  have k16 : (16 : Int32).toInt = 16 := rfl
  replace hr := hr.go (s_iload t150_27 rfl)
  replace hr := hr.go (s_k t150_29)
  rcases hr.bGe t150_30 with ⟨b30, hr⟩ | ⟨b30, hr⟩
  · replace hr := hr.go (s_iload t150_37 rfl)
    replace hr := hr.go (s_k t150_39)
    rcases hr.bGe t150_41 with ⟨b41, hr⟩ | ⟨b41, hr⟩
    · replace hr := hr.go (s_iload t150_48 rfl)
      replace hr := hr.go (s_k t150_50)
      rcases hr.bGe t150_52 with ⟨b52, hr⟩ | ⟨b52, hr⟩
      · replace hr := hr.go (s_iload t150_59 rfl)
        replace hr := hr.go (s_k t150_61)
        rcases hr.bGe t150_63 with ⟨b63, hr⟩ | ⟨b63, hr⟩
        · replace hr := hr.go (s_iload t150_71 rfl)
          have es : sel a b c e f k = f := by unfold sel; repeat (first | rw [if_pos (by omega)] | rw [if_neg (by omega)])
          obtain ⟨m2, q1, q2, hr⟩ := st150 (k := k) (p := p) (a := a) (b := b) (c := c) (e := e) (f := f) rfl hG hp hk h2 hr
          exact ⟨m2, _, q1, by rw [es]; exact q2, hr⟩
        · replace hr := hr.go (s_iload t150_66 rfl)
          replace hr := hr.go (s_goto t150_68)
          have es : sel a b c e f k = e := by unfold sel; repeat (first | rw [if_pos (by omega)] | rw [if_neg (by omega)])
          obtain ⟨m2, q1, q2, hr⟩ := st150 (k := k) (p := p) (a := a) (b := b) (c := c) (e := e) (f := f) rfl hG hp hk h2 hr
          exact ⟨m2, _, q1, by rw [es]; exact q2, hr⟩
      · replace hr := hr.go (s_iload_n t150_55 rfl)
        replace hr := hr.go (s_goto t150_56)
        have es : sel a b c e f k = c := by unfold sel; repeat (first | rw [if_pos (by omega)] | rw [if_neg (by omega)])
        obtain ⟨m2, q1, q2, hr⟩ := st150 (k := k) (p := p) (a := a) (b := b) (c := c) (e := e) (f := f) rfl hG hp hk h2 hr
        exact ⟨m2, _, q1, by rw [es]; exact q2, hr⟩
    · replace hr := hr.go (s_iload_n t150_44 rfl)
      replace hr := hr.go (s_goto t150_45)
      have es : sel a b c e f k = b := by unfold sel; repeat (first | rw [if_pos (by omega)] | rw [if_neg (by omega)])
      obtain ⟨m2, q1, q2, hr⟩ := st150 (k := k) (p := p) (a := a) (b := b) (c := c) (e := e) (f := f) rfl hG hp hk h2 hr
      exact ⟨m2, _, q1, by rw [es]; exact q2, hr⟩
  · replace hr := hr.go (s_iload_n t150_33 rfl)
    replace hr := hr.go (s_goto t150_34)
    have es : sel a b c e f k = a := by unfold sel; repeat (first | rw [if_pos (by omega)] | rw [if_neg (by omega)])
    obtain ⟨m2, q1, q2, hr⟩ := st150 (k := k) (p := p) (a := a) (b := b) (c := c) (e := e) (f := f) rfl hG hp hk h2 hr
    exact ⟨m2, _, q1, by rw [es]; exact q2, hr⟩
theorem lp150 {nf : Bool} {xs : List Int32} {d : Nat} {G : xG} {r : Option Value} {h' : zH} {a b c e f : Int32} {p : Nat} (hG : G.1 128 1 = some 129) (hp : p ≤ 680) : ∀ (N k : Nat) (z : Int32) (m : xM) (g : xL), k ≤ 20 → m 128 2 = Int32.ofNat p → RR nf xs d 11 false 8 (some .int) zt150 G r h' N (20, [(6, .int (Int32.ofNat k)), (7, .int z), (0, .ref 128), (1, .int a), (2, .int b), (3, .int c), (4, .int e), (5, .int f)], [], m, g) → ∃ (m' : xM) (g' : xL), HS h' m' g' G ∧ m' 129 = fdN (m 129) p (fun k => byR (sel a b c e f k) k) k (20 - k) := by
  intro N
  induction N with
  | zero => intro k z m g _ _ hr; exact hr.no.elim
  | succ N ih =>
    intro k z m g hk h2 hr
    have qk : (Int32.ofNat k).toInt = (k : Int) := xn_int (by omega)
    have k20 : (20 : Int32).toInt = 20 := rfl
    replace hr := hr.go1 (s_iload t150_20 rfl)
    replace hr := hr.go (s_k t150_22)
    rcases hr.bGe t150_24 with ⟨b24, hr⟩ | ⟨b24, hr⟩
    · replace hr := hr.go (s_aload_n t150_110 rfl)
      replace hr := hr.go (s_dup t150_111 rfl)
      replace hr := hr.go (s_getf t150_112)
      replace hr := hr.go (s_k t150_115)
      replace hr := hr.go (s_iadd t150_117)
      replace hr := hr.go (s_putf t150_118)
      replace hr := hr.go (s_aload_n t150_121 rfl)
      replace hr := hr.go (s_getf t150_122)
      obtain ⟨rfl, hs⟩ := hr.iret t150_125
      have e : k = 20 := by omega
      subst e
      exact ⟨_, _, hs, xu_row (by decide)⟩
    · obtain ⟨m2, v, q1, q2, hr⟩ := sl150A hG hp (by omega) h2 hr
      obtain ⟨m', g', hs, h3⟩ := ih (k + 1) v m2 g (by omega) q1 hr
      refine ⟨m', g', hs, ?_⟩
      rw [h3, q2, show 20 - k = (20 - (k + 1)) + 1 by omega]
      rfl
theorem ct_feedR {nf : Bool} {xs : List Int32} {d : Nat} {m : xM} {g : xL} {G : xG} {a b c e f : Int32} {p : Nat} (hG : G.1 128 1 = some 129) (h1 : m 128 2 = Int32.ofNat p) (hp : p ≤ 700) : CT nf xs d 150 [.ref 128, .int a, .int b, .int c, .int e, .int f] m g G (fun r m' _ => (680 < p ∧ m' 129 = m 129) ∨ (p ≤ 680 ∧ m' 129 = fdN (m 129) p (fun k => byR (sel a b c e f k) k) 0 20)) := by
  refine CT.of (c := 11) (ini := false) (nL := 8) (rt := some .int) (tab := zt150) rfl (fun d' r h' N hd' hr => ?_)
  replace hr : RR nf xs d' 11 false 8 (some .int) zt150 G r h' N (0, [(0, .ref 128), (1, .int a), (2, .int b), (3, .int c), (4, .int e), (5, .int f)], [], m, g) := hr
  have k680 : (680 : Int32).toInt = 680 := rfl
  have qp : (Int32.ofNat p).toInt = (p : Int) := xn_int (by omega)
  replace hr := hr.go (s_aload_n t150_0 rfl)
  replace hr := hr.go (s_k t150_1)
  replace hr := hr.go (s_putf t150_2)
  replace hr := hr.go (s_aload_n t150_5 rfl)
  replace hr := hr.go (s_getf t150_6)
  rw [show (xu m 128 0 0) 128 2 = Int32.ofNat p from (xu_oth (by decide)).trans h1] at hr
  replace hr := hr.go (s_k t150_9)
  rcases hr.bLe t150_12 with ⟨b12, hr⟩ | ⟨b12, hr⟩
  · replace hr := hr.go (s_k t150_17)
    replace hr := hr.go (s_istore (ls' := [(6, _), (0, _), (1, _), (2, _), (3, _), (4, _), (5, _)]) t150_18 rfl)
    replace hr := hr.go (s_iload t150_20 rfl)
    replace hr := hr.go (s_k t150_22)
    replace hr := hr.brF t150_24 (by decide)
    obtain ⟨m2, v, q1, q2, hr⟩ := sl150B (z := 0) (k := 0) hG (by omega) (by decide) ((xu_oth (by decide)).trans h1) hr
    obtain ⟨m', g', hs, h3⟩ := lp150 hG (by omega) N 1 v m2 g (by decide) q1 hr
    refine ⟨m', g', hs, Or.inr ⟨by omega, ?_⟩⟩
    rw [h3, q2, xu_row (by decide)]
    rfl
  · replace hr := hr.go (s_k t150_15)
    obtain ⟨rfl, hs⟩ := hr.iret t150_16
    exact ⟨_, _, hs, Or.inl ⟨by omega, xu_row (by decide)⟩⟩
end
section
/-! The class: a ride copied; keep, back; notes, of both sides (by program: wip/x/gV1.py). -/
theorem t19_0 : xt zt19 0 1 (.aload_n 0) := ⟨rfl, rfl⟩
theorem t19_1 : xt zt19 1 2 (.aload_n 1) := ⟨rfl, rfl⟩
theorem t19_2 : xtf zt19 2 2 5 (.getfield 9) 9 2 0 1 := ⟨rfl, rfl, rfl, rfl⟩
theorem t19_5 : xtf zt19 2 5 8 (.putfield 9) 9 2 0 1 := ⟨rfl, rfl, rfl, rfl⟩
theorem t19_8 : xt zt19 8 9 (.aload_n 0) := ⟨rfl, rfl⟩
theorem t19_9 : xt zt19 9 10 (.aload_n 1) := ⟨rfl, rfl⟩
theorem t19_10 : xtf zt19 2 10 13 (.getfield 15) 15 2 1 1 := ⟨rfl, rfl, rfl, rfl⟩
theorem t19_13 : xtf zt19 2 13 16 (.putfield 15) 15 2 1 1 := ⟨rfl, rfl, rfl, rfl⟩
theorem t19_16 : xt zt19 16 17 (.aload_n 0) := ⟨rfl, rfl⟩
theorem t19_17 : xt zt19 17 18 (.aload_n 1) := ⟨rfl, rfl⟩
theorem t19_18 : xtf zt19 2 18 21 (.getfield 18) 18 2 2 1 := ⟨rfl, rfl, rfl, rfl⟩
theorem t19_21 : xtf zt19 2 21 24 (.putfield 18) 18 2 2 1 := ⟨rfl, rfl, rfl, rfl⟩
theorem t19_24 : xt zt19 24 25 (.aload_n 0) := ⟨rfl, rfl⟩
theorem t19_25 : xt zt19 25 26 (.aload_n 1) := ⟨rfl, rfl⟩
theorem t19_26 : xtf zt19 2 26 29 (.getfield 21) 21 2 3 1 := ⟨rfl, rfl, rfl, rfl⟩
theorem t19_29 : xtf zt19 2 29 32 (.putfield 21) 21 2 3 1 := ⟨rfl, rfl, rfl, rfl⟩
theorem t19_32 : xt zt19 32 33 (.aload_n 0) := ⟨rfl, rfl⟩
theorem t19_33 : xt zt19 33 34 (.aload_n 1) := ⟨rfl, rfl⟩
theorem t19_34 : xtf zt19 2 34 37 (.getfield 25) 25 2 4 1 := ⟨rfl, rfl, rfl, rfl⟩
theorem t19_37 : xtf zt19 2 37 40 (.putfield 25) 25 2 4 1 := ⟨rfl, rfl, rfl, rfl⟩
theorem t19_40 : xt zt19 40 41 (.aload_n 0) := ⟨rfl, rfl⟩
theorem t19_41 : xt zt19 41 42 (.aload_n 1) := ⟨rfl, rfl⟩
theorem t19_42 : xtf zt19 2 42 45 (.getfield 28) 28 2 5 1 := ⟨rfl, rfl, rfl, rfl⟩
theorem t19_45 : xtf zt19 2 45 48 (.putfield 28) 28 2 5 1 := ⟨rfl, rfl, rfl, rfl⟩
theorem t19_48 : xt zt19 48 49 (.aload_n 0) := ⟨rfl, rfl⟩
theorem t19_49 : xt zt19 49 50 (.aload_n 1) := ⟨rfl, rfl⟩
theorem t19_50 : xtf zt19 2 50 53 (.getfield 31) 31 2 6 1 := ⟨rfl, rfl, rfl, rfl⟩
theorem t19_53 : xtf zt19 2 53 56 (.putfield 31) 31 2 6 1 := ⟨rfl, rfl, rfl, rfl⟩
theorem t19_56 : xt zt19 56 57 (.aload_n 0) := ⟨rfl, rfl⟩
theorem t19_57 : xt zt19 57 58 (.aload_n 1) := ⟨rfl, rfl⟩
theorem t19_58 : xtf zt19 2 58 61 (.getfield 34) 34 2 7 1 := ⟨rfl, rfl, rfl, rfl⟩
theorem t19_61 : xtf zt19 2 61 64 (.putfield 34) 34 2 7 1 := ⟨rfl, rfl, rfl, rfl⟩
theorem t19_64 : xt zt19 64 65 (.aload_n 0) := ⟨rfl, rfl⟩
theorem t19_65 : xt zt19 65 66 (.aload_n 1) := ⟨rfl, rfl⟩
theorem t19_66 : xtf zt19 2 66 69 (.getfield 37) 37 2 8 1 := ⟨rfl, rfl, rfl, rfl⟩
theorem t19_69 : xtf zt19 2 69 72 (.putfield 37) 37 2 8 1 := ⟨rfl, rfl, rfl, rfl⟩
theorem t19_72 : xtk zt19 72 73 (0) := Or.inl ⟨0, ⟨rfl, rfl⟩, by decide⟩
theorem t19_73 : xt zt19 73 74 (.istore_n 2) := ⟨rfl, rfl⟩
theorem t19_74 : xt zt19 74 75 (.iload_n 2) := ⟨rfl, rfl⟩
theorem t19_75 : xtk zt19 75 77 (6) := Or.inr (Or.inl ⟨6, ⟨rfl, rfl⟩, by decide⟩)
theorem t19_77 : xtb zt19 77 80 98 (.if_icmp .ge 21) (21) := ⟨rfl, rfl, rfl⟩
theorem t19_80 : xt zt19 80 81 (.aload_n 0) := ⟨rfl, rfl⟩
theorem t19_81 : xtf zt19 2 81 84 (.getfield 40) 40 2 9 3 := ⟨rfl, rfl, rfl, rfl⟩
theorem t19_84 : xt zt19 84 85 (.iload_n 2) := ⟨rfl, rfl⟩
theorem t19_85 : xt zt19 85 86 (.aload_n 1) := ⟨rfl, rfl⟩
theorem t19_86 : xtf zt19 2 86 89 (.getfield 40) 40 2 9 3 := ⟨rfl, rfl, rfl, rfl⟩
theorem t19_89 : xt zt19 89 90 (.iload_n 2) := ⟨rfl, rfl⟩
theorem t19_90 : xt zt19 90 91 .iaload := ⟨rfl, rfl⟩
theorem t19_91 : xt zt19 91 92 .iastore := ⟨rfl, rfl⟩
theorem t19_92 : xt zt19 92 95 (.iinc 2 1) := ⟨rfl, rfl⟩
theorem t19_95 : xtb zt19 95 98 74 (.goto (-21)) (-21) := ⟨rfl, rfl, rfl⟩
theorem t19_98 : xt zt19 98 99 .return_ := ⟨rfl, rfl⟩
theorem t48_0 : xt zt48 0 1 (.aload_n 0) := ⟨rfl, rfl⟩
theorem t48_1 : xt zt48 1 2 (.aload_n 1) := ⟨rfl, rfl⟩
theorem t48_2 : xtf zt48 5 2 5 (.getfield 49) 49 5 2 3 := ⟨rfl, rfl, rfl, rfl⟩
theorem t48_5 : xtf zt48 5 5 8 (.putfield 49) 49 5 2 3 := ⟨rfl, rfl, rfl, rfl⟩
theorem t48_8 : xt zt48 8 9 (.aload_n 0) := ⟨rfl, rfl⟩
theorem t48_9 : xt zt48 9 10 (.aload_n 1) := ⟨rfl, rfl⟩
theorem t48_10 : xtf zt48 5 10 13 (.getfield 21) 21 5 3 1 := ⟨rfl, rfl, rfl, rfl⟩
theorem t48_13 : xtf zt48 5 13 16 (.putfield 21) 21 5 3 1 := ⟨rfl, rfl, rfl, rfl⟩
theorem t48_16 : xt zt48 16 17 (.aload_n 0) := ⟨rfl, rfl⟩
theorem t48_17 : xt zt48 17 18 (.aload_n 1) := ⟨rfl, rfl⟩
theorem t48_18 : xtf zt48 5 18 21 (.getfield 25) 25 5 4 1 := ⟨rfl, rfl, rfl, rfl⟩
theorem t48_21 : xtf zt48 5 21 24 (.putfield 25) 25 5 4 1 := ⟨rfl, rfl, rfl, rfl⟩
theorem t48_24 : xt zt48 24 25 (.aload_n 0) := ⟨rfl, rfl⟩
theorem t48_25 : xt zt48 25 26 (.aload_n 1) := ⟨rfl, rfl⟩
theorem t48_26 : xtf zt48 5 26 29 (.getfield 28) 28 5 5 1 := ⟨rfl, rfl, rfl, rfl⟩
theorem t48_29 : xtf zt48 5 29 32 (.putfield 28) 28 5 5 1 := ⟨rfl, rfl, rfl, rfl⟩
theorem t48_32 : xt zt48 32 33 (.aload_n 0) := ⟨rfl, rfl⟩
theorem t48_33 : xt zt48 33 34 (.aload_n 1) := ⟨rfl, rfl⟩
theorem t48_34 : xtf zt48 5 34 37 (.getfield 31) 31 5 6 1 := ⟨rfl, rfl, rfl, rfl⟩
theorem t48_37 : xtf zt48 5 37 40 (.putfield 31) 31 5 6 1 := ⟨rfl, rfl, rfl, rfl⟩
theorem t48_40 : xt zt48 40 41 (.aload_n 0) := ⟨rfl, rfl⟩
theorem t48_41 : xt zt48 41 42 (.aload_n 1) := ⟨rfl, rfl⟩
theorem t48_42 : xtf zt48 5 42 45 (.getfield 34) 34 5 7 1 := ⟨rfl, rfl, rfl, rfl⟩
theorem t48_45 : xtf zt48 5 45 48 (.putfield 34) 34 5 7 1 := ⟨rfl, rfl, rfl, rfl⟩
theorem t48_48 : xt zt48 48 49 (.aload_n 0) := ⟨rfl, rfl⟩
theorem t48_49 : xt zt48 49 50 (.aload_n 1) := ⟨rfl, rfl⟩
theorem t48_50 : xtf zt48 5 50 53 (.getfield 37) 37 5 8 1 := ⟨rfl, rfl, rfl, rfl⟩
theorem t48_53 : xtf zt48 5 53 56 (.putfield 37) 37 5 8 1 := ⟨rfl, rfl, rfl, rfl⟩
theorem t48_56 : xt zt48 56 57 (.aload_n 0) := ⟨rfl, rfl⟩
theorem t48_57 : xt zt48 57 58 (.aload_n 1) := ⟨rfl, rfl⟩
theorem t48_58 : xtf zt48 5 58 61 (.getfield 40) 40 5 9 1 := ⟨rfl, rfl, rfl, rfl⟩
theorem t48_61 : xtf zt48 5 61 64 (.putfield 40) 40 5 9 1 := ⟨rfl, rfl, rfl, rfl⟩
theorem t48_64 : xt zt48 64 65 (.aload_n 0) := ⟨rfl, rfl⟩
theorem t48_65 : xt zt48 65 66 (.aload_n 1) := ⟨rfl, rfl⟩
theorem t48_66 : xtf zt48 5 66 69 (.getfield 43) 43 5 10 1 := ⟨rfl, rfl, rfl, rfl⟩
theorem t48_69 : xtf zt48 5 69 72 (.putfield 43) 43 5 10 1 := ⟨rfl, rfl, rfl, rfl⟩
theorem t48_72 : xt zt48 72 73 (.aload_n 0) := ⟨rfl, rfl⟩
theorem t48_73 : xt zt48 73 74 (.aload_n 1) := ⟨rfl, rfl⟩
theorem t48_74 : xtf zt48 5 74 77 (.getfield 46) 46 5 11 1 := ⟨rfl, rfl, rfl, rfl⟩
theorem t48_77 : xtf zt48 5 77 80 (.putfield 46) 46 5 11 1 := ⟨rfl, rfl, rfl, rfl⟩
theorem t48_80 : xtk zt48 80 81 (0) := Or.inl ⟨0, ⟨rfl, rfl⟩, by decide⟩
theorem t48_81 : xt zt48 81 82 (.istore_n 2) := ⟨rfl, rfl⟩
theorem t48_82 : xt zt48 82 83 (.iload_n 2) := ⟨rfl, rfl⟩
theorem t48_83 : xt zt48 83 84 (.aload_n 0) := ⟨rfl, rfl⟩
theorem t48_84 : xtf zt48 5 84 87 (.getfield 21) 21 5 3 1 := ⟨rfl, rfl, rfl, rfl⟩
theorem t48_87 : xtb zt48 87 90 117 (.if_icmp .ge 30) (30) := ⟨rfl, rfl, rfl⟩
theorem t48_90 : xt zt48 90 91 (.iload_n 2) := ⟨rfl, rfl⟩
theorem t48_91 : xtk zt48 91 93 (6) := Or.inr (Or.inl ⟨6, ⟨rfl, rfl⟩, by decide⟩)
theorem t48_93 : xtb zt48 93 96 117 (.if_icmp .ge 24) (24) := ⟨rfl, rfl, rfl⟩
theorem t48_96 : xt zt48 96 97 (.aload_n 0) := ⟨rfl, rfl⟩
theorem t48_97 : xtf zt48 5 97 100 (.getfield 11) 11 5 0 3 := ⟨rfl, rfl, rfl, rfl⟩
theorem t48_100 : xt zt48 100 101 (.iload_n 2) := ⟨rfl, rfl⟩
theorem t48_101 : xt zt48 101 102 .aaload := ⟨rfl, rfl⟩
theorem t48_102 : xt zt48 102 103 (.aload_n 1) := ⟨rfl, rfl⟩
theorem t48_103 : xtf zt48 5 103 106 (.getfield 11) 11 5 0 3 := ⟨rfl, rfl, rfl, rfl⟩
theorem t48_106 : xt zt48 106 107 (.iload_n 2) := ⟨rfl, rfl⟩
theorem t48_107 : xt zt48 107 108 .aaload := ⟨rfl, rfl⟩
theorem t48_108 : xtc zt48 5 108 111 (.invokevirtual 84) 84 1 19 1 := ⟨rfl, rfl, rfl⟩
theorem t48_111 : xt zt48 111 114 (.iinc 2 1) := ⟨rfl, rfl⟩
theorem t48_114 : xtb zt48 114 117 82 (.goto (-32)) (-32) := ⟨rfl, rfl, rfl⟩
theorem t48_117 : xtk zt48 117 118 (0) := Or.inl ⟨0, ⟨rfl, rfl⟩, by decide⟩
theorem t48_118 : xt zt48 118 119 (.istore_n 2) := ⟨rfl, rfl⟩
theorem t48_119 : xt zt48 119 120 (.iload_n 2) := ⟨rfl, rfl⟩
theorem t48_120 : xtk zt48 120 122 (6) := Or.inr (Or.inl ⟨6, ⟨rfl, rfl⟩, by decide⟩)
theorem t48_122 : xtb zt48 122 125 143 (.if_icmp .ge 21) (21) := ⟨rfl, rfl, rfl⟩
theorem t48_125 : xt zt48 125 126 (.aload_n 0) := ⟨rfl, rfl⟩
theorem t48_126 : xtf zt48 5 126 129 (.getfield 17) 17 5 1 3 := ⟨rfl, rfl, rfl, rfl⟩
theorem t48_129 : xt zt48 129 130 (.iload_n 2) := ⟨rfl, rfl⟩
theorem t48_130 : xt zt48 130 131 (.aload_n 1) := ⟨rfl, rfl⟩
theorem t48_131 : xtf zt48 5 131 134 (.getfield 17) 17 5 1 3 := ⟨rfl, rfl, rfl, rfl⟩
theorem t48_134 : xt zt48 134 135 (.iload_n 2) := ⟨rfl, rfl⟩
theorem t48_135 : xt zt48 135 136 .laload := ⟨rfl, rfl⟩
theorem t48_136 : xt zt48 136 137 .lastore := ⟨rfl, rfl⟩
theorem t48_137 : xt zt48 137 140 (.iinc 2 1) := ⟨rfl, rfl⟩
theorem t48_140 : xtb zt48 140 143 119 (.goto (-21)) (-21) := ⟨rfl, rfl, rfl⟩
theorem t48_143 : xt zt48 143 144 .return_ := ⟨rfl, rfl⟩
theorem t118_0 : xt zt118 0 1 (.aload_n 0) := ⟨rfl, rfl⟩
theorem t118_1 : xtf zt118 10 1 4 (.getfield 49) 49 10 8 3 := ⟨rfl, rfl, rfl, rfl⟩
theorem t118_4 : xt zt118 4 5 (.aload_n 0) := ⟨rfl, rfl⟩
theorem t118_5 : xtf zt118 10 5 8 (.getfield 45) 45 10 7 3 := ⟨rfl, rfl, rfl, rfl⟩
theorem t118_8 : xtc zt118 10 8 11 (.invokevirtual 294) 294 1 48 1 := ⟨rfl, rfl, rfl⟩
theorem t118_11 : xt zt118 11 12 (.aload_n 0) := ⟨rfl, rfl⟩
theorem t118_12 : xtk zt118 12 13 (1) := Or.inl ⟨1, ⟨rfl, rfl⟩, by decide⟩
theorem t118_13 : xtf zt118 10 13 16 (.putfield 58) 58 10 11 1 := ⟨rfl, rfl, rfl, rfl⟩
theorem t118_16 : xt zt118 16 17 (.aload_n 0) := ⟨rfl, rfl⟩
theorem t118_17 : xtf zt118 10 17 20 (.getfield 45) 45 10 7 3 := ⟨rfl, rfl, rfl, rfl⟩
theorem t118_20 : xtf zt118 10 20 23 (.getfield 248) 248 5 4 1 := ⟨rfl, rfl, rfl, rfl⟩
theorem t118_23 : xt zt118 23 24 .ireturn := ⟨rfl, rfl⟩
theorem t119_0 : xt zt119 0 1 (.aload_n 0) := ⟨rfl, rfl⟩
theorem t119_1 : xtf zt119 10 1 4 (.getfield 58) 58 10 11 1 := ⟨rfl, rfl, rfl, rfl⟩
theorem t119_4 : xtb zt119 4 7 9 (.ifCond .ne 5) (5) := ⟨rfl, rfl, rfl⟩
theorem t119_7 : xtk zt119 7 8 (-1) := Or.inl ⟨-1, ⟨rfl, rfl⟩, by decide⟩
theorem t119_8 : xt zt119 8 9 .ireturn := ⟨rfl, rfl⟩
theorem t119_9 : xt zt119 9 10 (.aload_n 0) := ⟨rfl, rfl⟩
theorem t119_10 : xtf zt119 10 10 13 (.getfield 45) 45 10 7 3 := ⟨rfl, rfl, rfl, rfl⟩
theorem t119_13 : xt zt119 13 14 (.aload_n 0) := ⟨rfl, rfl⟩
theorem t119_14 : xtf zt119 10 14 17 (.getfield 49) 49 10 8 3 := ⟨rfl, rfl, rfl, rfl⟩
theorem t119_17 : xtc zt119 10 17 20 (.invokevirtual 294) 294 1 48 1 := ⟨rfl, rfl, rfl⟩
theorem t119_20 : xt zt119 20 21 (.aload_n 0) := ⟨rfl, rfl⟩
theorem t119_21 : xtf zt119 10 21 24 (.getfield 72) 72 10 13 3 := ⟨rfl, rfl, rfl, rfl⟩
theorem t119_24 : xtc zt119 10 24 27 (.invokevirtual 106) 106 1 93 0 := ⟨rfl, rfl, rfl⟩
theorem t119_27 : xt zt119 27 28 (.aload_n 0) := ⟨rfl, rfl⟩
theorem t119_28 : xtf zt119 10 28 31 (.getfield 45) 45 10 7 3 := ⟨rfl, rfl, rfl, rfl⟩
theorem t119_31 : xtf zt119 10 31 34 (.getfield 248) 248 5 4 1 := ⟨rfl, rfl, rfl, rfl⟩
theorem t119_34 : xt zt119 34 35 .ireturn := ⟨rfl, rfl⟩
theorem t145_0 : xt zt145 0 1 (.aload_n 0) := ⟨rfl, rfl⟩
theorem t145_1 : xt zt145 1 2 (.iload_n 1) := ⟨rfl, rfl⟩
theorem t145_2 : xtc zt145 10 2 5 (.invokevirtual 132) 132 1 103 1 := ⟨rfl, rfl, rfl⟩
theorem t145_5 : xtb zt145 5 8 28 (.ifCond .eq 23) (23) := ⟨rfl, rfl, rfl⟩
theorem t145_8 : xt zt145 8 9 (.iload_n 2) := ⟨rfl, rfl⟩
theorem t145_9 : xtc zt145 10 9 12 (.invokestatic 201) 201 2 105 1 := ⟨rfl, rfl, rfl⟩
theorem t145_12 : xtb zt145 12 15 28 (.ifCond .eq 16) (16) := ⟨rfl, rfl, rfl⟩
theorem t145_15 : xt zt145 15 16 (.aload_n 0) := ⟨rfl, rfl⟩
theorem t145_16 : xtf zt145 10 16 19 (.getfield 79) 79 10 14 3 := ⟨rfl, rfl, rfl, rfl⟩
theorem t145_19 : xt zt145 19 20 (.iload_n 1) := ⟨rfl, rfl⟩
theorem t145_20 : xt zt145 20 21 (.iload_n 2) := ⟨rfl, rfl⟩
theorem t145_21 : xt zt145 21 22 (.iload_n 3) := ⟨rfl, rfl⟩
theorem t145_22 : xtc zt145 10 22 25 (.invokevirtual 383) 383 1 12 3 := ⟨rfl, rfl, rfl⟩
theorem t145_25 : xtb zt145 25 28 29 (.goto 4) (4) := ⟨rfl, rfl, rfl⟩
theorem t145_28 : xtk zt145 28 29 (-1) := Or.inl ⟨-1, ⟨rfl, rfl⟩, by decide⟩
theorem t145_29 : xt zt145 29 30 .ireturn := ⟨rfl, rfl⟩
theorem t146_0 : xt zt146 0 1 (.aload_n 0) := ⟨rfl, rfl⟩
theorem t146_1 : xtf zt146 10 1 4 (.getfield 79) 79 10 14 3 := ⟨rfl, rfl, rfl, rfl⟩
theorem t146_4 : xt zt146 4 5 (.iload_n 1) := ⟨rfl, rfl⟩
theorem t146_5 : xtc zt146 10 5 8 (.invokevirtual 387) 387 1 13 1 := ⟨rfl, rfl, rfl⟩
theorem t146_8 : xt zt146 8 9 .ireturn := ⟨rfl, rfl⟩
theorem t147_0 : xt zt147 0 1 (.iload_n 1) := ⟨rfl, rfl⟩
theorem t147_1 : xtk zt147 1 2 (-1) := Or.inl ⟨-1, ⟨rfl, rfl⟩, by decide⟩
theorem t147_2 : xtb zt147 2 5 16 (.if_icmp .lt 14) (14) := ⟨rfl, rfl, rfl⟩
theorem t147_5 : xt zt147 5 6 (.iload_n 1) := ⟨rfl, rfl⟩
theorem t147_6 : xt zt147 6 7 (.aload_n 0) := ⟨rfl, rfl⟩
theorem t147_7 : xtf zt147 10 7 10 (.getfield 79) 79 10 14 3 := ⟨rfl, rfl, rfl, rfl⟩
theorem t147_10 : xtf zt147 10 10 13 (.getfield 272) 272 1 5 1 := ⟨rfl, rfl, rfl, rfl⟩
theorem t147_13 : xtb zt147 13 16 18 (.if_icmp .le 5) (5) := ⟨rfl, rfl, rfl⟩
theorem t147_16 : xtk zt147 16 17 (0) := Or.inl ⟨0, ⟨rfl, rfl⟩, by decide⟩
theorem t147_17 : xt zt147 17 18 .ireturn := ⟨rfl, rfl⟩
theorem t147_18 : xt zt147 18 19 (.aload_n 0) := ⟨rfl, rfl⟩
theorem t147_19 : xtf zt147 10 19 22 (.getfield 79) 79 10 14 3 := ⟨rfl, rfl, rfl, rfl⟩
theorem t147_22 : xt zt147 22 23 (.iload_n 1) := ⟨rfl, rfl⟩
theorem t147_23 : xtf zt147 10 23 26 (.putfield 390) 390 1 6 1 := ⟨rfl, rfl, rfl, rfl⟩
theorem t147_26 : xtk zt147 26 27 (1) := Or.inl ⟨1, ⟨rfl, rfl⟩, by decide⟩
theorem t147_27 : xt zt147 27 28 .ireturn := ⟨rfl, rfl⟩
theorem t12_0 : xt zt12 0 1 (.aload_n 0) := ⟨rfl, rfl⟩
theorem t12_1 : xtf zt12 1 1 4 (.getfield 28) 28 1 5 1 := ⟨rfl, rfl, rfl, rfl⟩
theorem t12_4 : xtk zt12 4 6 (24) := Or.inr (Or.inl ⟨24, ⟨rfl, rfl⟩, by decide⟩)
theorem t12_6 : xtb zt12 6 9 11 (.if_icmp .lt 5) (5) := ⟨rfl, rfl, rfl⟩
theorem t12_9 : xtk zt12 9 10 (-1) := Or.inl ⟨-1, ⟨rfl, rfl⟩, by decide⟩
theorem t12_10 : xt zt12 10 11 .ireturn := ⟨rfl, rfl⟩
theorem t12_11 : xt zt12 11 12 (.aload_n 0) := ⟨rfl, rfl⟩
theorem t12_12 : xtf zt12 1 12 15 (.getfield 11) 11 1 0 3 := ⟨rfl, rfl, rfl, rfl⟩
theorem t12_15 : xt zt12 15 16 (.aload_n 0) := ⟨rfl, rfl⟩
theorem t12_16 : xtf zt12 1 16 19 (.getfield 28) 28 1 5 1 := ⟨rfl, rfl, rfl, rfl⟩
theorem t12_19 : xt zt12 19 20 (.iload_n 1) := ⟨rfl, rfl⟩
theorem t12_20 : xt zt12 20 21 .iastore := ⟨rfl, rfl⟩
theorem t12_21 : xt zt12 21 22 (.aload_n 0) := ⟨rfl, rfl⟩
theorem t12_22 : xtf zt12 1 22 25 (.getfield 15) 15 1 1 3 := ⟨rfl, rfl, rfl, rfl⟩
theorem t12_25 : xt zt12 25 26 (.aload_n 0) := ⟨rfl, rfl⟩
theorem t12_26 : xtf zt12 1 26 29 (.getfield 28) 28 1 5 1 := ⟨rfl, rfl, rfl, rfl⟩
theorem t12_29 : xt zt12 29 30 (.iload_n 2) := ⟨rfl, rfl⟩
theorem t12_30 : xt zt12 30 31 .iastore := ⟨rfl, rfl⟩
theorem t12_31 : xt zt12 31 32 (.aload_n 0) := ⟨rfl, rfl⟩
theorem t12_32 : xtf zt12 1 32 35 (.getfield 18) 18 1 2 3 := ⟨rfl, rfl, rfl, rfl⟩
theorem t12_35 : xt zt12 35 36 (.aload_n 0) := ⟨rfl, rfl⟩
theorem t12_36 : xtf zt12 1 36 39 (.getfield 28) 28 1 5 1 := ⟨rfl, rfl, rfl, rfl⟩
theorem t12_39 : xt zt12 39 40 (.iload_n 3) := ⟨rfl, rfl⟩
theorem t12_40 : xt zt12 40 41 .bastore := ⟨rfl, rfl⟩
theorem t12_41 : xt zt12 41 42 (.aload_n 0) := ⟨rfl, rfl⟩
theorem t12_42 : xtf zt12 1 42 45 (.getfield 22) 22 1 3 3 := ⟨rfl, rfl, rfl, rfl⟩
theorem t12_45 : xt zt12 45 46 (.aload_n 0) := ⟨rfl, rfl⟩
theorem t12_46 : xtf zt12 1 46 49 (.getfield 28) 28 1 5 1 := ⟨rfl, rfl, rfl, rfl⟩
theorem t12_49 : xtk zt12 49 50 (-1) := Or.inl ⟨-1, ⟨rfl, rfl⟩, by decide⟩
theorem t12_50 : xt zt12 50 51 .iastore := ⟨rfl, rfl⟩
theorem t12_51 : xt zt12 51 52 (.aload_n 0) := ⟨rfl, rfl⟩
theorem t12_52 : xt zt12 52 53 .dup := ⟨rfl, rfl⟩
theorem t12_53 : xtf zt12 1 53 56 (.getfield 28) 28 1 5 1 := ⟨rfl, rfl, rfl, rfl⟩
theorem t12_56 : xtk zt12 56 57 (1) := Or.inl ⟨1, ⟨rfl, rfl⟩, by decide⟩
theorem t12_57 : xt zt12 57 58 .iadd := ⟨rfl, rfl⟩
theorem t12_58 : xtf zt12 1 58 61 (.putfield 28) 28 1 5 1 := ⟨rfl, rfl, rfl, rfl⟩
theorem t12_61 : xt zt12 61 62 (.aload_n 0) := ⟨rfl, rfl⟩
theorem t12_62 : xtf zt12 1 62 65 (.getfield 28) 28 1 5 1 := ⟨rfl, rfl, rfl, rfl⟩
theorem t12_65 : xtk zt12 65 66 (1) := Or.inl ⟨1, ⟨rfl, rfl⟩, by decide⟩
theorem t12_66 : xt zt12 66 67 .isub := ⟨rfl, rfl⟩
theorem t12_67 : xt zt12 67 68 .ireturn := ⟨rfl, rfl⟩
theorem t13_0 : xt zt13 0 1 (.iload_n 1) := ⟨rfl, rfl⟩
theorem t13_1 : xtb zt13 1 4 21 (.ifCond .lt 20) (20) := ⟨rfl, rfl, rfl⟩
theorem t13_4 : xt zt13 4 5 (.iload_n 1) := ⟨rfl, rfl⟩
theorem t13_5 : xt zt13 5 6 (.aload_n 0) := ⟨rfl, rfl⟩
theorem t13_6 : xtf zt13 1 6 9 (.getfield 28) 28 1 5 1 := ⟨rfl, rfl, rfl, rfl⟩
theorem t13_9 : xtb zt13 9 12 21 (.if_icmp .ge 12) (12) := ⟨rfl, rfl, rfl⟩
theorem t13_12 : xt zt13 12 13 (.aload_n 0) := ⟨rfl, rfl⟩
theorem t13_13 : xtf zt13 1 13 16 (.getfield 28) 28 1 5 1 := ⟨rfl, rfl, rfl, rfl⟩
theorem t13_16 : xtk zt13 16 18 (24) := Or.inr (Or.inl ⟨24, ⟨rfl, rfl⟩, by decide⟩)
theorem t13_18 : xtb zt13 18 21 23 (.if_icmp .lt 5) (5) := ⟨rfl, rfl, rfl⟩
theorem t13_21 : xtk zt13 21 22 (-1) := Or.inl ⟨-1, ⟨rfl, rfl⟩, by decide⟩
theorem t13_22 : xt zt13 22 23 .ireturn := ⟨rfl, rfl⟩
theorem t13_23 : xt zt13 23 24 (.aload_n 0) := ⟨rfl, rfl⟩
theorem t13_24 : xtf zt13 1 24 27 (.getfield 22) 22 1 3 3 := ⟨rfl, rfl, rfl, rfl⟩
theorem t13_27 : xt zt13 27 28 (.aload_n 0) := ⟨rfl, rfl⟩
theorem t13_28 : xtf zt13 1 28 31 (.getfield 28) 28 1 5 1 := ⟨rfl, rfl, rfl, rfl⟩
theorem t13_31 : xt zt13 31 32 (.iload_n 1) := ⟨rfl, rfl⟩
theorem t13_32 : xt zt13 32 33 .iastore := ⟨rfl, rfl⟩
theorem t13_33 : xt zt13 33 34 (.aload_n 0) := ⟨rfl, rfl⟩
theorem t13_34 : xt zt13 34 35 .dup := ⟨rfl, rfl⟩
theorem t13_35 : xtf zt13 1 35 38 (.getfield 28) 28 1 5 1 := ⟨rfl, rfl, rfl, rfl⟩
theorem t13_38 : xtk zt13 38 39 (1) := Or.inl ⟨1, ⟨rfl, rfl⟩, by decide⟩
theorem t13_39 : xt zt13 39 40 .iadd := ⟨rfl, rfl⟩
theorem t13_40 : xtf zt13 1 40 43 (.putfield 28) 28 1 5 1 := ⟨rfl, rfl, rfl, rfl⟩
theorem t13_43 : xt zt13 43 44 (.aload_n 0) := ⟨rfl, rfl⟩
theorem t13_44 : xtf zt13 1 44 47 (.getfield 28) 28 1 5 1 := ⟨rfl, rfl, rfl, rfl⟩
theorem t13_47 : xtk zt13 47 48 (1) := Or.inl ⟨1, ⟨rfl, rfl⟩, by decide⟩
theorem t13_48 : xt zt13 48 49 .isub := ⟨rfl, rfl⟩
theorem t13_49 : xt zt13 49 50 .ireturn := ⟨rfl, rfl⟩
theorem t103_0 : xt zt103 0 1 (.iload_n 1) := ⟨rfl, rfl⟩
theorem t103_1 : xtb zt103 1 4 19 (.ifCond .lt 18) (18) := ⟨rfl, rfl, rfl⟩
theorem t103_4 : xt zt103 4 5 (.iload_n 1) := ⟨rfl, rfl⟩
theorem t103_5 : xt zt103 5 6 (.aload_n 0) := ⟨rfl, rfl⟩
theorem t103_6 : xtf zt103 10 6 9 (.getfield 45) 45 10 7 3 := ⟨rfl, rfl, rfl, rfl⟩
theorem t103_9 : xtf zt103 10 9 12 (.getfield 126) 126 5 3 1 := ⟨rfl, rfl, rfl, rfl⟩
theorem t103_12 : xtb zt103 12 15 19 (.if_icmp .ge 7) (7) := ⟨rfl, rfl, rfl⟩
theorem t103_15 : xtk zt103 15 16 (1) := Or.inl ⟨1, ⟨rfl, rfl⟩, by decide⟩
theorem t103_16 : xtb zt103 16 19 20 (.goto 4) (4) := ⟨rfl, rfl, rfl⟩
theorem t103_19 : xtk zt103 19 20 (0) := Or.inl ⟨0, ⟨rfl, rfl⟩, by decide⟩
theorem t103_20 : xt zt103 20 21 .ireturn := ⟨rfl, rfl⟩
theorem t105_0 : xt zt105 0 1 (.iload_n 0) := ⟨rfl, rfl⟩
theorem t105_1 : xtb zt105 1 4 14 (.ifCond .lt 13) (13) := ⟨rfl, rfl, rfl⟩
theorem t105_4 : xt zt105 4 5 (.iload_n 0) := ⟨rfl, rfl⟩
theorem t105_5 : xtk zt105 5 7 (60) := Or.inr (Or.inl ⟨60, ⟨rfl, rfl⟩, by decide⟩)
theorem t105_7 : xtb zt105 7 10 14 (.if_icmp .gt 7) (7) := ⟨rfl, rfl, rfl⟩
theorem t105_10 : xtk zt105 10 11 (1) := Or.inl ⟨1, ⟨rfl, rfl⟩, by decide⟩
theorem t105_11 : xtb zt105 11 14 15 (.goto 4) (4) := ⟨rfl, rfl, rfl⟩
theorem t105_14 : xtk zt105 14 15 (0) := Or.inl ⟨0, ⟨rfl, rfl⟩, by decide⟩
theorem t105_15 : xt zt105 15 16 .ireturn := ⟨rfl, rfl⟩
theorem t249_0 : xt zt249 0 1 (.aload_n 0) := ⟨rfl, rfl⟩
theorem t249_1 : xtk zt249 1 2 (0) := Or.inl ⟨0, ⟨rfl, rfl⟩, by decide⟩
theorem t249_2 : xtf zt249 11 2 5 (.putfield 166) 166 11 0 1 := ⟨rfl, rfl, rfl, rfl⟩
theorem t249_5 : xt zt249 5 6 (.aload_n 0) := ⟨rfl, rfl⟩
theorem t249_6 : xt zt249 6 7 (.iload_n 1) := ⟨rfl, rfl⟩
theorem t249_7 : xtc zt249 11 7 10 (.invokevirtual 455) 455 1 191 1 := ⟨rfl, rfl, rfl⟩
theorem t249_10 : xtb zt249 10 13 29 (.ifCond .eq 19) (19) := ⟨rfl, rfl, rfl⟩
theorem t249_13 : xt zt249 13 14 (.iload_n 2) := ⟨rfl, rfl⟩
theorem t249_14 : xtc zt249 11 14 17 (.invokestatic 465) 465 2 193 1 := ⟨rfl, rfl, rfl⟩
theorem t249_17 : xtb zt249 17 20 29 (.ifCond .eq 12) (12) := ⟨rfl, rfl, rfl⟩
theorem t249_20 : xt zt249 20 21 (.aload_n 0) := ⟨rfl, rfl⟩
theorem t249_21 : xtf zt249 11 21 24 (.getfield 319) 319 11 67 1 := ⟨rfl, rfl, rfl, rfl⟩
theorem t249_24 : xtk zt249 24 26 (24) := Or.inr (Or.inl ⟨24, ⟨rfl, rfl⟩, by decide⟩)
theorem t249_26 : xtb zt249 26 29 31 (.if_icmp .ne 5) (5) := ⟨rfl, rfl, rfl⟩
theorem t249_29 : xtk zt249 29 30 (-1) := Or.inl ⟨-1, ⟨rfl, rfl⟩, by decide⟩
theorem t249_30 : xt zt249 30 31 .ireturn := ⟨rfl, rfl⟩
theorem t249_31 : xt zt249 31 32 (.aload_n 0) := ⟨rfl, rfl⟩
theorem t249_32 : xtf zt249 11 32 35 (.getfield 147) 147 11 69 3 := ⟨rfl, rfl, rfl, rfl⟩
theorem t249_35 : xt zt249 35 36 (.aload_n 0) := ⟨rfl, rfl⟩
theorem t249_36 : xtf zt249 11 36 39 (.getfield 319) 319 11 67 1 := ⟨rfl, rfl, rfl, rfl⟩
theorem t249_39 : xt zt249 39 40 (.iload_n 1) := ⟨rfl, rfl⟩
theorem t249_40 : xt zt249 40 41 .iastore := ⟨rfl, rfl⟩
theorem t249_41 : xt zt249 41 42 (.aload_n 0) := ⟨rfl, rfl⟩
theorem t249_42 : xtf zt249 11 42 45 (.getfield 150) 150 11 70 3 := ⟨rfl, rfl, rfl, rfl⟩
theorem t249_45 : xt zt249 45 46 (.aload_n 0) := ⟨rfl, rfl⟩
theorem t249_46 : xtf zt249 11 46 49 (.getfield 319) 319 11 67 1 := ⟨rfl, rfl, rfl, rfl⟩
theorem t249_49 : xt zt249 49 50 (.iload_n 2) := ⟨rfl, rfl⟩
theorem t249_50 : xt zt249 50 51 .iastore := ⟨rfl, rfl⟩
theorem t249_51 : xt zt249 51 52 (.aload_n 0) := ⟨rfl, rfl⟩
theorem t249_52 : xtf zt249 11 52 55 (.getfield 153) 153 11 71 3 := ⟨rfl, rfl, rfl, rfl⟩
theorem t249_55 : xt zt249 55 56 (.aload_n 0) := ⟨rfl, rfl⟩
theorem t249_56 : xtf zt249 11 56 59 (.getfield 319) 319 11 67 1 := ⟨rfl, rfl, rfl, rfl⟩
theorem t249_59 : xt zt249 59 60 (.iload_n 3) := ⟨rfl, rfl⟩
theorem t249_60 : xt zt249 60 61 .bastore := ⟨rfl, rfl⟩
theorem t249_61 : xt zt249 61 62 (.aload_n 0) := ⟨rfl, rfl⟩
theorem t249_62 : xtf zt249 11 62 65 (.getfield 157) 157 11 72 3 := ⟨rfl, rfl, rfl, rfl⟩
theorem t249_65 : xt zt249 65 66 (.aload_n 0) := ⟨rfl, rfl⟩
theorem t249_66 : xtf zt249 11 66 69 (.getfield 319) 319 11 67 1 := ⟨rfl, rfl, rfl, rfl⟩
theorem t249_69 : xtk zt249 69 70 (-1) := Or.inl ⟨-1, ⟨rfl, rfl⟩, by decide⟩
theorem t249_70 : xt zt249 70 71 .iastore := ⟨rfl, rfl⟩
theorem t249_71 : xt zt249 71 72 (.aload_n 0) := ⟨rfl, rfl⟩
theorem t249_72 : xt zt249 72 73 .dup := ⟨rfl, rfl⟩
theorem t249_73 : xtf zt249 11 73 76 (.getfield 319) 319 11 67 1 := ⟨rfl, rfl, rfl, rfl⟩
theorem t249_76 : xtk zt249 76 77 (1) := Or.inl ⟨1, ⟨rfl, rfl⟩, by decide⟩
theorem t249_77 : xt zt249 77 78 .iadd := ⟨rfl, rfl⟩
theorem t249_78 : xtf zt249 11 78 81 (.putfield 319) 319 11 67 1 := ⟨rfl, rfl, rfl, rfl⟩
theorem t249_81 : xt zt249 81 82 (.aload_n 0) := ⟨rfl, rfl⟩
theorem t249_82 : xtf zt249 11 82 85 (.getfield 319) 319 11 67 1 := ⟨rfl, rfl, rfl, rfl⟩
theorem t249_85 : xtk zt249 85 86 (1) := Or.inl ⟨1, ⟨rfl, rfl⟩, by decide⟩
theorem t249_86 : xt zt249 86 87 .isub := ⟨rfl, rfl⟩
theorem t249_87 : xt zt249 87 88 .ireturn := ⟨rfl, rfl⟩
theorem t250_0 : xt zt250 0 1 (.aload_n 0) := ⟨rfl, rfl⟩
theorem t250_1 : xtk zt250 1 2 (0) := Or.inl ⟨0, ⟨rfl, rfl⟩, by decide⟩
theorem t250_2 : xtf zt250 11 2 5 (.putfield 166) 166 11 0 1 := ⟨rfl, rfl, rfl, rfl⟩
theorem t250_5 : xt zt250 5 6 (.iload_n 1) := ⟨rfl, rfl⟩
theorem t250_6 : xtb zt250 6 9 26 (.ifCond .lt 20) (20) := ⟨rfl, rfl, rfl⟩
theorem t250_9 : xt zt250 9 10 (.iload_n 1) := ⟨rfl, rfl⟩
theorem t250_10 : xt zt250 10 11 (.aload_n 0) := ⟨rfl, rfl⟩
theorem t250_11 : xtf zt250 11 11 14 (.getfield 319) 319 11 67 1 := ⟨rfl, rfl, rfl, rfl⟩
theorem t250_14 : xtb zt250 14 17 26 (.if_icmp .ge 12) (12) := ⟨rfl, rfl, rfl⟩
theorem t250_17 : xt zt250 17 18 (.aload_n 0) := ⟨rfl, rfl⟩
theorem t250_18 : xtf zt250 11 18 21 (.getfield 319) 319 11 67 1 := ⟨rfl, rfl, rfl, rfl⟩
theorem t250_21 : xtk zt250 21 23 (24) := Or.inr (Or.inl ⟨24, ⟨rfl, rfl⟩, by decide⟩)
theorem t250_23 : xtb zt250 23 26 28 (.if_icmp .ne 5) (5) := ⟨rfl, rfl, rfl⟩
theorem t250_26 : xtk zt250 26 27 (-1) := Or.inl ⟨-1, ⟨rfl, rfl⟩, by decide⟩
theorem t250_27 : xt zt250 27 28 .ireturn := ⟨rfl, rfl⟩
theorem t250_28 : xt zt250 28 29 (.aload_n 0) := ⟨rfl, rfl⟩
theorem t250_29 : xtf zt250 11 29 32 (.getfield 157) 157 11 72 3 := ⟨rfl, rfl, rfl, rfl⟩
theorem t250_32 : xt zt250 32 33 (.aload_n 0) := ⟨rfl, rfl⟩
theorem t250_33 : xtf zt250 11 33 36 (.getfield 319) 319 11 67 1 := ⟨rfl, rfl, rfl, rfl⟩
theorem t250_36 : xt zt250 36 37 (.iload_n 1) := ⟨rfl, rfl⟩
theorem t250_37 : xt zt250 37 38 .iastore := ⟨rfl, rfl⟩
theorem t250_38 : xt zt250 38 39 (.aload_n 0) := ⟨rfl, rfl⟩
theorem t250_39 : xt zt250 39 40 .dup := ⟨rfl, rfl⟩
theorem t250_40 : xtf zt250 11 40 43 (.getfield 319) 319 11 67 1 := ⟨rfl, rfl, rfl, rfl⟩
theorem t250_43 : xtk zt250 43 44 (1) := Or.inl ⟨1, ⟨rfl, rfl⟩, by decide⟩
theorem t250_44 : xt zt250 44 45 .iadd := ⟨rfl, rfl⟩
theorem t250_45 : xtf zt250 11 45 48 (.putfield 319) 319 11 67 1 := ⟨rfl, rfl, rfl, rfl⟩
theorem t250_48 : xt zt250 48 49 (.aload_n 0) := ⟨rfl, rfl⟩
theorem t250_49 : xtf zt250 11 49 52 (.getfield 319) 319 11 67 1 := ⟨rfl, rfl, rfl, rfl⟩
theorem t250_52 : xtk zt250 52 53 (1) := Or.inl ⟨1, ⟨rfl, rfl⟩, by decide⟩
theorem t250_53 : xt zt250 53 54 .isub := ⟨rfl, rfl⟩
theorem t250_54 : xt zt250 54 55 .ireturn := ⟨rfl, rfl⟩
theorem t251_0 : xt zt251 0 1 (.aload_n 0) := ⟨rfl, rfl⟩
theorem t251_1 : xtk zt251 1 2 (0) := Or.inl ⟨0, ⟨rfl, rfl⟩, by decide⟩
theorem t251_2 : xtf zt251 11 2 5 (.putfield 166) 166 11 0 1 := ⟨rfl, rfl, rfl, rfl⟩
theorem t251_5 : xt zt251 5 6 (.iload_n 1) := ⟨rfl, rfl⟩
theorem t251_6 : xtk zt251 6 7 (-1) := Or.inl ⟨-1, ⟨rfl, rfl⟩, by decide⟩
theorem t251_7 : xtb zt251 7 10 18 (.if_icmp .lt 11) (11) := ⟨rfl, rfl, rfl⟩
theorem t251_10 : xt zt251 10 11 (.iload_n 1) := ⟨rfl, rfl⟩
theorem t251_11 : xt zt251 11 12 (.aload_n 0) := ⟨rfl, rfl⟩
theorem t251_12 : xtf zt251 11 12 15 (.getfield 319) 319 11 67 1 := ⟨rfl, rfl, rfl, rfl⟩
theorem t251_15 : xtb zt251 15 18 20 (.if_icmp .le 5) (5) := ⟨rfl, rfl, rfl⟩
theorem t251_18 : xtk zt251 18 19 (0) := Or.inl ⟨0, ⟨rfl, rfl⟩, by decide⟩
theorem t251_19 : xt zt251 19 20 .ireturn := ⟨rfl, rfl⟩
theorem t251_20 : xt zt251 20 21 (.aload_n 0) := ⟨rfl, rfl⟩
theorem t251_21 : xt zt251 21 22 (.iload_n 1) := ⟨rfl, rfl⟩
theorem t251_22 : xtf zt251 11 22 25 (.putfield 144) 144 11 68 1 := ⟨rfl, rfl, rfl, rfl⟩
theorem t251_25 : xtk zt251 25 26 (1) := Or.inl ⟨1, ⟨rfl, rfl⟩, by decide⟩
theorem t251_26 : xt zt251 26 27 .ireturn := ⟨rfl, rfl⟩
theorem t191_0 : xt zt191 0 1 (.iload_n 1) := ⟨rfl, rfl⟩
theorem t191_1 : xtb zt191 1 4 18 (.ifCond .lt 17) (17) := ⟨rfl, rfl, rfl⟩
theorem t191_4 : xt zt191 4 5 (.iload_n 1) := ⟨rfl, rfl⟩
theorem t191_5 : xt zt191 5 6 (.aload_n 0) := ⟨rfl, rfl⟩
theorem t191_6 : xtf zt191 11 6 9 (.getfield 13) 13 11 3 3 := ⟨rfl, rfl, rfl, rfl⟩
theorem t191_9 : xtk zt191 9 10 (1) := Or.inl ⟨1, ⟨rfl, rfl⟩, by decide⟩
theorem t191_10 : xt zt191 10 11 .iaload := ⟨rfl, rfl⟩
theorem t191_11 : xtb zt191 11 14 18 (.if_icmp .ge 7) (7) := ⟨rfl, rfl, rfl⟩
theorem t191_14 : xtk zt191 14 15 (1) := Or.inl ⟨1, ⟨rfl, rfl⟩, by decide⟩
theorem t191_15 : xtb zt191 15 18 19 (.goto 4) (4) := ⟨rfl, rfl, rfl⟩
theorem t191_18 : xtk zt191 18 19 (0) := Or.inl ⟨0, ⟨rfl, rfl⟩, by decide⟩
theorem t191_19 : xt zt191 19 20 .ireturn := ⟨rfl, rfl⟩
theorem t193_0 : xt zt193 0 1 (.iload_n 0) := ⟨rfl, rfl⟩
theorem t193_1 : xtb zt193 1 4 14 (.ifCond .lt 13) (13) := ⟨rfl, rfl, rfl⟩
theorem t193_4 : xt zt193 4 5 (.iload_n 0) := ⟨rfl, rfl⟩
theorem t193_5 : xtk zt193 5 7 (60) := Or.inr (Or.inl ⟨60, ⟨rfl, rfl⟩, by decide⟩)
theorem t193_7 : xtb zt193 7 10 14 (.if_icmp .gt 7) (7) := ⟨rfl, rfl, rfl⟩
theorem t193_10 : xtk zt193 10 11 (1) := Or.inl ⟨1, ⟨rfl, rfl⟩, by decide⟩
theorem t193_11 : xtb zt193 11 14 15 (.goto 4) (4) := ⟨rfl, rfl, rfl⟩
theorem t193_14 : xtk zt193 14 15 (0) := Or.inl ⟨0, ⟨rfl, rfl⟩, by decide⟩
theorem t193_15 : xt zt193 15 16 .ireturn := ⟨rfl, rfl⟩
section XI
variable {nf : Bool} {xs : List Int32} {d c : Nat} {ini : Bool} {nL : Nat} {rt : Option FieldType} {tab : Nat → Option (Instr × Nat)} {G : xG} {r : Option Value} {h' : zH} {pc pc' len : Nat} {ls ls' : zL} {st : List Value} {m : xM} {g : xL} {N : Nat}
theorem s_bastore {a : Nat} {i x : Int32} (t : xt tab pc pc' .bastore) : XS nf xs d c ini nL rt tab G r h' (pc, ls, .int x :: .int i :: .ref a :: st, m, g) (pc', ls, st, xu m a i.toNatClampNeg (x &&& 1), g) := by
  obtain ⟨t, rfl⟩ := t
  intro n ⟨h, hs, q2⟩
  obtain ⟨n', p1, l1, s1, k1, en, z, q⟩ := zinv t rfl rfl rfl q2
  simp only [zstep, zstI, zstL, zstH] at z
  split at z
  · next l hh =>
    split at z
    · next qi =>
      cases z
      exact ⟨n', en, _, xset_arr hs hh (xidx qi).1, q⟩
    · cases z
  · cases z
end XI
theorem lp19 {nf : Bool} {xs : List Int32} {d : Nat} {g : xL} {G : xG} {r : Option Value} {h' : zH} {p q L : Nat} {m0 : xM} (hp : G.1 p 9 = some (p + 1)) (hq : G.1 q 9 = some (q + 1)) (hl : G.2 (q + 1) = (0, 1, L)) : ∀ (N : Nat) (k : Int32) (m : xM), (∀ a : Nat, ¬ a = p + 1 → m a = m0 a) → RR nf xs d 2 false 3 none zt19 G r h' N (74, [(2, .int k), (0, .ref p), (1, .ref q)], [], m, g) → ∃ (m' : xM) (g' : xL), HS h' m' g' G ∧ PF none g (fun m' => ∀ a : Nat, ¬ a = p + 1 → m' a = m0 a) r m' g' := by
  intro N
  induction N with
  | zero => intro k m _ hr; exact hr.no.elim
  | succ N ih =>
    intro k m hm hr
    replace hr := hr.go1 (s_iload_n t19_74 rfl)
    replace hr := hr.go (s_k t19_75)
    rcases hr.bGe t19_77 with ⟨b77, hr⟩ | ⟨b77, hr⟩
    · obtain ⟨rfl, hs⟩ := hr.ret t19_98
      exact ⟨_, _, hs, rfl, rfl, hm⟩
    · replace hr := hr.go (s_aload_n t19_80 rfl)
      replace hr := hr.go (s_getr t19_81 (hp))
      replace hr := hr.go (s_iload_n t19_84 rfl)
      replace hr := hr.go (s_aload_n t19_85 rfl)
      replace hr := hr.go (s_getr t19_86 (hq))
      replace hr := hr.go (s_iload_n t19_89 rfl)
      replace hr := hr.go (s_iaload t19_90 (hl))
      replace hr := hr.go (s_iastore t19_91)
      replace hr := hr.go (s_iinc (ls' := [(2, _), (0, _), (1, _)]) t19_92 rfl rfl)
      replace hr := hr.go (s_goto t19_95)
      exact ih _ _ (fun a a1 => by rw [xu_row a1]; exact hm a a1) hr
theorem ct_pcopy {nf : Bool} {xs : List Int32} {d : Nat} {m : xM} {g : xL} {G : xG} {p q L : Nat} (hp : G.1 p 9 = some (p + 1)) (hq : G.1 q 9 = some (q + 1)) (hl : G.2 (q + 1) = (0, 1, L)) (hn : ¬ q = p) : CT nf xs d 19 [.ref p, .ref q] m g G (PF none g (fun m' => (∀ a : Nat, ¬ a = p → ¬ a = p + 1 → m' a = m a) ∧ ∀ j : Nat, j < 9 → m' p j = m q j)) := by
  refine CT.of (c := 2) (ini := false) (nL := 3) (rt := none) (tab := zt19) rfl (fun d' r h' N hd' hr => ?_)
  replace hr : RR nf xs d' 2 false 3 none zt19 G r h' N (0, [(0, .ref p), (1, .ref q)], [], m, g) := hr
  replace hr := hr.go (s_aload_n t19_0 rfl)
  replace hr := hr.go (s_aload_n t19_1 rfl)
  replace hr := hr.go (s_getf t19_2)
  replace hr := hr.go (s_putf t19_5)
  replace hr := hr.go (s_aload_n t19_8 rfl)
  replace hr := hr.go (s_aload_n t19_9 rfl)
  replace hr := hr.go (s_getf t19_10)
  replace hr := hr.go (s_putf t19_13)
  replace hr := hr.go (s_aload_n t19_16 rfl)
  replace hr := hr.go (s_aload_n t19_17 rfl)
  replace hr := hr.go (s_getf t19_18)
  replace hr := hr.go (s_putf t19_21)
  replace hr := hr.go (s_aload_n t19_24 rfl)
  replace hr := hr.go (s_aload_n t19_25 rfl)
  replace hr := hr.go (s_getf t19_26)
  replace hr := hr.go (s_putf t19_29)
  replace hr := hr.go (s_aload_n t19_32 rfl)
  replace hr := hr.go (s_aload_n t19_33 rfl)
  replace hr := hr.go (s_getf t19_34)
  replace hr := hr.go (s_putf t19_37)
  replace hr := hr.go (s_aload_n t19_40 rfl)
  replace hr := hr.go (s_aload_n t19_41 rfl)
  replace hr := hr.go (s_getf t19_42)
  replace hr := hr.go (s_putf t19_45)
  replace hr := hr.go (s_aload_n t19_48 rfl)
  replace hr := hr.go (s_aload_n t19_49 rfl)
  replace hr := hr.go (s_getf t19_50)
  replace hr := hr.go (s_putf t19_53)
  replace hr := hr.go (s_aload_n t19_56 rfl)
  replace hr := hr.go (s_aload_n t19_57 rfl)
  replace hr := hr.go (s_getf t19_58)
  replace hr := hr.go (s_putf t19_61)
  replace hr := hr.go (s_aload_n t19_64 rfl)
  replace hr := hr.go (s_aload_n t19_65 rfl)
  replace hr := hr.go (s_getf t19_66)
  replace hr := hr.go (s_putf t19_69)
  replace hr := hr.go (s_k t19_72)
  replace hr := hr.go (s_istore_n (ls' := [(2, _), (0, _), (1, _)]) t19_73 rfl)
  obtain ⟨m', g', hs, h1, h2, h3⟩ := lp19 hp hq hl _ _ _ (fun a _ => rfl) hr
  refine ⟨m', g', hs, h1, h2, fun a a1 a2 => ?_, fun j hj => ?_⟩
  · rw [h3 a a2]
    repeat rw [xu_row a1]
  · rw [h3 p (by omega)]
    rcases (show j = 0 ∨ j = 1 ∨ j = 2 ∨ j = 3 ∨ j = 4 ∨ j = 5 ∨ j = 6 ∨ j = 7 ∨ j = 8 by omega) with rfl | rfl | rfl | rfl | rfl | rfl | rfl | rfl | rfl
    all_goals simp [xu, hn]
/-- the cells of a ride at a -/
def GQ (G : xG) (a : Nat) : Prop := G.1 a 0 = some (a + 1) ∧ G.1 a 1 = some (a + 2) ∧ ∀ k : Nat, k < 6 → G.1 (a + 1) k = some (a + 3 + 2 * k) ∧ G.1 (a + 3 + 2 * k) 9 = some (a + 3 + 2 * k + 1) ∧ ∃ L : Nat, G.2 (a + 3 + 2 * k + 1) = (0, 1, L)
theorem GQ_xgu {G : xG} {a b x : Nat} (h : GQ G a) (hb : b = a ∨ b + 15 ≤ a ∨ a + 15 ≤ b) : GQ (xgu G b 2 x) a :=
  ⟨(xgu_oth (by omega)).trans h.1, (xgu_oth (by omega)).trans h.2.1, fun k hk => ⟨(xgu_oth (by omega)).trans (h.2.2 k hk).1, (xgu_oth (by omega)).trans (h.2.2 k hk).2.1, (h.2.2 k hk).2.2⟩⟩
/-- a ride at b is copied to a: what the memory is then -/
def RCP (a b n : Nat) (m : xM) (g : xL) (m' : xM) (g' : xL) : Prop := (∀ c : Nat, c < a ∨ a + 15 ≤ c → m' c = m c) ∧ (∀ j : Nat, 3 ≤ j → j < 12 → m' a j = m b j) ∧ (∀ i : Nat, i < n → ∀ j : Nat, j < 9 → m' (a + 3 + 2 * i) j = m (b + 3 + 2 * i) j) ∧ (∀ c : Nat, ¬ c = a + 2 → g' c = g c) ∧ ∀ j : Nat, j < 6 → g' (a + 2) j = g (b + 2) j
theorem lp48b {nf : Bool} {xs : List Int32} {d : Nat} {m : xM} {G : xG} {r : Option Value} {h' : zH} {a b : Nat} {g0 : xL} (hA : GQ G a) (hB : GQ G b) (hab : a + 15 ≤ b ∨ b + 15 ≤ a) : ∀ (N k : Nat) (g : xL), (∀ c : Nat, ¬ c = a + 2 → g c = g0 c) → (∀ j : Nat, j < k → g (a + 2) j = g0 (b + 2) j) → k ≤ 6 → RR nf xs d 5 false 3 none zt48 G r h' N (119, [(2, .int (Int32.ofNat k)), (0, .ref a), (1, .ref b)], [], m, g) → ∃ (m' : xM) (g' : xL), HS h' m' g' G ∧ r = none ∧ m' = m ∧ (∀ c : Nat, ¬ c = a + 2 → g' c = g0 c) ∧ ∀ j : Nat, j < 6 → g' (a + 2) j = g0 (b + 2) j := by
  intro N
  induction N with
  | zero => intro k g _ _ _ hr; exact hr.no.elim
  | succ N ih =>
    intro k g h1 h2 hk hr
    have qk : (Int32.ofNat k).toInt = (k : Int) := xn_int (by omega)
    have k6 : (6 : Int32).toInt = 6 := rfl
    replace hr := hr.go1 (s_iload_n t48_119 rfl)
    replace hr := hr.go (s_k t48_120)
    rcases hr.bGe t48_122 with ⟨b122, hr⟩ | ⟨b122, hr⟩
    · obtain ⟨rfl, hs⟩ := hr.ret t48_143
      exact ⟨_, _, hs, rfl, rfl, h1, fun j hj => h2 j (by omega)⟩
    · replace hr := hr.go (s_aload_n t48_125 rfl)
      replace hr := hr.go (s_getr t48_126 (hA.2.1))
      replace hr := hr.go (s_iload_n t48_129 rfl)
      replace hr := hr.go (s_aload_n t48_130 rfl)
      replace hr := hr.go (s_getr t48_131 (hB.2.1))
      replace hr := hr.go (s_iload_n t48_134 rfl)
      replace hr := hr.go (s_laload t48_135)
      replace hr := hr.go (s_lastore t48_136)
      rw [xn_nat (show k < 2147483648 by omega)] at hr
      replace hr := hr.go (s_iinc (ls' := [(2, _), (0, _), (1, _)]) t48_137 rfl rfl)
      rw [xn_1i] at hr
      replace hr := hr.go (s_goto t48_140)
      refine ih (k + 1) _ (fun c hc => (xu_row hc).trans (h1 c hc)) (fun j hj => ?_) (by omega) hr
      by_cases e : j = k
      · subst e
        rw [xu_same, h1 _ (by omega)]
      · rw [xu_oth (by omega)]
        exact h2 j (by omega)
theorem lp48a {nf : Bool} {xs : List Int32} {d : Nat} {g : xL} {G : xG} {r : Option Value} {h' : zH} {a b n : Nat} {m0 : xM} {ma : Nat → Int32} (hA : GQ G a) (hB : GQ G b) (hab : a + 15 ≤ b ∨ b + 15 ≤ a) (hn : n ≤ 6) (h3 : ma 3 = Int32.ofNat n) : ∀ (N k : Nat) (m : xM), (∀ c : Nat, c < a ∨ a + 15 ≤ c → m c = m0 c) → m a = ma → (∀ i : Nat, i < k → ∀ j : Nat, j < 9 → m (a + 3 + 2 * i) j = m0 (b + 3 + 2 * i) j) → k ≤ n → RR nf xs d 5 false 3 none zt48 G r h' N (82, [(2, .int (Int32.ofNat k)), (0, .ref a), (1, .ref b)], [], m, g) → ∃ (m' : xM) (g' : xL), HS h' m' g' G ∧ r = none ∧ (∀ c : Nat, c < a ∨ a + 15 ≤ c → m' c = m0 c) ∧ m' a = ma ∧ (∀ i : Nat, i < n → ∀ j : Nat, j < 9 → m' (a + 3 + 2 * i) j = m0 (b + 3 + 2 * i) j) ∧ (∀ c : Nat, ¬ c = a + 2 → g' c = g c) ∧ ∀ j : Nat, j < 6 → g' (a + 2) j = g (b + 2) j := by
  intro N
  induction N with
  | zero => intro k m _ _ _ _ hr; exact hr.no.elim
  | succ N ih =>
    intro k m h1 h2 h4 hk hr
    have qk : (Int32.ofNat k).toInt = (k : Int) := xn_int (by omega)
    have qn : (Int32.ofNat n).toInt = (n : Int) := xn_int (by omega)
    have k6 : (6 : Int32).toInt = 6 := rfl
    replace hr := hr.go1 (s_iload_n t48_82 rfl)
    replace hr := hr.go (s_aload_n t48_83 rfl)
    replace hr := hr.go (s_getf t48_84)
    rw [h2, h3] at hr
    rcases hr.bGe t48_87 with ⟨b87, hr⟩ | ⟨b87, hr⟩
    · replace hr := hr.go (s_k t48_117)
      replace hr := hr.go (s_istore_n (ls' := [(2, _), (0, _), (1, _)]) t48_118 rfl)
      obtain ⟨m', g', hs, e1, e2, e3, e4⟩ := lp48b hA hB hab N 0 g (fun c _ => rfl) (fun j hj => absurd hj (Nat.not_lt_zero j)) (by decide) hr
      subst e2
      exact ⟨_, g', hs, e1, h1, h2, fun i hi => h4 i (by omega), e3, e4⟩
    · replace hr := hr.go (s_iload_n t48_90 rfl)
      replace hr := hr.go (s_k t48_91)
      rcases hr.bGe t48_93 with ⟨b93, hr⟩ | ⟨b93, hr⟩
      · exact absurd b93 (by omega)
      · replace hr := hr.go (s_aload_n t48_96 rfl)
        replace hr := hr.go (s_getr t48_97 (hA.1))
        replace hr := hr.go (s_iload_n t48_100 rfl)
        replace hr := hr.go (s_aaload t48_101 (by rw [xn_nat (by omega)]; exact (hA.2.2 k (by omega)).1))
        replace hr := hr.go (s_aload_n t48_102 rfl)
        replace hr := hr.go (s_getr t48_103 (hB.1))
        replace hr := hr.go (s_iload_n t48_106 rfl)
        replace hr := hr.go (s_aaload t48_107 (by rw [xn_nat (by omega)]; exact (hB.2.2 k (by omega)).1))
        obtain ⟨lq, hlq⟩ := (hB.2.2 k (by omega)).2.2
        obtain ⟨m1, q1, hr⟩ := hr.fvN t48_108 rfl rfl (ct_pcopy (p := a + 3 + 2 * k) (q := b + 3 + 2 * k) (hA.2.2 k (by omega)).2.1 (hB.2.2 k (by omega)).2.1 hlq (by omega))
        skip
        replace hr := hr.go (s_iinc (ls' := [(2, _), (0, _), (1, _)]) t48_111 rfl rfl)
        rw [xn_1i] at hr
        replace hr := hr.go (s_goto t48_114)
        refine ih (k + 1) m1 (fun c hc => (q1.1 c (by omega) (by omega)).trans (h1 c hc)) ((q1.1 a (by omega) (by omega)).trans h2) (fun i hi j hj => ?_) (by omega) hr
        by_cases e : i = k
        · subst e
          rw [q1.2 j hj, h1 _ (by omega)]
        · rw [q1.1 _ (by omega) (by omega)]
          exact h4 i (by omega) j hj
theorem cg_rcopy {nf : Bool} {xs : List Int32} {d : Nat} {m : xM} {g : xL} {G : xG} {a b n x : Nat} (hA : GQ G a) (hB : GQ G b) (hab : a + 15 ≤ b ∨ b + 15 ≤ a) (hn : n ≤ 6) (h3 : m b 3 = Int32.ofNat n) (hx : G.1 b 2 = some x) : CG nf xs d 48 [.ref a, .ref b] m g G (fun r m' g' G' => r = none ∧ G' = xgu G a 2 x ∧ RCP a b n m g m' g') := by
  refine CG.of (c := 5) (ini := false) (nL := 3) (rt := none) (tab := zt48) rfl (fun d' r h' N hd' hr => ?_)
  replace hr : RR nf xs d' 5 false 3 none zt48 G r h' N (0, [(0, .ref a), (1, .ref b)], [], m, g) := hr
  have hba : ¬ b = a := by omega
  replace hr := hr.go (s_aload_n t48_0 rfl)
  replace hr := hr.go (s_aload_n t48_1 rfl)
  replace hr := hr.go (s_getr t48_2 (hx))
  replace hr := hr.putr t48_5
  replace hr := hr.go (s_aload_n t48_8 rfl)
  replace hr := hr.go (s_aload_n t48_9 rfl)
  replace hr := hr.go (s_getf t48_10)
  replace hr := hr.go (s_putf t48_13)
  replace hr := hr.go (s_aload_n t48_16 rfl)
  replace hr := hr.go (s_aload_n t48_17 rfl)
  replace hr := hr.go (s_getf t48_18)
  replace hr := hr.go (s_putf t48_21)
  replace hr := hr.go (s_aload_n t48_24 rfl)
  replace hr := hr.go (s_aload_n t48_25 rfl)
  replace hr := hr.go (s_getf t48_26)
  replace hr := hr.go (s_putf t48_29)
  replace hr := hr.go (s_aload_n t48_32 rfl)
  replace hr := hr.go (s_aload_n t48_33 rfl)
  replace hr := hr.go (s_getf t48_34)
  replace hr := hr.go (s_putf t48_37)
  replace hr := hr.go (s_aload_n t48_40 rfl)
  replace hr := hr.go (s_aload_n t48_41 rfl)
  replace hr := hr.go (s_getf t48_42)
  replace hr := hr.go (s_putf t48_45)
  replace hr := hr.go (s_aload_n t48_48 rfl)
  replace hr := hr.go (s_aload_n t48_49 rfl)
  replace hr := hr.go (s_getf t48_50)
  replace hr := hr.go (s_putf t48_53)
  replace hr := hr.go (s_aload_n t48_56 rfl)
  replace hr := hr.go (s_aload_n t48_57 rfl)
  replace hr := hr.go (s_getf t48_58)
  replace hr := hr.go (s_putf t48_61)
  replace hr := hr.go (s_aload_n t48_64 rfl)
  replace hr := hr.go (s_aload_n t48_65 rfl)
  replace hr := hr.go (s_getf t48_66)
  replace hr := hr.go (s_putf t48_69)
  replace hr := hr.go (s_aload_n t48_72 rfl)
  replace hr := hr.go (s_aload_n t48_73 rfl)
  replace hr := hr.go (s_getf t48_74)
  replace hr := hr.go (s_putf t48_77)
  replace hr := hr.go (s_k t48_80)
  replace hr := hr.go (s_istore_n (ls' := [(2, _), (0, _), (1, _)]) t48_81 rfl)
  obtain ⟨m', g', hs, e1, e2, e3, e4, e5, e6⟩ := lp48a (ma := _) (GQ_xgu hA (Or.inl rfl)) (GQ_xgu hB (by omega)) hab hn (by simp [xu, hba, h3]) _ 0 _ (fun c _ => rfl) rfl (fun i hi => absurd hi (Nat.not_lt_zero i)) (Nat.zero_le _) hr
  refine ⟨m', g', _, hs, e1, rfl, fun c hc => ?_, fun j j1 j2 => ?_, fun i hi j hj => ?_, e5, e6⟩
  · rw [e2 c hc]
    repeat rw [xu_row (by omega)]
  · rw [e3]
    rcases (show j = 3 ∨ j = 4 ∨ j = 5 ∨ j = 6 ∨ j = 7 ∨ j = 8 ∨ j = 9 ∨ j = 10 ∨ j = 11 by omega) with rfl | rfl | rfl | rfl | rfl | rfl | rfl | rfl | rfl
    all_goals simp [xu, hba]
  · rw [e4 i hi j hj]
    repeat rw [xu_row (by omega)]
theorem cg_keep {nf : Bool} {xs : List Int32} {d : Nat} {m : xM} {g : xL} {G : xG} {n x : Nat} (h7 : G.1 0 7 = some 55) (h8 : G.1 0 8 = some 70) (hA : GQ G 55) (hB : GQ G 70) (hn : n ≤ 6) (h3 : m 55 3 = Int32.ofNat n) (hx : G.1 55 2 = some x) : CG nf xs d 118 [.ref 0] m g G (fun r m' g' G' => r = some (.int (m 55 4)) ∧ G' = xgu G 70 2 x ∧ ∃ m1 : xM, RCP 70 55 n m g m1 g' ∧ m' = xu m1 0 11 1) := by
  refine CG.of (c := 10) (ini := false) (nL := 1) (rt := some .int) (tab := zt118) rfl (fun d' r h' N hd' hr => ?_)
  replace hr : RR nf xs d' 10 false 1 (some .int) zt118 G r h' N (0, [(0, .ref 0)], [], m, g) := hr
  have h7' : (xgu G 70 2 x).1 0 7 = some 55 := (xgu_oth (by decide)).trans h7
  replace hr := hr.go (s_aload_n t118_0 rfl)
  replace hr := hr.go (s_getr t118_1 (h8))
  replace hr := hr.go (s_aload_n t118_4 rfl)
  replace hr := hr.go (s_getr t118_5 (h7))
  obtain ⟨_, m1, g1, _, ⟨rfl, rfl, hq⟩, hr⟩ := hr.callvG t118_8 rfl rfl (cg_rcopy (a := 70) (b := 55) hB hA (by decide) hn h3 hx)
  replace hr : RR nf xs d' 10 false 1 (some .int) zt118 (xgu G 70 2 x) r h' N (11, [(0, .ref 0)], [], m1, g1) := hr
  skip
  replace hr := hr.go (s_aload_n t118_11 rfl)
  replace hr := hr.go (s_k t118_12)
  replace hr := hr.go (s_putf t118_13)
  replace hr := hr.go (s_aload_n t118_16 rfl)
  replace hr := hr.go (s_getr t118_17 (h7'))
  replace hr := hr.go (s_getf t118_20)
  obtain ⟨rfl, hs⟩ := hr.iret t118_23
  exact ⟨_, _, _, hs, by rw [xu_row (by decide), hq.1 55 (by decide)], rfl, m1, hq, rfl⟩
theorem cg_back {nf : Bool} {xs : List Int32} {d : Nat} {m : xM} {g : xL} {G : xG} {n x : Nat} (h7 : G.1 0 7 = some 55) (h8 : G.1 0 8 = some 70) (h13 : G.1 0 13 = some 116) (hA : GQ G 55) (hB : GQ G 70) (hn : n ≤ 6) (h3 : m 70 3 = Int32.ofNat n) (hx : G.1 70 2 = some x) : CG nf xs d 119 [.ref 0] m g G (fun r m' g' G' => (m 0 11 = 0 ∧ r = some (.int (-1)) ∧ m' = m ∧ g' = g ∧ G' = G) ∨ (¬ m 0 11 = 0 ∧ r = some (.int (m 70 4)) ∧ G' = xgu G 55 2 x ∧ ∃ m1 : xM, RCP 55 70 n m g m1 g' ∧ m' = xu m1 116 3 0)) := by
  refine CG.of (c := 10) (ini := false) (nL := 1) (rt := some .int) (tab := zt119) rfl (fun d' r h' N hd' hr => ?_)
  replace hr : RR nf xs d' 10 false 1 (some .int) zt119 G r h' N (0, [(0, .ref 0)], [], m, g) := hr
  have h7' : (xgu G 55 2 x).1 0 7 = some 55 := (xgu_oth (by decide)).trans h7
  have h13' : (xgu G 55 2 x).1 0 13 = some 116 := (xgu_oth (by decide)).trans h13
  replace hr := hr.go (s_aload_n t119_0 rfl)
  replace hr := hr.go (s_getf t119_1)
  rcases hr.zNe t119_4 with ⟨b1, hr⟩ | ⟨b1, hr⟩
  · replace hr := hr.go (s_aload_n t119_9 rfl)
    replace hr := hr.go (s_getr t119_10 (h7))
    replace hr := hr.go (s_aload_n t119_13 rfl)
    replace hr := hr.go (s_getr t119_14 (h8))
    obtain ⟨_, m1, g1, _, ⟨rfl, rfl, hq⟩, hr⟩ := hr.callvG t119_17 rfl rfl (cg_rcopy (a := 55) (b := 70) hA hB (by decide) hn h3 hx)
    replace hr : RR nf xs d' 10 false 1 (some .int) zt119 (xgu G 55 2 x) r h' N (20, [(0, .ref 0)], [], m1, g1) := hr
    skip
    replace hr := hr.go (s_aload_n t119_20 rfl)
    replace hr := hr.go (s_getr t119_21 (h13'))
    replace hr := hr.cvN t119_24 rfl rfl (ct_uclear)
    replace hr := hr.go (s_aload_n t119_27 rfl)
    replace hr := hr.go (s_getr t119_28 (h7'))
    replace hr := hr.go (s_getf t119_31)
    obtain ⟨rfl, hs⟩ := hr.iret t119_34
    exact ⟨_, _, _, hs, Or.inr ⟨b1, by rw [xu_row (by decide), hq.2.1 4 (by decide) (by decide)], rfl, m1, hq, rfl⟩⟩
  · replace hr := hr.go (s_k t119_7)
    obtain ⟨rfl, hs⟩ := hr.iret t119_8
    exact ⟨_, _, _, hs, Or.inl ⟨b1, rfl, rfl, rfl, rfl⟩⟩
end
section
/-! Riders, miles, notes, of both sides (by program: wip/x/gV2.py). -/
def rdV (x n : Int32) : Int32 := if x.toInt < 0 then 0 else if n.toInt ≤ x.toInt then 0 else 1
def mlV (y : Int32) : Int32 := if y.toInt < 0 then 0 else if 60 < y.toInt then 0 else 1
/-- a note: the answer, how many there are then -/
def ntV (x y n : Int32) (v : Nat) : Int32 := if rdV x n = 0 then -1 else if mlV y = 0 then -1 else if v = 24 then -1 else Int32.ofNat v
def ntN (x y n : Int32) (v : Nat) : Nat := if rdV x n = 0 then v else if mlV y = 0 then v else if v = 24 then v else v + 1
def stV (x : Int32) (v : Nat) : Int32 := if x.toInt < 0 then -1 else if (v : Int) ≤ x.toInt then -1 else if v = 24 then -1 else Int32.ofNat v
def stN (x : Int32) (v : Nat) : Nat := if x.toInt < 0 then v else if (v : Int) ≤ x.toInt then v else if v = 24 then v else v + 1
def knV (x : Int32) (v : Nat) : Int32 := if x.toInt < -1 then 0 else if (v : Int) < x.toInt then 0 else 1
theorem ct_isRiderC {nf : Bool} {xs : List Int32} {d : Nat} {m : xM} {g : xL} {G : xG} {x : Int32} (h7 : G.1 0 7 = some 55) : CT nf xs d 103 [.ref 0, .int x] m g G (PE (some (.int (rdV x (m 55 3)))) m g) := by
  refine CT.of (c := 10) (ini := false) (nL := 2) (rt := some .boolean) (tab := zt103) rfl (fun d' r h' N hd hr => ?_)
  replace hr : RR nf xs d' 10 false 2 (some .boolean) zt103 G r h' N (0, [(0, .ref 0), (1, .int x)], [], m, g) := hr
  have k1 : (1 : Int32).toInt = 1 := rfl
  replace hr := hr.go (s_iload_n t103_0 rfl)
  rcases hr.zLt t103_1 with ⟨b1, hr⟩ | ⟨b1, hr⟩
  · replace hr := hr.go (s_k t103_19)
    obtain ⟨rfl, hs⟩ := hr.iret t103_20
    exact ⟨_, _, hs, by unfold rdV; repeat (first | rw [if_pos (by omega)] | rw [if_neg (by omega)]), rfl, rfl⟩
  · replace hr := hr.go (s_iload_n t103_4 rfl)
    replace hr := hr.go (s_aload_n t103_5 rfl)
    replace hr := hr.go (s_getr t103_6 (h7))
    replace hr := hr.go (s_getf t103_9)
    rcases hr.bGe t103_12 with ⟨b12, hr⟩ | ⟨b12, hr⟩
    · replace hr := hr.go (s_k t103_19)
      obtain ⟨rfl, hs⟩ := hr.iret t103_20
      exact ⟨_, _, hs, by unfold rdV; repeat (first | rw [if_pos (by omega)] | rw [if_neg (by omega)]), rfl, rfl⟩
    · replace hr := hr.go (s_k t103_15)
      replace hr := hr.go (s_goto t103_16)
      obtain ⟨rfl, hs⟩ := hr.iret t103_20
      exact ⟨_, _, hs, by unfold rdV; repeat (first | rw [if_pos (by omega)] | rw [if_neg (by omega)]), rfl, rfl⟩
theorem ct_isMileC {nf : Bool} {xs : List Int32} {d : Nat} {m : xM} {g : xL} {G : xG} {x : Int32} : CT nf xs d 105 [.int x] m g G (PE (some (.int (mlV x))) m g) := by
  refine CT.of (c := 10) (ini := false) (nL := 1) (rt := some .boolean) (tab := zt105) rfl (fun d' r h' N hd hr => ?_)
  replace hr : RR nf xs d' 10 false 1 (some .boolean) zt105 G r h' N (0, [(0, .int x)], [], m, g) := hr
  have k1 : (1 : Int32).toInt = 1 := rfl
  have k60 : (60 : Int32).toInt = 60 := rfl
  replace hr := hr.go (s_iload_n t105_0 rfl)
  rcases hr.zLt t105_1 with ⟨b1, hr⟩ | ⟨b1, hr⟩
  · replace hr := hr.go (s_k t105_14)
    obtain ⟨rfl, hs⟩ := hr.iret t105_15
    exact ⟨_, _, hs, by unfold mlV; repeat (first | rw [if_pos (by omega)] | rw [if_neg (by omega)]), rfl, rfl⟩
  · replace hr := hr.go (s_iload_n t105_4 rfl)
    replace hr := hr.go (s_k t105_5)
    rcases hr.bGt t105_7 with ⟨b7, hr⟩ | ⟨b7, hr⟩
    · replace hr := hr.go (s_k t105_14)
      obtain ⟨rfl, hs⟩ := hr.iret t105_15
      exact ⟨_, _, hs, by unfold mlV; repeat (first | rw [if_pos (by omega)] | rw [if_neg (by omega)]), rfl, rfl⟩
    · replace hr := hr.go (s_k t105_10)
      replace hr := hr.go (s_goto t105_11)
      obtain ⟨rfl, hs⟩ := hr.iret t105_15
      exact ⟨_, _, hs, by unfold mlV; repeat (first | rw [if_pos (by omega)] | rw [if_neg (by omega)]), rfl, rfl⟩
theorem ct_isRiderR {nf : Bool} {xs : List Int32} {d : Nat} {m : xM} {g : xL} {G : xG} {x : Int32} (h3 : G.1 128 3 = some 130) (hl : G.2 130 = (0, 1, 18)) : CT nf xs d 191 [.ref 128, .int x] m g G (PE (some (.int (rdV x (m 130 1)))) m g) := by
  refine CT.of (c := 11) (ini := false) (nL := 2) (rt := some .boolean) (tab := zt191) rfl (fun d' r h' N hd hr => ?_)
  replace hr : RR nf xs d' 11 false 2 (some .boolean) zt191 G r h' N (0, [(0, .ref 128), (1, .int x)], [], m, g) := hr
  have k1 : (1 : Int32).toInt = 1 := rfl
  replace hr := hr.go (s_iload_n t191_0 rfl)
  rcases hr.zLt t191_1 with ⟨b1, hr⟩ | ⟨b1, hr⟩
  · replace hr := hr.go (s_k t191_18)
    obtain ⟨rfl, hs⟩ := hr.iret t191_19
    exact ⟨_, _, hs, by unfold rdV; repeat (first | rw [if_pos (by omega)] | rw [if_neg (by omega)]), rfl, rfl⟩
  · replace hr := hr.go (s_iload_n t191_4 rfl)
    replace hr := hr.go (s_aload_n t191_5 rfl)
    replace hr := hr.go (s_getr t191_6 (h3))
    replace hr := hr.go (s_k t191_9)
    replace hr := hr.go (s_iaload t191_10 (hl))
    replace hr : RR nf xs d' 11 false 2 (some .boolean) zt191 G r h' N (11, [(0, .ref 128), (1, .int x)], [.int (m 130 1), .int x], m, g) := hr
    rcases hr.bGe t191_11 with ⟨b11, hr⟩ | ⟨b11, hr⟩
    · replace hr := hr.go (s_k t191_18)
      obtain ⟨rfl, hs⟩ := hr.iret t191_19
      exact ⟨_, _, hs, by unfold rdV; repeat (first | rw [if_pos (by omega)] | rw [if_neg (by omega)]), rfl, rfl⟩
    · replace hr := hr.go (s_k t191_14)
      replace hr := hr.go (s_goto t191_15)
      obtain ⟨rfl, hs⟩ := hr.iret t191_19
      exact ⟨_, _, hs, by unfold rdV; repeat (first | rw [if_pos (by omega)] | rw [if_neg (by omega)]), rfl, rfl⟩
theorem ct_isMileR {nf : Bool} {xs : List Int32} {d : Nat} {m : xM} {g : xL} {G : xG} {x : Int32} : CT nf xs d 193 [.int x] m g G (PE (some (.int (mlV x))) m g) := by
  refine CT.of (c := 11) (ini := false) (nL := 1) (rt := some .boolean) (tab := zt193) rfl (fun d' r h' N hd hr => ?_)
  replace hr : RR nf xs d' 11 false 1 (some .boolean) zt193 G r h' N (0, [(0, .int x)], [], m, g) := hr
  have k1 : (1 : Int32).toInt = 1 := rfl
  have k60 : (60 : Int32).toInt = 60 := rfl
  replace hr := hr.go (s_iload_n t193_0 rfl)
  rcases hr.zLt t193_1 with ⟨b1, hr⟩ | ⟨b1, hr⟩
  · replace hr := hr.go (s_k t193_14)
    obtain ⟨rfl, hs⟩ := hr.iret t193_15
    exact ⟨_, _, hs, by unfold mlV; repeat (first | rw [if_pos (by omega)] | rw [if_neg (by omega)]), rfl, rfl⟩
  · replace hr := hr.go (s_iload_n t193_4 rfl)
    replace hr := hr.go (s_k t193_5)
    rcases hr.bGt t193_7 with ⟨b7, hr⟩ | ⟨b7, hr⟩
    · replace hr := hr.go (s_k t193_14)
      obtain ⟨rfl, hs⟩ := hr.iret t193_15
      exact ⟨_, _, hs, by unfold mlV; repeat (first | rw [if_pos (by omega)] | rw [if_neg (by omega)]), rfl, rfl⟩
    · replace hr := hr.go (s_k t193_10)
      replace hr := hr.go (s_goto t193_11)
      obtain ⟨rfl, hs⟩ := hr.iret t193_15
      exact ⟨_, _, hs, by unfold mlV; repeat (first | rw [if_pos (by omega)] | rw [if_neg (by omega)]), rfl, rfl⟩
theorem ct_nadd {nf : Bool} {xs : List Int32} {d : Nat} {m : xM} {g : xL} {G : xG} {x y z : Int32} {v : Nat} (h0 : G.1 120 0 = some 121) (h1 : G.1 120 1 = some 122) (h2 : G.1 120 2 = some 123) (h3 : G.1 120 3 = some 124) (h5 : m 120 5 = Int32.ofNat v) (hv : v ≤ 24) : CT nf xs d 12 [.ref 120, .int x, .int y, .int z] m g G (fun r m' _ => r = some (.int (if v = 24 then -1 else Int32.ofNat v)) ∧ m' 120 5 = Int32.ofNat (if v = 24 then v else v + 1)) := by
  refine CT.of (c := 1) (ini := false) (nL := 4) (rt := some .int) (tab := zt12) rfl (fun d' r h' N hd hr => ?_)
  replace hr : RR nf xs d' 1 false 4 (some .int) zt12 G r h' N (0, [(0, .ref 120), (1, .int x), (2, .int y), (3, .int z)], [], m, g) := hr
  have km1 : (-1 : Int32).toInt = -1 := rfl
  have k1 : (1 : Int32).toInt = 1 := rfl
  have k24 : (24 : Int32).toInt = 24 := rfl
  have qv : (Int32.ofNat v).toInt = (v : Int) := xn_int (by omega)
  replace hr := hr.go (s_aload_n t12_0 rfl)
  replace hr := hr.go (s_getf t12_1)
  rw [h5] at hr
  replace hr := hr.go (s_k t12_4)
  rcases hr.bLt t12_6 with ⟨b6, hr⟩ | ⟨b6, hr⟩
  · replace hr := hr.go (s_aload_n t12_11 rfl)
    replace hr := hr.go (s_getr t12_12 (h0))
    replace hr := hr.go (s_aload_n t12_15 rfl)
    replace hr := hr.go (s_getf t12_16)
    replace hr := hr.go (s_iload_n t12_19 rfl)
    replace hr := hr.go (s_iastore t12_20)
    replace hr := hr.go (s_aload_n t12_21 rfl)
    replace hr := hr.go (s_getr t12_22 (h1))
    replace hr := hr.go (s_aload_n t12_25 rfl)
    replace hr := hr.go (s_getf t12_26)
    replace hr := hr.go (s_iload_n t12_29 rfl)
    replace hr := hr.go (s_iastore t12_30)
    replace hr := hr.go (s_aload_n t12_31 rfl)
    replace hr := hr.go (s_getr t12_32 (h2))
    replace hr := hr.go (s_aload_n t12_35 rfl)
    replace hr := hr.go (s_getf t12_36)
    replace hr := hr.go (s_iload_n t12_39 rfl)
    replace hr := hr.go (s_bastore t12_40)
    replace hr := hr.go (s_aload_n t12_41 rfl)
    replace hr := hr.go (s_getr t12_42 (h3))
    replace hr := hr.go (s_aload_n t12_45 rfl)
    replace hr := hr.go (s_getf t12_46)
    replace hr := hr.go (s_k t12_49)
    replace hr := hr.go (s_iastore t12_50)
    replace hr := hr.go (s_aload_n t12_51 rfl)
    replace hr := hr.go (s_dup t12_52 rfl)
    replace hr := hr.go (s_getf t12_53)
    replace hr := hr.go (s_k t12_56)
    replace hr := hr.go (s_iadd t12_57)
    replace hr := hr.go (s_putf t12_58)
    replace hr := hr.go (s_aload_n t12_61 rfl)
    replace hr := hr.go (s_getf t12_62)
    replace hr := hr.go (s_k t12_65)
    replace hr := hr.go (s_isub t12_66)
    obtain ⟨rfl, hs⟩ := hr.iret t12_67
    refine ⟨_, _, hs, ?_, ?_⟩
    · rw [xu_same]
      repeat rw [xu_row (by decide)]
      rw [h5, xn_1, xn_pred]
      repeat (first | rw [if_pos (by omega)] | rw [if_neg (by omega)])
    · rw [xu_same]
      repeat rw [xu_row (by decide)]
      rw [h5, xn_1]
      repeat (first | rw [if_pos (by omega)] | rw [if_neg (by omega)])
  · replace hr := hr.go (s_k t12_9)
    obtain ⟨rfl, hs⟩ := hr.iret t12_10
    exact ⟨_, _, hs, by repeat (first | rw [if_pos (by omega)] | rw [if_neg (by omega)]), by rw [h5]; repeat (first | rw [if_pos (by omega)] | rw [if_neg (by omega)])⟩
theorem ct_nstrike {nf : Bool} {xs : List Int32} {d : Nat} {m : xM} {g : xL} {G : xG} {x : Int32} {v : Nat} (h3 : G.1 120 3 = some 124) (h5 : m 120 5 = Int32.ofNat v) (hv : v ≤ 24) : CT nf xs d 13 [.ref 120, .int x] m g G (fun r m' _ => r = some (.int (stV x v)) ∧ m' 120 5 = Int32.ofNat (stN x v)) := by
  refine CT.of (c := 1) (ini := false) (nL := 2) (rt := some .int) (tab := zt13) rfl (fun d' r h' N hd hr => ?_)
  replace hr : RR nf xs d' 1 false 2 (some .int) zt13 G r h' N (0, [(0, .ref 120), (1, .int x)], [], m, g) := hr
  have km1 : (-1 : Int32).toInt = -1 := rfl
  have k1 : (1 : Int32).toInt = 1 := rfl
  have k24 : (24 : Int32).toInt = 24 := rfl
  have qv : (Int32.ofNat v).toInt = (v : Int) := xn_int (by omega)
  replace hr := hr.go (s_iload_n t13_0 rfl)
  rcases hr.zLt t13_1 with ⟨b1, hr⟩ | ⟨b1, hr⟩
  · replace hr := hr.go (s_k t13_21)
    obtain ⟨rfl, hs⟩ := hr.iret t13_22
    exact ⟨_, _, hs, by unfold stV; repeat (first | rw [if_pos (by omega)] | rw [if_neg (by omega)]), by rw [h5]; unfold stN; repeat (first | rw [if_pos (by omega)] | rw [if_neg (by omega)])⟩
  · replace hr := hr.go (s_iload_n t13_4 rfl)
    replace hr := hr.go (s_aload_n t13_5 rfl)
    replace hr := hr.go (s_getf t13_6)
    rw [h5] at hr
    rcases hr.bGe t13_9 with ⟨b9, hr⟩ | ⟨b9, hr⟩
    · replace hr := hr.go (s_k t13_21)
      obtain ⟨rfl, hs⟩ := hr.iret t13_22
      exact ⟨_, _, hs, by unfold stV; repeat (first | rw [if_pos (by omega)] | rw [if_neg (by omega)]), by rw [h5]; unfold stN; repeat (first | rw [if_pos (by omega)] | rw [if_neg (by omega)])⟩
    · replace hr := hr.go (s_aload_n t13_12 rfl)
      replace hr := hr.go (s_getf t13_13)
      rw [h5] at hr
      replace hr := hr.go (s_k t13_16)
      rcases hr.bLt t13_18 with ⟨b18, hr⟩ | ⟨b18, hr⟩
      · replace hr := hr.go (s_aload_n t13_23 rfl)
        replace hr := hr.go (s_getr t13_24 (h3))
        replace hr := hr.go (s_aload_n t13_27 rfl)
        replace hr := hr.go (s_getf t13_28)
        replace hr := hr.go (s_iload_n t13_31 rfl)
        replace hr := hr.go (s_iastore t13_32)
        replace hr := hr.go (s_aload_n t13_33 rfl)
        replace hr := hr.go (s_dup t13_34 rfl)
        replace hr := hr.go (s_getf t13_35)
        replace hr := hr.go (s_k t13_38)
        replace hr := hr.go (s_iadd t13_39)
        replace hr := hr.go (s_putf t13_40)
        replace hr := hr.go (s_aload_n t13_43 rfl)
        replace hr := hr.go (s_getf t13_44)
        replace hr := hr.go (s_k t13_47)
        replace hr := hr.go (s_isub t13_48)
        obtain ⟨rfl, hs⟩ := hr.iret t13_49
        refine ⟨_, _, hs, ?_, ?_⟩
        · rw [xu_same]
          repeat rw [xu_row (by decide)]
          rw [h5, xn_1, xn_pred]
          unfold stV
          repeat (first | rw [if_pos (by omega)] | rw [if_neg (by omega)])
        · rw [xu_same]
          repeat rw [xu_row (by decide)]
          rw [h5, xn_1]
          unfold stN
          repeat (first | rw [if_pos (by omega)] | rw [if_neg (by omega)])
      · replace hr := hr.go (s_k t13_21)
        obtain ⟨rfl, hs⟩ := hr.iret t13_22
        exact ⟨_, _, hs, by unfold stV; repeat (first | rw [if_pos (by omega)] | rw [if_neg (by omega)]), by rw [h5]; unfold stN; repeat (first | rw [if_pos (by omega)] | rw [if_neg (by omega)])⟩
theorem ct_noteC {nf : Bool} {xs : List Int32} {d : Nat} {m : xM} {g : xL} {G : xG} {x y z : Int32} {v : Nat} (h7 : G.1 0 7 = some 55) (h14 : G.1 0 14 = some 120) (h0 : G.1 120 0 = some 121) (h1 : G.1 120 1 = some 122) (h2 : G.1 120 2 = some 123) (h3 : G.1 120 3 = some 124) (h5 : m 120 5 = Int32.ofNat v) (hv : v ≤ 24) : CT nf xs d 145 [.ref 0, .int x, .int y, .int z] m g G (fun r m' _ => r = some (.int (ntV x y (m 55 3) v)) ∧ m' 120 5 = Int32.ofNat (ntN x y (m 55 3) v)) := by
  refine CT.of (c := 10) (ini := false) (nL := 4) (rt := some .int) (tab := zt145) rfl (fun d' r h' N hd hr => ?_)
  replace hr : RR nf xs d' 10 false 4 (some .int) zt145 G r h' N (0, [(0, .ref 0), (1, .int x), (2, .int y), (3, .int z)], [], m, g) := hr
  have km1 : (-1 : Int32).toInt = -1 := rfl
  replace hr := hr.go (s_aload_n t145_0 rfl)
  replace hr := hr.go (s_iload_n t145_1 rfl)
  replace hr := hr.cvI t145_2 rfl rfl (ct_isRiderC h7)
  rcases hr.zEq t145_5 with ⟨b5, hr⟩ | ⟨b5, hr⟩
  · replace hr := hr.go (s_k t145_28)
    obtain ⟨rfl, hs⟩ := hr.iret t145_29
    exact ⟨_, _, hs, by unfold ntV; rw [if_pos b5], by unfold ntN; rw [if_pos b5]; exact h5⟩
  · replace hr := hr.go (s_iload_n t145_8 rfl)
    replace hr := hr.csI t145_9 rfl rfl (ct_isMileC)
    rcases hr.zEq t145_12 with ⟨b12, hr⟩ | ⟨b12, hr⟩
    · replace hr := hr.go (s_k t145_28)
      obtain ⟨rfl, hs⟩ := hr.iret t145_29
      exact ⟨_, _, hs, by unfold ntV; rw [if_neg b5, if_pos b12], by unfold ntN; rw [if_neg b5, if_pos b12]; exact h5⟩
    · replace hr := hr.go (s_aload_n t145_15 rfl)
      replace hr := hr.go (s_getr t145_16 (h14))
      replace hr := hr.go (s_iload_n t145_19 rfl)
      replace hr := hr.go (s_iload_n t145_20 rfl)
      replace hr := hr.go (s_iload_n t145_21 rfl)
      obtain ⟨_, m1, g1, ⟨rfl, q2⟩, hr⟩ := hr.callv t145_22 rfl rfl (ct_nadd h0 h1 h2 h3 h5 hv)
      replace hr : RR nf xs d' 10 false 4 (some .int) zt145 G r h' N (25, [(0, .ref 0), (1, .int x), (2, .int y), (3, .int z)], [.int _], m1, g1) := hr
      skip
      replace hr := hr.go (s_goto t145_25)
      obtain ⟨rfl, hs⟩ := hr.iret t145_29
      exact ⟨_, _, hs, by unfold ntV; rw [if_neg b5, if_neg b12], by unfold ntN; rw [if_neg b5, if_neg b12]; exact q2⟩
theorem ct_outC {nf : Bool} {xs : List Int32} {d : Nat} {m : xM} {g : xL} {G : xG} {x : Int32} {v : Nat} (h14 : G.1 0 14 = some 120) (h3 : G.1 120 3 = some 124) (h5 : m 120 5 = Int32.ofNat v) (hv : v ≤ 24) : CT nf xs d 146 [.ref 0, .int x] m g G (fun r m' _ => r = some (.int (stV x v)) ∧ m' 120 5 = Int32.ofNat (stN x v)) := by
  refine CT.of (c := 10) (ini := false) (nL := 2) (rt := some .int) (tab := zt146) rfl (fun d' r h' N hd hr => ?_)
  replace hr : RR nf xs d' 10 false 2 (some .int) zt146 G r h' N (0, [(0, .ref 0), (1, .int x)], [], m, g) := hr
  replace hr := hr.go (s_aload_n t146_0 rfl)
  replace hr := hr.go (s_getr t146_1 (h14))
  replace hr := hr.go (s_iload_n t146_4 rfl)
  obtain ⟨_, m1, g1, ⟨rfl, q2⟩, hr⟩ := hr.callv t146_5 rfl rfl (ct_nstrike h3 h5 hv)
  replace hr : RR nf xs d' 10 false 2 (some .int) zt146 G r h' N (8, [(0, .ref 0), (1, .int x)], [.int _], m1, g1) := hr
  skip
  obtain ⟨rfl, hs⟩ := hr.iret t146_8
  exact ⟨_, _, hs, rfl, q2⟩
theorem ct_knownC {nf : Bool} {xs : List Int32} {d : Nat} {m : xM} {g : xL} {G : xG} {x : Int32} {v : Nat} (h14 : G.1 0 14 = some 120) (h5 : m 120 5 = Int32.ofNat v) (hv : v ≤ 24) : CT nf xs d 147 [.ref 0, .int x] m g G (fun r m' _ => r = some (.int (knV x v)) ∧ m' 120 5 = m 120 5) := by
  refine CT.of (c := 10) (ini := false) (nL := 2) (rt := some .boolean) (tab := zt147) rfl (fun d' r h' N hd hr => ?_)
  replace hr : RR nf xs d' 10 false 2 (some .boolean) zt147 G r h' N (0, [(0, .ref 0), (1, .int x)], [], m, g) := hr
  have km1 : (-1 : Int32).toInt = -1 := rfl
  have k1 : (1 : Int32).toInt = 1 := rfl
  have qv : (Int32.ofNat v).toInt = (v : Int) := xn_int (by omega)
  replace hr := hr.go (s_iload_n t147_0 rfl)
  replace hr := hr.go (s_k t147_1)
  rcases hr.bLt t147_2 with ⟨b2, hr⟩ | ⟨b2, hr⟩
  · replace hr := hr.go (s_k t147_16)
    obtain ⟨rfl, hs⟩ := hr.iret t147_17
    exact ⟨_, _, hs, by unfold knV; repeat (first | rw [if_pos (by omega)] | rw [if_neg (by omega)]), by first | rfl | exact xu_oth (by decide)⟩
  · replace hr := hr.go (s_iload_n t147_5 rfl)
    replace hr := hr.go (s_aload_n t147_6 rfl)
    replace hr := hr.go (s_getr t147_7 (h14))
    replace hr := hr.go (s_getf t147_10)
    rw [h5] at hr
    rcases hr.bLe t147_13 with ⟨b13, hr⟩ | ⟨b13, hr⟩
    · replace hr := hr.go (s_aload_n t147_18 rfl)
      replace hr := hr.go (s_getr t147_19 (h14))
      replace hr := hr.go (s_iload_n t147_22 rfl)
      replace hr := hr.go (s_putf t147_23)
      replace hr := hr.go (s_k t147_26)
      obtain ⟨rfl, hs⟩ := hr.iret t147_27
      exact ⟨_, _, hs, by unfold knV; repeat (first | rw [if_pos (by omega)] | rw [if_neg (by omega)]), by first | rfl | exact xu_oth (by decide)⟩
    · replace hr := hr.go (s_k t147_16)
      obtain ⟨rfl, hs⟩ := hr.iret t147_17
      exact ⟨_, _, hs, by unfold knV; repeat (first | rw [if_pos (by omega)] | rw [if_neg (by omega)]), by first | rfl | exact xu_oth (by decide)⟩
theorem ct_noteR {nf : Bool} {xs : List Int32} {d : Nat} {m : xM} {g : xL} {G : xG} {x y z : Int32} {v : Nat} (g3 : G.1 128 3 = some 130) (hl : G.2 130 = (0, 1, 18)) (g69 : G.1 128 69 = some 170) (g70 : G.1 128 70 = some 171) (g71 : G.1 128 71 = some 172) (g72 : G.1 128 72 = some 173) (h67 : m 128 67 = Int32.ofNat v) (hv : v ≤ 24) : CT nf xs d 249 [.ref 128, .int x, .int y, .int z] m g G (fun r m' _ => r = some (.int (ntV x y (m 130 1) v)) ∧ m' 128 67 = Int32.ofNat (ntN x y (m 130 1) v)) := by
  refine CT.of (c := 11) (ini := false) (nL := 4) (rt := some .int) (tab := zt249) rfl (fun d' r h' N hd hr => ?_)
  replace hr : RR nf xs d' 11 false 4 (some .int) zt249 G r h' N (0, [(0, .ref 128), (1, .int x), (2, .int y), (3, .int z)], [], m, g) := hr
  have km1 : (-1 : Int32).toInt = -1 := rfl
  have k1 : (1 : Int32).toInt = 1 := rfl
  have k24 : (24 : Int32).toInt = 24 := rfl
  replace hr := hr.go (s_aload_n t249_0 rfl)
  replace hr := hr.go (s_k t249_1)
  replace hr := hr.go (s_putf t249_2)
  replace hr := hr.go (s_aload_n t249_5 rfl)
  replace hr := hr.go (s_iload_n t249_6 rfl)
  replace hr := hr.cvI t249_7 rfl rfl (ct_isRiderR g3 hl)
  rw [show xu m 128 0 0 130 1 = m 130 1 from xu_oth (by decide)] at hr
  rcases hr.zEq t249_10 with ⟨b10, hr⟩ | ⟨b10, hr⟩
  · replace hr := hr.go (s_k t249_29)
    obtain ⟨rfl, hs⟩ := hr.iret t249_30
    exact ⟨_, _, hs, by unfold ntV; rw [if_pos b10], by unfold ntN; rw [if_pos b10, xu_oth (by decide)]; exact h67⟩
  · replace hr := hr.go (s_iload_n t249_13 rfl)
    replace hr := hr.csI t249_14 rfl rfl (ct_isMileR)
    rcases hr.zEq t249_17 with ⟨b17, hr⟩ | ⟨b17, hr⟩
    · replace hr := hr.go (s_k t249_29)
      obtain ⟨rfl, hs⟩ := hr.iret t249_30
      exact ⟨_, _, hs, by unfold ntV; rw [if_neg b10, if_pos b17], by unfold ntN; rw [if_neg b10, if_pos b17, xu_oth (by decide)]; exact h67⟩
    · replace hr := hr.go (s_aload_n t249_20 rfl)
      replace hr := hr.go (s_getf t249_21)
      rw [show xu m 128 0 0 128 67 = Int32.ofNat v from by rw [xu_oth (by decide), h67]] at hr
      replace hr := hr.go (s_k t249_24)
      rcases hr.bNe t249_26 with ⟨b26, hr⟩ | ⟨b26, hr⟩
      · replace hr := hr.go (s_aload_n t249_31 rfl)
        replace hr := hr.go (s_getr t249_32 (g69))
        replace hr := hr.go (s_aload_n t249_35 rfl)
        replace hr := hr.go (s_getf t249_36)
        replace hr := hr.go (s_iload_n t249_39 rfl)
        replace hr := hr.go (s_iastore t249_40)
        replace hr := hr.go (s_aload_n t249_41 rfl)
        replace hr := hr.go (s_getr t249_42 (g70))
        replace hr := hr.go (s_aload_n t249_45 rfl)
        replace hr := hr.go (s_getf t249_46)
        replace hr := hr.go (s_iload_n t249_49 rfl)
        replace hr := hr.go (s_iastore t249_50)
        replace hr := hr.go (s_aload_n t249_51 rfl)
        replace hr := hr.go (s_getr t249_52 (g71))
        replace hr := hr.go (s_aload_n t249_55 rfl)
        replace hr := hr.go (s_getf t249_56)
        replace hr := hr.go (s_iload_n t249_59 rfl)
        replace hr := hr.go (s_bastore t249_60)
        replace hr := hr.go (s_aload_n t249_61 rfl)
        replace hr := hr.go (s_getr t249_62 (g72))
        replace hr := hr.go (s_aload_n t249_65 rfl)
        replace hr := hr.go (s_getf t249_66)
        replace hr := hr.go (s_k t249_69)
        replace hr := hr.go (s_iastore t249_70)
        replace hr := hr.go (s_aload_n t249_71 rfl)
        replace hr := hr.go (s_dup t249_72 rfl)
        replace hr := hr.go (s_getf t249_73)
        replace hr := hr.go (s_k t249_76)
        replace hr := hr.go (s_iadd t249_77)
        replace hr := hr.go (s_putf t249_78)
        replace hr := hr.go (s_aload_n t249_81 rfl)
        replace hr := hr.go (s_getf t249_82)
        replace hr := hr.go (s_k t249_85)
        replace hr := hr.go (s_isub t249_86)
        obtain ⟨rfl, hs⟩ := hr.iret t249_87
        have hv2 : ¬ v = 24 := fun q => b26 (by rw [q]; rfl)
        refine ⟨_, _, hs, ?_, ?_⟩
        · rw [xu_same]
          repeat rw [xu_row (by decide)]
          rw [xu_oth (by decide), h67, xn_1, xn_pred]
          unfold ntV
          rw [if_neg b10, if_neg b17, if_neg hv2]
        · rw [xu_same]
          repeat rw [xu_row (by decide)]
          rw [xu_oth (by decide), h67, xn_1]
          unfold ntN
          rw [if_neg b10, if_neg b17, if_neg hv2]
      · replace hr := hr.go (s_k t249_29)
        obtain ⟨rfl, hs⟩ := hr.iret t249_30
        have hv2 : v = 24 := xn_inj (by omega) (by decide) b26
        exact ⟨_, _, hs, by unfold ntV; rw [if_neg b10, if_neg b17, if_pos hv2], by unfold ntN; rw [if_neg b10, if_neg b17, if_pos hv2, xu_oth (by decide)]; exact h67⟩
theorem ct_outR {nf : Bool} {xs : List Int32} {d : Nat} {m : xM} {g : xL} {G : xG} {x : Int32} {v : Nat} (g72 : G.1 128 72 = some 173) (h67 : m 128 67 = Int32.ofNat v) (hv : v ≤ 24) : CT nf xs d 250 [.ref 128, .int x] m g G (fun r m' _ => r = some (.int (stV x v)) ∧ m' 128 67 = Int32.ofNat (stN x v)) := by
  refine CT.of (c := 11) (ini := false) (nL := 2) (rt := some .int) (tab := zt250) rfl (fun d' r h' N hd hr => ?_)
  replace hr : RR nf xs d' 11 false 2 (some .int) zt250 G r h' N (0, [(0, .ref 128), (1, .int x)], [], m, g) := hr
  have km1 : (-1 : Int32).toInt = -1 := rfl
  have k1 : (1 : Int32).toInt = 1 := rfl
  have k24 : (24 : Int32).toInt = 24 := rfl
  have qv : (Int32.ofNat v).toInt = (v : Int) := xn_int (by omega)
  replace hr := hr.go (s_aload_n t250_0 rfl)
  replace hr := hr.go (s_k t250_1)
  replace hr := hr.go (s_putf t250_2)
  replace hr := hr.go (s_iload_n t250_5 rfl)
  rcases hr.zLt t250_6 with ⟨b6, hr⟩ | ⟨b6, hr⟩
  · replace hr := hr.go (s_k t250_26)
    obtain ⟨rfl, hs⟩ := hr.iret t250_27
    exact ⟨_, _, hs, by unfold stV; repeat (first | rw [if_pos (by omega)] | rw [if_neg (by omega)]), by rw [xu_oth (by decide), h67]; unfold stN; repeat (first | rw [if_pos (by omega)] | rw [if_neg (by omega)])⟩
  · replace hr := hr.go (s_iload_n t250_9 rfl)
    replace hr := hr.go (s_aload_n t250_10 rfl)
    replace hr := hr.go (s_getf t250_11)
    rw [show xu m 128 0 0 128 67 = Int32.ofNat v from by rw [xu_oth (by decide), h67]] at hr
    rcases hr.bGe t250_14 with ⟨b14, hr⟩ | ⟨b14, hr⟩
    · replace hr := hr.go (s_k t250_26)
      obtain ⟨rfl, hs⟩ := hr.iret t250_27
      exact ⟨_, _, hs, by unfold stV; repeat (first | rw [if_pos (by omega)] | rw [if_neg (by omega)]), by rw [xu_oth (by decide), h67]; unfold stN; repeat (first | rw [if_pos (by omega)] | rw [if_neg (by omega)])⟩
    · replace hr := hr.go (s_aload_n t250_17 rfl)
      replace hr := hr.go (s_getf t250_18)
      rw [show xu m 128 0 0 128 67 = Int32.ofNat v from by rw [xu_oth (by decide), h67]] at hr
      replace hr := hr.go (s_k t250_21)
      rcases hr.bNe t250_23 with ⟨b23, hr⟩ | ⟨b23, hr⟩
      · replace hr := hr.go (s_aload_n t250_28 rfl)
        replace hr := hr.go (s_getr t250_29 (g72))
        replace hr := hr.go (s_aload_n t250_32 rfl)
        replace hr := hr.go (s_getf t250_33)
        replace hr := hr.go (s_iload_n t250_36 rfl)
        replace hr := hr.go (s_iastore t250_37)
        replace hr := hr.go (s_aload_n t250_38 rfl)
        replace hr := hr.go (s_dup t250_39 rfl)
        replace hr := hr.go (s_getf t250_40)
        replace hr := hr.go (s_k t250_43)
        replace hr := hr.go (s_iadd t250_44)
        replace hr := hr.go (s_putf t250_45)
        replace hr := hr.go (s_aload_n t250_48 rfl)
        replace hr := hr.go (s_getf t250_49)
        replace hr := hr.go (s_k t250_52)
        replace hr := hr.go (s_isub t250_53)
        obtain ⟨rfl, hs⟩ := hr.iret t250_54
        have hv2 : ¬ v = 24 := fun q => b23 (by rw [q]; rfl)
        refine ⟨_, _, hs, ?_, ?_⟩
        · rw [xu_same]
          repeat rw [xu_row (by decide)]
          rw [xu_oth (by decide), h67, xn_1, xn_pred]
          unfold stV
          repeat (first | rw [if_pos (by omega)] | rw [if_neg (by omega)])
        · rw [xu_same]
          repeat rw [xu_row (by decide)]
          rw [xu_oth (by decide), h67, xn_1]
          unfold stN
          repeat (first | rw [if_pos (by omega)] | rw [if_neg (by omega)])
      · replace hr := hr.go (s_k t250_26)
        obtain ⟨rfl, hs⟩ := hr.iret t250_27
        have hv2 : v = 24 := xn_inj (by omega) (by decide) b23
        exact ⟨_, _, hs, by unfold stV; repeat (first | rw [if_pos (by omega)] | rw [if_neg (by omega)]), by rw [xu_oth (by decide), h67]; unfold stN; repeat (first | rw [if_pos (by omega)] | rw [if_neg (by omega)])⟩
theorem ct_knownR {nf : Bool} {xs : List Int32} {d : Nat} {m : xM} {g : xL} {G : xG} {x : Int32} {v : Nat} (h67 : m 128 67 = Int32.ofNat v) (hv : v ≤ 24) : CT nf xs d 251 [.ref 128, .int x] m g G (fun r m' _ => r = some (.int (knV x v)) ∧ m' 128 67 = m 128 67) := by
  refine CT.of (c := 11) (ini := false) (nL := 2) (rt := some .boolean) (tab := zt251) rfl (fun d' r h' N hd hr => ?_)
  replace hr : RR nf xs d' 11 false 2 (some .boolean) zt251 G r h' N (0, [(0, .ref 128), (1, .int x)], [], m, g) := hr
  have km1 : (-1 : Int32).toInt = -1 := rfl
  have k1 : (1 : Int32).toInt = 1 := rfl
  have qv : (Int32.ofNat v).toInt = (v : Int) := xn_int (by omega)
  replace hr := hr.go (s_aload_n t251_0 rfl)
  replace hr := hr.go (s_k t251_1)
  replace hr := hr.go (s_putf t251_2)
  replace hr := hr.go (s_iload_n t251_5 rfl)
  replace hr := hr.go (s_k t251_6)
  rcases hr.bLt t251_7 with ⟨b7, hr⟩ | ⟨b7, hr⟩
  · replace hr := hr.go (s_k t251_18)
    obtain ⟨rfl, hs⟩ := hr.iret t251_19
    exact ⟨_, _, hs, by unfold knV; repeat (first | rw [if_pos (by omega)] | rw [if_neg (by omega)]), by repeat rw [xu_oth (by decide)]⟩
  · replace hr := hr.go (s_iload_n t251_10 rfl)
    replace hr := hr.go (s_aload_n t251_11 rfl)
    replace hr := hr.go (s_getf t251_12)
    rw [show xu m 128 0 0 128 67 = Int32.ofNat v from by rw [xu_oth (by decide), h67]] at hr
    rcases hr.bLe t251_15 with ⟨b15, hr⟩ | ⟨b15, hr⟩
    · replace hr := hr.go (s_aload_n t251_20 rfl)
      replace hr := hr.go (s_iload_n t251_21 rfl)
      replace hr := hr.go (s_putf t251_22)
      replace hr := hr.go (s_k t251_25)
      obtain ⟨rfl, hs⟩ := hr.iret t251_26
      exact ⟨_, _, hs, by unfold knV; repeat (first | rw [if_pos (by omega)] | rw [if_neg (by omega)]), by repeat rw [xu_oth (by decide)]⟩
    · replace hr := hr.go (s_k t251_18)
      obtain ⟨rfl, hs⟩ := hr.iret t251_19
      exact ⟨_, _, hs, by unfold knV; repeat (first | rw [if_pos (by omega)] | rw [if_neg (by omega)]), by repeat rw [xu_oth (by decide)]⟩
end
section
/-! The reference: rows of rides copied; what is kept for undoing; keep, back (by program: wip/x/gV3.py). -/
theorem t190_0 : xt zt190 0 1 (.aload_n 0) := ⟨rfl, rfl⟩
theorem t190_1 : xtf zt190 11 1 4 (.getfield 78) 78 11 37 3 := ⟨rfl, rfl, rfl, rfl⟩
theorem t190_4 : xt zt190 4 5 (.iload_n 1) := ⟨rfl, rfl⟩
theorem t190_5 : xt zt190 5 6 (.aload_n 0) := ⟨rfl, rfl⟩
theorem t190_6 : xtf zt190 11 6 9 (.getfield 78) 78 11 37 3 := ⟨rfl, rfl, rfl, rfl⟩
theorem t190_9 : xt zt190 9 10 (.iload_n 2) := ⟨rfl, rfl⟩
theorem t190_10 : xt zt190 10 11 .iaload := ⟨rfl, rfl⟩
theorem t190_11 : xt zt190 11 12 .iastore := ⟨rfl, rfl⟩
theorem t190_12 : xt zt190 12 13 (.aload_n 0) := ⟨rfl, rfl⟩
theorem t190_13 : xtf zt190 11 13 16 (.getfield 81) 81 11 38 3 := ⟨rfl, rfl, rfl, rfl⟩
theorem t190_16 : xt zt190 16 17 (.iload_n 1) := ⟨rfl, rfl⟩
theorem t190_17 : xt zt190 17 18 (.aload_n 0) := ⟨rfl, rfl⟩
theorem t190_18 : xtf zt190 11 18 21 (.getfield 81) 81 11 38 3 := ⟨rfl, rfl, rfl, rfl⟩
theorem t190_21 : xt zt190 21 22 (.iload_n 2) := ⟨rfl, rfl⟩
theorem t190_22 : xt zt190 22 23 .iaload := ⟨rfl, rfl⟩
theorem t190_23 : xt zt190 23 24 .iastore := ⟨rfl, rfl⟩
theorem t190_24 : xt zt190 24 25 (.aload_n 0) := ⟨rfl, rfl⟩
theorem t190_25 : xtf zt190 11 25 28 (.getfield 84) 84 11 39 3 := ⟨rfl, rfl, rfl, rfl⟩
theorem t190_28 : xt zt190 28 29 (.iload_n 1) := ⟨rfl, rfl⟩
theorem t190_29 : xt zt190 29 30 (.aload_n 0) := ⟨rfl, rfl⟩
theorem t190_30 : xtf zt190 11 30 33 (.getfield 84) 84 11 39 3 := ⟨rfl, rfl, rfl, rfl⟩
theorem t190_33 : xt zt190 33 34 (.iload_n 2) := ⟨rfl, rfl⟩
theorem t190_34 : xt zt190 34 35 .iaload := ⟨rfl, rfl⟩
theorem t190_35 : xt zt190 35 36 .iastore := ⟨rfl, rfl⟩
theorem t190_36 : xt zt190 36 37 (.aload_n 0) := ⟨rfl, rfl⟩
theorem t190_37 : xtf zt190 11 37 40 (.getfield 87) 87 11 40 3 := ⟨rfl, rfl, rfl, rfl⟩
theorem t190_40 : xt zt190 40 41 (.iload_n 1) := ⟨rfl, rfl⟩
theorem t190_41 : xt zt190 41 42 (.aload_n 0) := ⟨rfl, rfl⟩
theorem t190_42 : xtf zt190 11 42 45 (.getfield 87) 87 11 40 3 := ⟨rfl, rfl, rfl, rfl⟩
theorem t190_45 : xt zt190 45 46 (.iload_n 2) := ⟨rfl, rfl⟩
theorem t190_46 : xt zt190 46 47 .iaload := ⟨rfl, rfl⟩
theorem t190_47 : xt zt190 47 48 .iastore := ⟨rfl, rfl⟩
theorem t190_48 : xt zt190 48 49 (.aload_n 0) := ⟨rfl, rfl⟩
theorem t190_49 : xtf zt190 11 49 52 (.getfield 90) 90 11 41 3 := ⟨rfl, rfl, rfl, rfl⟩
theorem t190_52 : xt zt190 52 53 (.iload_n 1) := ⟨rfl, rfl⟩
theorem t190_53 : xt zt190 53 54 (.aload_n 0) := ⟨rfl, rfl⟩
theorem t190_54 : xtf zt190 11 54 57 (.getfield 90) 90 11 41 3 := ⟨rfl, rfl, rfl, rfl⟩
theorem t190_57 : xt zt190 57 58 (.iload_n 2) := ⟨rfl, rfl⟩
theorem t190_58 : xt zt190 58 59 .iaload := ⟨rfl, rfl⟩
theorem t190_59 : xt zt190 59 60 .iastore := ⟨rfl, rfl⟩
theorem t190_60 : xt zt190 60 61 (.aload_n 0) := ⟨rfl, rfl⟩
theorem t190_61 : xtf zt190 11 61 64 (.getfield 93) 93 11 42 3 := ⟨rfl, rfl, rfl, rfl⟩
theorem t190_64 : xt zt190 64 65 (.iload_n 1) := ⟨rfl, rfl⟩
theorem t190_65 : xt zt190 65 66 (.aload_n 0) := ⟨rfl, rfl⟩
theorem t190_66 : xtf zt190 11 66 69 (.getfield 93) 93 11 42 3 := ⟨rfl, rfl, rfl, rfl⟩
theorem t190_69 : xt zt190 69 70 (.iload_n 2) := ⟨rfl, rfl⟩
theorem t190_70 : xt zt190 70 71 .iaload := ⟨rfl, rfl⟩
theorem t190_71 : xt zt190 71 72 .iastore := ⟨rfl, rfl⟩
theorem t190_72 : xtk zt190 72 73 (0) := Or.inl ⟨0, ⟨rfl, rfl⟩, by decide⟩
theorem t190_73 : xt zt190 73 74 (.istore_n 3) := ⟨rfl, rfl⟩
theorem t190_74 : xt zt190 74 75 (.iload_n 3) := ⟨rfl, rfl⟩
theorem t190_75 : xtk zt190 75 77 (6) := Or.inr (Or.inl ⟨6, ⟨rfl, rfl⟩, by decide⟩)
theorem t190_77 : xtb zt190 77 80 214 (.if_icmp .ge 137) (137) := ⟨rfl, rfl, rfl⟩
theorem t190_80 : xtk zt190 80 82 (6) := Or.inr (Or.inl ⟨6, ⟨rfl, rfl⟩, by decide⟩)
theorem t190_82 : xt zt190 82 83 (.iload_n 1) := ⟨rfl, rfl⟩
theorem t190_83 : xt zt190 83 84 .imul := ⟨rfl, rfl⟩
theorem t190_84 : xt zt190 84 85 (.iload_n 3) := ⟨rfl, rfl⟩
theorem t190_85 : xt zt190 85 86 .iadd := ⟨rfl, rfl⟩
theorem t190_86 : xt zt190 86 88 (.istore 4) := ⟨rfl, rfl⟩
theorem t190_88 : xtk zt190 88 90 (6) := Or.inr (Or.inl ⟨6, ⟨rfl, rfl⟩, by decide⟩)
theorem t190_90 : xt zt190 90 91 (.iload_n 2) := ⟨rfl, rfl⟩
theorem t190_91 : xt zt190 91 92 .imul := ⟨rfl, rfl⟩
theorem t190_92 : xt zt190 92 93 (.iload_n 3) := ⟨rfl, rfl⟩
theorem t190_93 : xt zt190 93 94 .iadd := ⟨rfl, rfl⟩
theorem t190_94 : xt zt190 94 96 (.istore 5) := ⟨rfl, rfl⟩
theorem t190_96 : xt zt190 96 97 (.aload_n 0) := ⟨rfl, rfl⟩
theorem t190_97 : xtf zt190 11 97 100 (.getfield 96) 96 11 43 3 := ⟨rfl, rfl, rfl, rfl⟩
theorem t190_100 : xt zt190 100 102 (.iload 4) := ⟨rfl, rfl⟩
theorem t190_102 : xt zt190 102 103 (.aload_n 0) := ⟨rfl, rfl⟩
theorem t190_103 : xtf zt190 11 103 106 (.getfield 96) 96 11 43 3 := ⟨rfl, rfl, rfl, rfl⟩
theorem t190_106 : xt zt190 106 108 (.iload 5) := ⟨rfl, rfl⟩
theorem t190_108 : xt zt190 108 109 .iaload := ⟨rfl, rfl⟩
theorem t190_109 : xt zt190 109 110 .iastore := ⟨rfl, rfl⟩
theorem t190_110 : xt zt190 110 111 (.aload_n 0) := ⟨rfl, rfl⟩
theorem t190_111 : xtf zt190 11 111 114 (.getfield 99) 99 11 44 3 := ⟨rfl, rfl, rfl, rfl⟩
theorem t190_114 : xt zt190 114 116 (.iload 4) := ⟨rfl, rfl⟩
theorem t190_116 : xt zt190 116 117 (.aload_n 0) := ⟨rfl, rfl⟩
theorem t190_117 : xtf zt190 11 117 120 (.getfield 99) 99 11 44 3 := ⟨rfl, rfl, rfl, rfl⟩
theorem t190_120 : xt zt190 120 122 (.iload 5) := ⟨rfl, rfl⟩
theorem t190_122 : xt zt190 122 123 .iaload := ⟨rfl, rfl⟩
theorem t190_123 : xt zt190 123 124 .iastore := ⟨rfl, rfl⟩
theorem t190_124 : xt zt190 124 125 (.aload_n 0) := ⟨rfl, rfl⟩
theorem t190_125 : xtf zt190 11 125 128 (.getfield 102) 102 11 45 3 := ⟨rfl, rfl, rfl, rfl⟩
theorem t190_128 : xt zt190 128 130 (.iload 4) := ⟨rfl, rfl⟩
theorem t190_130 : xt zt190 130 131 (.aload_n 0) := ⟨rfl, rfl⟩
theorem t190_131 : xtf zt190 11 131 134 (.getfield 102) 102 11 45 3 := ⟨rfl, rfl, rfl, rfl⟩
theorem t190_134 : xt zt190 134 136 (.iload 5) := ⟨rfl, rfl⟩
theorem t190_136 : xt zt190 136 137 .iaload := ⟨rfl, rfl⟩
theorem t190_137 : xt zt190 137 138 .iastore := ⟨rfl, rfl⟩
theorem t190_138 : xt zt190 138 139 (.aload_n 0) := ⟨rfl, rfl⟩
theorem t190_139 : xtf zt190 11 139 142 (.getfield 105) 105 11 46 3 := ⟨rfl, rfl, rfl, rfl⟩
theorem t190_142 : xt zt190 142 144 (.iload 4) := ⟨rfl, rfl⟩
theorem t190_144 : xt zt190 144 145 (.aload_n 0) := ⟨rfl, rfl⟩
theorem t190_145 : xtf zt190 11 145 148 (.getfield 105) 105 11 46 3 := ⟨rfl, rfl, rfl, rfl⟩
theorem t190_148 : xt zt190 148 150 (.iload 5) := ⟨rfl, rfl⟩
theorem t190_150 : xt zt190 150 151 .iaload := ⟨rfl, rfl⟩
theorem t190_151 : xt zt190 151 152 .iastore := ⟨rfl, rfl⟩
theorem t190_152 : xt zt190 152 153 (.aload_n 0) := ⟨rfl, rfl⟩
theorem t190_153 : xtf zt190 11 153 156 (.getfield 108) 108 11 47 3 := ⟨rfl, rfl, rfl, rfl⟩
theorem t190_156 : xt zt190 156 158 (.iload 4) := ⟨rfl, rfl⟩
theorem t190_158 : xt zt190 158 159 (.aload_n 0) := ⟨rfl, rfl⟩
theorem t190_159 : xtf zt190 11 159 162 (.getfield 108) 108 11 47 3 := ⟨rfl, rfl, rfl, rfl⟩
theorem t190_162 : xt zt190 162 164 (.iload 5) := ⟨rfl, rfl⟩
theorem t190_164 : xt zt190 164 165 .iaload := ⟨rfl, rfl⟩
theorem t190_165 : xt zt190 165 166 .iastore := ⟨rfl, rfl⟩
theorem t190_166 : xt zt190 166 167 (.aload_n 0) := ⟨rfl, rfl⟩
theorem t190_167 : xtf zt190 11 167 170 (.getfield 111) 111 11 48 3 := ⟨rfl, rfl, rfl, rfl⟩
theorem t190_170 : xt zt190 170 172 (.iload 4) := ⟨rfl, rfl⟩
theorem t190_172 : xt zt190 172 173 (.aload_n 0) := ⟨rfl, rfl⟩
theorem t190_173 : xtf zt190 11 173 176 (.getfield 111) 111 11 48 3 := ⟨rfl, rfl, rfl, rfl⟩
theorem t190_176 : xt zt190 176 178 (.iload 5) := ⟨rfl, rfl⟩
theorem t190_178 : xt zt190 178 179 .iaload := ⟨rfl, rfl⟩
theorem t190_179 : xt zt190 179 180 .iastore := ⟨rfl, rfl⟩
theorem t190_180 : xt zt190 180 181 (.aload_n 0) := ⟨rfl, rfl⟩
theorem t190_181 : xtf zt190 11 181 184 (.getfield 114) 114 11 49 3 := ⟨rfl, rfl, rfl, rfl⟩
theorem t190_184 : xt zt190 184 186 (.iload 4) := ⟨rfl, rfl⟩
theorem t190_186 : xt zt190 186 187 (.aload_n 0) := ⟨rfl, rfl⟩
theorem t190_187 : xtf zt190 11 187 190 (.getfield 114) 114 11 49 3 := ⟨rfl, rfl, rfl, rfl⟩
theorem t190_190 : xt zt190 190 192 (.iload 5) := ⟨rfl, rfl⟩
theorem t190_192 : xt zt190 192 193 .iaload := ⟨rfl, rfl⟩
theorem t190_193 : xt zt190 193 194 .iastore := ⟨rfl, rfl⟩
theorem t190_194 : xt zt190 194 195 (.aload_n 0) := ⟨rfl, rfl⟩
theorem t190_195 : xtf zt190 11 195 198 (.getfield 120) 120 11 51 3 := ⟨rfl, rfl, rfl, rfl⟩
theorem t190_198 : xt zt190 198 200 (.iload 4) := ⟨rfl, rfl⟩
theorem t190_200 : xt zt190 200 201 (.aload_n 0) := ⟨rfl, rfl⟩
theorem t190_201 : xtf zt190 11 201 204 (.getfield 120) 120 11 51 3 := ⟨rfl, rfl, rfl, rfl⟩
theorem t190_204 : xt zt190 204 206 (.iload 5) := ⟨rfl, rfl⟩
theorem t190_206 : xt zt190 206 207 .laload := ⟨rfl, rfl⟩
theorem t190_207 : xt zt190 207 208 .lastore := ⟨rfl, rfl⟩
theorem t190_208 : xt zt190 208 211 (.iinc 3 1) := ⟨rfl, rfl⟩
theorem t190_211 : xtb zt190 211 214 74 (.goto (-137)) (-137) := ⟨rfl, rfl, rfl⟩
theorem t190_214 : xtk zt190 214 215 (0) := Or.inl ⟨0, ⟨rfl, rfl⟩, by decide⟩
theorem t190_215 : xt zt190 215 216 (.istore_n 3) := ⟨rfl, rfl⟩
theorem t190_216 : xt zt190 216 217 (.iload_n 3) := ⟨rfl, rfl⟩
theorem t190_217 : xtk zt190 217 219 (36) := Or.inr (Or.inl ⟨36, ⟨rfl, rfl⟩, by decide⟩)
theorem t190_219 : xtb zt190 219 222 250 (.if_icmp .ge 31) (31) := ⟨rfl, rfl, rfl⟩
theorem t190_222 : xt zt190 222 223 (.aload_n 0) := ⟨rfl, rfl⟩
theorem t190_223 : xtf zt190 11 223 226 (.getfield 117) 117 11 50 3 := ⟨rfl, rfl, rfl, rfl⟩
theorem t190_226 : xtk zt190 226 228 (36) := Or.inr (Or.inl ⟨36, ⟨rfl, rfl⟩, by decide⟩)
theorem t190_228 : xt zt190 228 229 (.iload_n 1) := ⟨rfl, rfl⟩
theorem t190_229 : xt zt190 229 230 .imul := ⟨rfl, rfl⟩
theorem t190_230 : xt zt190 230 231 (.iload_n 3) := ⟨rfl, rfl⟩
theorem t190_231 : xt zt190 231 232 .iadd := ⟨rfl, rfl⟩
theorem t190_232 : xt zt190 232 233 (.aload_n 0) := ⟨rfl, rfl⟩
theorem t190_233 : xtf zt190 11 233 236 (.getfield 117) 117 11 50 3 := ⟨rfl, rfl, rfl, rfl⟩
theorem t190_236 : xtk zt190 236 238 (36) := Or.inr (Or.inl ⟨36, ⟨rfl, rfl⟩, by decide⟩)
theorem t190_238 : xt zt190 238 239 (.iload_n 2) := ⟨rfl, rfl⟩
theorem t190_239 : xt zt190 239 240 .imul := ⟨rfl, rfl⟩
theorem t190_240 : xt zt190 240 241 (.iload_n 3) := ⟨rfl, rfl⟩
theorem t190_241 : xt zt190 241 242 .iadd := ⟨rfl, rfl⟩
theorem t190_242 : xt zt190 242 243 .iaload := ⟨rfl, rfl⟩
theorem t190_243 : xt zt190 243 244 .iastore := ⟨rfl, rfl⟩
theorem t190_244 : xt zt190 244 247 (.iinc 3 1) := ⟨rfl, rfl⟩
theorem t190_247 : xtb zt190 247 250 216 (.goto (-31)) (-31) := ⟨rfl, rfl, rfl⟩
theorem t190_250 : xt zt190 250 251 .return_ := ⟨rfl, rfl⟩
theorem t224_0 : xt zt224 0 1 (.aload_n 0) := ⟨rfl, rfl⟩
theorem t224_1 : xtf zt224 11 1 4 (.getfield 326) 326 11 54 1 := ⟨rfl, rfl, rfl, rfl⟩
theorem t224_4 : xtk zt224 4 6 (20) := Or.inr (Or.inl ⟨20, ⟨rfl, rfl⟩, by decide⟩)
theorem t224_6 : xtb zt224 6 9 45 (.if_icmp .ne 39) (39) := ⟨rfl, rfl, rfl⟩
theorem t224_9 : xtk zt224 9 10 (1) := Or.inl ⟨1, ⟨rfl, rfl⟩, by decide⟩
theorem t224_10 : xt zt224 10 11 (.istore_n 1) := ⟨rfl, rfl⟩
theorem t224_11 : xt zt224 11 12 (.iload_n 1) := ⟨rfl, rfl⟩
theorem t224_12 : xtk zt224 12 14 (20) := Or.inr (Or.inl ⟨20, ⟨rfl, rfl⟩, by decide⟩)
theorem t224_14 : xtb zt224 14 17 35 (.if_icmp .ge 21) (21) := ⟨rfl, rfl, rfl⟩
theorem t224_17 : xt zt224 17 18 (.aload_n 0) := ⟨rfl, rfl⟩
theorem t224_18 : xtk zt224 18 19 (4) := Or.inl ⟨4, ⟨rfl, rfl⟩, by decide⟩
theorem t224_19 : xt zt224 19 20 (.iload_n 1) := ⟨rfl, rfl⟩
theorem t224_20 : xt zt224 20 21 .iadd := ⟨rfl, rfl⟩
theorem t224_21 : xtk zt224 21 22 (1) := Or.inl ⟨1, ⟨rfl, rfl⟩, by decide⟩
theorem t224_22 : xt zt224 22 23 .isub := ⟨rfl, rfl⟩
theorem t224_23 : xtk zt224 23 24 (4) := Or.inl ⟨4, ⟨rfl, rfl⟩, by decide⟩
theorem t224_24 : xt zt224 24 25 (.iload_n 1) := ⟨rfl, rfl⟩
theorem t224_25 : xt zt224 25 26 .iadd := ⟨rfl, rfl⟩
theorem t224_26 : xtc zt224 11 26 29 (.invokevirtual 449) 449 1 190 2 := ⟨rfl, rfl, rfl⟩
theorem t224_29 : xt zt224 29 32 (.iinc 1 1) := ⟨rfl, rfl⟩
theorem t224_32 : xtb zt224 32 35 11 (.goto (-21)) (-21) := ⟨rfl, rfl, rfl⟩
theorem t224_35 : xt zt224 35 36 (.aload_n 0) := ⟨rfl, rfl⟩
theorem t224_36 : xt zt224 36 37 .dup := ⟨rfl, rfl⟩
theorem t224_37 : xtf zt224 11 37 40 (.getfield 326) 326 11 54 1 := ⟨rfl, rfl, rfl, rfl⟩
theorem t224_40 : xtk zt224 40 41 (1) := Or.inl ⟨1, ⟨rfl, rfl⟩, by decide⟩
theorem t224_41 : xt zt224 41 42 .isub := ⟨rfl, rfl⟩
theorem t224_42 : xtf zt224 11 42 45 (.putfield 326) 326 11 54 1 := ⟨rfl, rfl, rfl, rfl⟩
theorem t224_45 : xt zt224 45 46 (.aload_n 0) := ⟨rfl, rfl⟩
theorem t224_46 : xtk zt224 46 47 (4) := Or.inl ⟨4, ⟨rfl, rfl⟩, by decide⟩
theorem t224_47 : xt zt224 47 48 (.aload_n 0) := ⟨rfl, rfl⟩
theorem t224_48 : xtf zt224 11 48 51 (.getfield 326) 326 11 54 1 := ⟨rfl, rfl, rfl, rfl⟩
theorem t224_51 : xt zt224 51 52 .iadd := ⟨rfl, rfl⟩
theorem t224_52 : xtk zt224 52 53 (0) := Or.inl ⟨0, ⟨rfl, rfl⟩, by decide⟩
theorem t224_53 : xtc zt224 11 53 56 (.invokevirtual 449) 449 1 190 2 := ⟨rfl, rfl, rfl⟩
theorem t224_56 : xt zt224 56 57 (.aload_n 0) := ⟨rfl, rfl⟩
theorem t224_57 : xt zt224 57 58 .dup := ⟨rfl, rfl⟩
theorem t224_58 : xtf zt224 11 58 61 (.getfield 326) 326 11 54 1 := ⟨rfl, rfl, rfl, rfl⟩
theorem t224_61 : xtk zt224 61 62 (1) := Or.inl ⟨1, ⟨rfl, rfl⟩, by decide⟩
theorem t224_62 : xt zt224 62 63 .iadd := ⟨rfl, rfl⟩
theorem t224_63 : xtf zt224 11 63 66 (.putfield 326) 326 11 54 1 := ⟨rfl, rfl, rfl, rfl⟩
theorem t224_66 : xt zt224 66 67 .return_ := ⟨rfl, rfl⟩
theorem t258_0 : xt zt258 0 1 (.aload_n 0) := ⟨rfl, rfl⟩
theorem t258_1 : xtk zt258 1 2 (0) := Or.inl ⟨0, ⟨rfl, rfl⟩, by decide⟩
theorem t258_2 : xtf zt258 11 2 5 (.putfield 166) 166 11 0 1 := ⟨rfl, rfl, rfl, rfl⟩
theorem t258_5 : xt zt258 5 6 (.aload_n 0) := ⟨rfl, rfl⟩
theorem t258_6 : xtk zt258 6 7 (3) := Or.inl ⟨3, ⟨rfl, rfl⟩, by decide⟩
theorem t258_7 : xtk zt258 7 8 (0) := Or.inl ⟨0, ⟨rfl, rfl⟩, by decide⟩
theorem t258_8 : xtc zt258 11 8 11 (.invokevirtual 449) 449 1 190 2 := ⟨rfl, rfl, rfl⟩
theorem t258_11 : xt zt258 11 12 (.aload_n 0) := ⟨rfl, rfl⟩
theorem t258_12 : xtk zt258 12 13 (1) := Or.inl ⟨1, ⟨rfl, rfl⟩, by decide⟩
theorem t258_13 : xtf zt258 11 13 16 (.putfield 322) 322 11 53 1 := ⟨rfl, rfl, rfl, rfl⟩
theorem t258_16 : xt zt258 16 17 (.aload_n 0) := ⟨rfl, rfl⟩
theorem t258_17 : xtf zt258 11 17 20 (.getfield 78) 78 11 37 3 := ⟨rfl, rfl, rfl, rfl⟩
theorem t258_20 : xtk zt258 20 21 (0) := Or.inl ⟨0, ⟨rfl, rfl⟩, by decide⟩
theorem t258_21 : xt zt258 21 22 .iaload := ⟨rfl, rfl⟩
theorem t258_22 : xt zt258 22 23 .ireturn := ⟨rfl, rfl⟩
theorem t259_0 : xt zt259 0 1 (.aload_n 0) := ⟨rfl, rfl⟩
theorem t259_1 : xtk zt259 1 2 (0) := Or.inl ⟨0, ⟨rfl, rfl⟩, by decide⟩
theorem t259_2 : xtf zt259 11 2 5 (.putfield 166) 166 11 0 1 := ⟨rfl, rfl, rfl, rfl⟩
theorem t259_5 : xt zt259 5 6 (.aload_n 0) := ⟨rfl, rfl⟩
theorem t259_6 : xtf zt259 11 6 9 (.getfield 322) 322 11 53 1 := ⟨rfl, rfl, rfl, rfl⟩
theorem t259_9 : xtb zt259 9 12 14 (.ifCond .ne 5) (5) := ⟨rfl, rfl, rfl⟩
theorem t259_12 : xtk zt259 12 13 (-1) := Or.inl ⟨-1, ⟨rfl, rfl⟩, by decide⟩
theorem t259_13 : xt zt259 13 14 .ireturn := ⟨rfl, rfl⟩
theorem t259_14 : xt zt259 14 15 (.aload_n 0) := ⟨rfl, rfl⟩
theorem t259_15 : xtk zt259 15 16 (0) := Or.inl ⟨0, ⟨rfl, rfl⟩, by decide⟩
theorem t259_16 : xtk zt259 16 17 (3) := Or.inl ⟨3, ⟨rfl, rfl⟩, by decide⟩
theorem t259_17 : xtc zt259 11 17 20 (.invokevirtual 449) 449 1 190 2 := ⟨rfl, rfl, rfl⟩
theorem t259_20 : xt zt259 20 21 (.aload_n 0) := ⟨rfl, rfl⟩
theorem t259_21 : xtk zt259 21 22 (0) := Or.inl ⟨0, ⟨rfl, rfl⟩, by decide⟩
theorem t259_22 : xtf zt259 11 22 25 (.putfield 326) 326 11 54 1 := ⟨rfl, rfl, rfl, rfl⟩
theorem t259_25 : xt zt259 25 26 (.aload_n 0) := ⟨rfl, rfl⟩
theorem t259_26 : xtf zt259 11 26 29 (.getfield 78) 78 11 37 3 := ⟨rfl, rfl, rfl, rfl⟩
theorem t259_29 : xtk zt259 29 30 (0) := Or.inl ⟨0, ⟨rfl, rfl⟩, by decide⟩
theorem t259_30 : xt zt259 30 31 .iaload := ⟨rfl, rfl⟩
theorem t259_31 : xt zt259 31 32 .ireturn := ⟨rfl, rfl⟩
/-- what of a row is held against the class: day, mile, ears, seats, tellings -/
abbrev rRow : Type := Int32 × Int32 × Int32 × (Nat → Int32) × (Nat → Int64)
def rowOf (m : xM) (g : xL) (r : Nat) : rRow := (m 150 r, m 151 r, m 155 r, fun p => if p < 6 then m 156 (6 * r + p) else 0, fun j => if j < 6 then g 164 (6 * r + j) else 0)
theorem rowOf_eq {m m' : xM} {g g' : xL} {r r' : Nat} (h1 : m' 150 r' = m 150 r) (h2 : m' 151 r' = m 151 r) (h3 : m' 155 r' = m 155 r) (h4 : ∀ p : Nat, p < 6 → m' 156 (6 * r' + p) = m 156 (6 * r + p)) (h5 : ∀ p : Nat, p < 6 → g' 164 (6 * r' + p) = g 164 (6 * r + p)) : rowOf m' g' r' = rowOf m g r := by
  have e4 : (fun p => if p < 6 then m' 156 (6 * r' + p) else 0) = (fun p => if p < 6 then m 156 (6 * r + p) else 0) := funext fun p => by
    by_cases hp : p < 6
    · rw [if_pos hp, if_pos hp, h4 p hp]
    · rw [if_neg hp, if_neg hp]
  have e5 : (fun j => if j < 6 then g' 164 (6 * r' + j) else 0) = (fun j => if j < 6 then g 164 (6 * r + j) else 0) := funext fun p => by
    by_cases hp : p < 6
    · rw [if_pos hp, if_pos hp, h5 p hp]
    · rw [if_neg hp, if_neg hp]
  unfold rowOf
  rw [h1, h2, h3, e4, e5]
theorem rowOf_st {m m' : xM} {g g' : xL} {r : Nat} (h : ∀ c : Nat, 150 ≤ c → c ≤ 156 → m' c = m c) (hg : g' 164 = g 164) : rowOf m' g' r = rowOf m g r :=
  rowOf_eq (by rw [h 150 (by decide) (by decide)]) (by rw [h 151 (by decide) (by decide)]) (by rw [h 155 (by decide) (by decide)]) (fun p _ => by rw [h 156 (by decide) (by decide)]) (fun p _ => by rw [hg])
/-- cells of the rows -/
def GW (G : xG) : Prop := (∀ k : Nat, 37 ≤ k → k ≤ 51 → G.1 128 k = some (113 + k)) ∧ ∀ c : Nat, 150 ≤ c → c ≤ 163 → ∃ L : Nat, G.2 c = (0, 1, L)
theorem ix6 {t k : Nat} : (6 : Int32) * Int32.ofNat t + Int32.ofNat k = Int32.ofNat (6 * t + k) := by
  rw [show (6 : Int32) = Int32.ofNat 6 from rfl, xn_mul, xn_add]
/-- row t is as row a was; the others stay -/
def CPR (t a : Nat) (m : xM) (g : xL) (m' : xM) (g' : xL) : Prop := (∀ c : Nat, c < 150 ∨ 163 < c → m' c = m c) ∧ (∀ c : Nat, ¬ c = 164 → g' c = g c) ∧ rowOf m' g' t = rowOf m g a ∧ ∀ r : Nat, ¬ r = t → rowOf m' g' r = rowOf m g r
theorem lp190b {nf : Bool} {xs : List Int32} {d : Nat} {g : xL} {G : xG} {r : Option Value} {h' : zH} {t a : Nat} {i j : Int32} {m0 : xM} (hG : GW G) : ∀ (N : Nat) (k : Int32) (m : xM), (∀ c : Nat, ¬ c = 163 → m c = m0 c) → RR nf xs d 11 false 6 none zt190 G r h' N (216, [(3, .int k), (5, .int j), (4, .int i), (0, .ref 128), (1, .int (Int32.ofNat t)), (2, .int (Int32.ofNat a))], [], m, g) → ∃ (m' : xM) (g' : xL), HS h' m' g' G ∧ r = none ∧ g' = g ∧ ∀ c : Nat, ¬ c = 163 → m' c = m0 c := by
  intro N
  obtain ⟨L163, h163⟩ := hG.2 163 (by decide) (by decide)
  induction N with
  | zero => intro k m _ hr; exact hr.no.elim
  | succ N ih =>
    intro k m hm hr
    replace hr := hr.go1 (s_iload_n t190_216 rfl)
    replace hr := hr.go (s_k t190_217)
    rcases hr.bGe t190_219 with ⟨b219, hr⟩ | ⟨b219, hr⟩
    · obtain ⟨rfl, hs⟩ := hr.ret t190_250
      exact ⟨_, _, hs, rfl, rfl, hm⟩
    · replace hr := hr.go (s_aload_n t190_222 rfl)
      replace hr := hr.go (s_getr t190_223 (hG.1 50 (by decide) (by decide)))
      replace hr := hr.go (s_k t190_226)
      replace hr := hr.go (s_iload_n t190_228 rfl)
      replace hr := hr.go (s_imul t190_229)
      replace hr := hr.go (s_iload_n t190_230 rfl)
      replace hr := hr.go (s_iadd t190_231)
      replace hr := hr.go (s_aload_n t190_232 rfl)
      replace hr := hr.go (s_getr t190_233 (hG.1 50 (by decide) (by decide)))
      replace hr := hr.go (s_k t190_236)
      replace hr := hr.go (s_iload_n t190_238 rfl)
      replace hr := hr.go (s_imul t190_239)
      replace hr := hr.go (s_iload_n t190_240 rfl)
      replace hr := hr.go (s_iadd t190_241)
      replace hr := hr.go (s_iaload t190_242 (h163))
      replace hr := hr.go (s_iastore t190_243)
      replace hr := hr.go (s_iinc (ls' := [(3, _), (5, _), (4, _), (0, _), (1, _), (2, _)]) t190_244 rfl rfl)
      replace hr := hr.go (s_goto t190_247)
      exact ih _ _ (fun c hc => (xu_row hc).trans (hm c hc)) hr
theorem bd190 {nf : Bool} {xs : List Int32} {d : Nat} {g : xL} {G : xG} {r : Option Value} {h' : zH} {t a k N : Nat} {m : xM} (hG : GW G) (ht : t < 24) (ha : a < 24) (hk : k < 6) (hr : RR nf xs d 11 false 6 none zt190 G r h' N (96, [(5, .int (Int32.ofNat (6 * a + k))), (4, .int (Int32.ofNat (6 * t + k))), (3, .int (Int32.ofNat k)), (0, .ref 128), (1, .int (Int32.ofNat t)), (2, .int (Int32.ofNat a))], [], m, g)) : ∃ (m2 : xM) (g2 : xL), (∀ c : Nat, c < 156 ∨ 162 < c → m2 c = m c) ∧ (∀ c : Nat, ¬ c = 164 → g2 c = g c) ∧ (∀ q : Nat, m2 156 q = if q = 6 * t + k then m 156 (6 * a + k) else m 156 q) ∧ (∀ q : Nat, g2 164 q = if q = 6 * t + k then g 164 (6 * a + k) else g 164 q) ∧ RR nf xs d 11 false 6 none zt190 G r h' N (74, [(3, .int (Int32.ofNat (k + 1))), (5, .int (Int32.ofNat (6 * a + k))), (4, .int (Int32.ofNat (6 * t + k))), (0, .ref 128), (1, .int (Int32.ofNat t)), (2, .int (Int32.ofNat a))], [], m2, g2) := by
  obtain ⟨L156, h156⟩ := hG.2 156 (by decide) (by decide)
  obtain ⟨L157, h157⟩ := hG.2 157 (by decide) (by decide)
  obtain ⟨L158, h158⟩ := hG.2 158 (by decide) (by decide)
  obtain ⟨L159, h159⟩ := hG.2 159 (by decide) (by decide)
  obtain ⟨L160, h160⟩ := hG.2 160 (by decide) (by decide)
  obtain ⟨L161, h161⟩ := hG.2 161 (by decide) (by decide)
  obtain ⟨L162, h162⟩ := hG.2 162 (by decide) (by decide)
  replace hr := hr.go (s_aload_n t190_96 rfl)
  replace hr := hr.go (s_getr t190_97 (hG.1 43 (by decide) (by decide)))
  replace hr := hr.go (s_iload t190_100 rfl)
  replace hr := hr.go (s_aload_n t190_102 rfl)
  replace hr := hr.go (s_getr t190_103 (hG.1 43 (by decide) (by decide)))
  replace hr := hr.go (s_iload t190_106 rfl)
  replace hr := hr.go (s_iaload t190_108 (h156))
  replace hr := hr.go (s_iastore t190_109)
  replace hr := hr.go (s_aload_n t190_110 rfl)
  replace hr := hr.go (s_getr t190_111 (hG.1 44 (by decide) (by decide)))
  replace hr := hr.go (s_iload t190_114 rfl)
  replace hr := hr.go (s_aload_n t190_116 rfl)
  replace hr := hr.go (s_getr t190_117 (hG.1 44 (by decide) (by decide)))
  replace hr := hr.go (s_iload t190_120 rfl)
  replace hr := hr.go (s_iaload t190_122 (h157))
  replace hr := hr.go (s_iastore t190_123)
  replace hr := hr.go (s_aload_n t190_124 rfl)
  replace hr := hr.go (s_getr t190_125 (hG.1 45 (by decide) (by decide)))
  replace hr := hr.go (s_iload t190_128 rfl)
  replace hr := hr.go (s_aload_n t190_130 rfl)
  replace hr := hr.go (s_getr t190_131 (hG.1 45 (by decide) (by decide)))
  replace hr := hr.go (s_iload t190_134 rfl)
  replace hr := hr.go (s_iaload t190_136 (h158))
  replace hr := hr.go (s_iastore t190_137)
  replace hr := hr.go (s_aload_n t190_138 rfl)
  replace hr := hr.go (s_getr t190_139 (hG.1 46 (by decide) (by decide)))
  replace hr := hr.go (s_iload t190_142 rfl)
  replace hr := hr.go (s_aload_n t190_144 rfl)
  replace hr := hr.go (s_getr t190_145 (hG.1 46 (by decide) (by decide)))
  replace hr := hr.go (s_iload t190_148 rfl)
  replace hr := hr.go (s_iaload t190_150 (h159))
  replace hr := hr.go (s_iastore t190_151)
  replace hr := hr.go (s_aload_n t190_152 rfl)
  replace hr := hr.go (s_getr t190_153 (hG.1 47 (by decide) (by decide)))
  replace hr := hr.go (s_iload t190_156 rfl)
  replace hr := hr.go (s_aload_n t190_158 rfl)
  replace hr := hr.go (s_getr t190_159 (hG.1 47 (by decide) (by decide)))
  replace hr := hr.go (s_iload t190_162 rfl)
  replace hr := hr.go (s_iaload t190_164 (h160))
  replace hr := hr.go (s_iastore t190_165)
  replace hr := hr.go (s_aload_n t190_166 rfl)
  replace hr := hr.go (s_getr t190_167 (hG.1 48 (by decide) (by decide)))
  replace hr := hr.go (s_iload t190_170 rfl)
  replace hr := hr.go (s_aload_n t190_172 rfl)
  replace hr := hr.go (s_getr t190_173 (hG.1 48 (by decide) (by decide)))
  replace hr := hr.go (s_iload t190_176 rfl)
  replace hr := hr.go (s_iaload t190_178 (h161))
  replace hr := hr.go (s_iastore t190_179)
  replace hr := hr.go (s_aload_n t190_180 rfl)
  replace hr := hr.go (s_getr t190_181 (hG.1 49 (by decide) (by decide)))
  replace hr := hr.go (s_iload t190_184 rfl)
  replace hr := hr.go (s_aload_n t190_186 rfl)
  replace hr := hr.go (s_getr t190_187 (hG.1 49 (by decide) (by decide)))
  replace hr := hr.go (s_iload t190_190 rfl)
  replace hr := hr.go (s_iaload t190_192 (h162))
  replace hr := hr.go (s_iastore t190_193)
  replace hr := hr.go (s_aload_n t190_194 rfl)
  replace hr := hr.go (s_getr t190_195 (hG.1 51 (by decide) (by decide)))
  replace hr := hr.go (s_iload t190_198 rfl)
  replace hr := hr.go (s_aload_n t190_200 rfl)
  replace hr := hr.go (s_getr t190_201 (hG.1 51 (by decide) (by decide)))
  replace hr := hr.go (s_iload t190_204 rfl)
  replace hr := hr.go (s_laload t190_206)
  replace hr := hr.go (s_lastore t190_207)
  rw [xn_nat (show 6 * t + k < 2147483648 by omega), xn_nat (show 6 * a + k < 2147483648 by omega)] at hr
  replace hr := hr.go (s_iinc (ls' := [(3, _), (5, _), (4, _), (0, _), (1, _), (2, _)]) t190_208 rfl rfl)
  rw [xn_1i] at hr
  replace hr := hr.go (s_goto t190_211)
  refine ⟨_, _, fun c hc => ?_, fun c hc => xu_row hc, fun q => ?_, fun q => xu_at, hr⟩
  · repeat rw [xu_row (by omega)]
  · repeat rw [xu_row (by decide)]
    exact xu_at
theorem st190 {m m2 : Nat → Int32} {t a k : Nat} {m0 : Nat → Int32} (hta : ¬ t = a) (hk : k < 6) (h : ∀ q : Nat, m q = if 6 * t ≤ q ∧ q < 6 * t + k then m0 (6 * a + (q - 6 * t)) else m0 q) (h2 : ∀ q : Nat, m2 q = if q = 6 * t + k then m (6 * a + k) else m q) : ∀ q : Nat, m2 q = if 6 * t ≤ q ∧ q < 6 * t + (k + 1) then m0 (6 * a + (q - 6 * t)) else m0 q := by
  intro q
  rw [h2 q, h q, h (6 * a + k)]
  by_cases e : q = 6 * t + k
  · rw [if_pos e, if_neg (by omega), if_pos (by omega)]
    congr 1
    omega
  · rw [if_neg e]
    by_cases f : 6 * t ≤ q ∧ q < 6 * t + k
    · rw [if_pos f, if_pos (by omega)]
    · rw [if_neg f, if_neg (by omega)]
theorem st190l {m m2 : Nat → Int64} {t a k : Nat} {m0 : Nat → Int64} (hta : ¬ t = a) (hk : k < 6) (h : ∀ q : Nat, m q = if 6 * t ≤ q ∧ q < 6 * t + k then m0 (6 * a + (q - 6 * t)) else m0 q) (h2 : ∀ q : Nat, m2 q = if q = 6 * t + k then m (6 * a + k) else m q) : ∀ q : Nat, m2 q = if 6 * t ≤ q ∧ q < 6 * t + (k + 1) then m0 (6 * a + (q - 6 * t)) else m0 q := by
  intro q
  rw [h2 q, h q, h (6 * a + k)]
  by_cases e : q = 6 * t + k
  · rw [if_pos e, if_neg (by omega), if_pos (by omega)]
    congr 1
    omega
  · rw [if_neg e]
    by_cases f : 6 * t ≤ q ∧ q < 6 * t + k
    · rw [if_pos f, if_pos (by omega)]
    · rw [if_neg f, if_neg (by omega)]
theorem lp190a {nf : Bool} {xs : List Int32} {d : Nat} {G : xG} {r : Option Value} {h' : zH} {t a : Nat} {m0 : xM} {g0 : xL} (hG : GW G) (ht : t < 24) (ha : a < 24) (hta : ¬ t = a) : ∀ (N k : Nat) (i j : Int32) (m : xM) (g : xL), (∀ c : Nat, c < 156 ∨ 162 < c → m c = m0 c) → (∀ c : Nat, ¬ c = 164 → g c = g0 c) → (∀ q : Nat, m 156 q = if 6 * t ≤ q ∧ q < 6 * t + k then m0 156 (6 * a + (q - 6 * t)) else m0 156 q) → (∀ q : Nat, g 164 q = if 6 * t ≤ q ∧ q < 6 * t + k then g0 164 (6 * a + (q - 6 * t)) else g0 164 q) → k ≤ 6 → RR nf xs d 11 false 6 none zt190 G r h' N (74, [(3, .int (Int32.ofNat k)), (5, .int j), (4, .int i), (0, .ref 128), (1, .int (Int32.ofNat t)), (2, .int (Int32.ofNat a))], [], m, g) → ∃ (m' : xM) (g' : xL), HS h' m' g' G ∧ r = none ∧ (∀ c : Nat, c < 156 ∨ 163 < c → m' c = m0 c) ∧ (∀ c : Nat, ¬ c = 164 → g' c = g0 c) ∧ (∀ q : Nat, m' 156 q = if 6 * t ≤ q ∧ q < 6 * t + 6 then m0 156 (6 * a + (q - 6 * t)) else m0 156 q) ∧ ∀ q : Nat, g' 164 q = if 6 * t ≤ q ∧ q < 6 * t + 6 then g0 164 (6 * a + (q - 6 * t)) else g0 164 q := by
  intro N
  induction N with
  | zero => intro k i j m g _ _ _ _ _ hr; exact hr.no.elim
  | succ N ih =>
    intro k i j m g h1 h2 h3 h4 hk hr
    have qk : (Int32.ofNat k).toInt = (k : Int) := xn_int (by omega)
    have k6 : (6 : Int32).toInt = 6 := rfl
    replace hr := hr.go1 (s_iload_n t190_74 rfl)
    replace hr := hr.go (s_k t190_75)
    rcases hr.bGe t190_77 with ⟨b77, hr⟩ | ⟨b77, hr⟩
    · replace hr := hr.go (s_k t190_214)
      replace hr := hr.go (s_istore_n (ls' := [(3, _), (5, _), (4, _), (0, _), (1, _), (2, _)]) t190_215 rfl)
      obtain ⟨m', g', hs, e1, e2, e3⟩ := lp190b hG N _ m (fun c _ => rfl) hr
      have k6 : k = 6 := by omega
      subst k6
      subst e2
      refine ⟨m', _, hs, e1, fun c hc => (e3 c (by omega)).trans (h1 c (by omega)), h2, fun q => ?_, h4⟩
      rw [e3 156 (by decide)]
      exact h3 q
    · replace hr := hr.go (s_k t190_80)
      replace hr := hr.go (s_iload_n t190_82 rfl)
      replace hr := hr.go (s_imul t190_83)
      replace hr := hr.go (s_iload_n t190_84 rfl)
      replace hr := hr.go (s_iadd t190_85)
      rw [ix6] at hr
      replace hr := hr.go (s_istore (ls' := [(4, _), (3, _), (5, _), (0, _), (1, _), (2, _)]) t190_86 rfl)
      replace hr := hr.go (s_k t190_88)
      replace hr := hr.go (s_iload_n t190_90 rfl)
      replace hr := hr.go (s_imul t190_91)
      replace hr := hr.go (s_iload_n t190_92 rfl)
      replace hr := hr.go (s_iadd t190_93)
      rw [ix6] at hr
      replace hr := hr.go (s_istore (ls' := [(5, _), (4, _), (3, _), (0, _), (1, _), (2, _)]) t190_94 rfl)
      obtain ⟨m2, g2, f1, f2, f3, f4, hr⟩ := bd190 hG ht ha (by omega) hr
      exact ih (k + 1) _ _ m2 g2 (fun c hc => (f1 c hc).trans (h1 c hc)) (fun c hc => (f2 c hc).trans (h2 c hc)) (st190 hta (by omega) h3 f3) (st190l hta (by omega) h4 f4) (by omega) hr
theorem ct_copies {nf : Bool} {xs : List Int32} {d : Nat} {m : xM} {g : xL} {G : xG} {t a : Nat} (hG : GW G) (ht : t < 24) (ha : a < 24) (hta : ¬ t = a) : CT nf xs d 190 [.ref 128, .int (Int32.ofNat t), .int (Int32.ofNat a)] m g G (fun r m' g' => r = none ∧ CPR t a m g m' g') := by
  refine CT.of (c := 11) (ini := false) (nL := 6) (rt := none) (tab := zt190) rfl (fun d' r h' N hd' hr => ?_)
  replace hr : RR nf xs d' 11 false 6 none zt190 G r h' N (0, [(0, .ref 128), (1, .int (Int32.ofNat t)), (2, .int (Int32.ofNat a))], [], m, g) := hr
  obtain ⟨L150, h150⟩ := hG.2 150 (by decide) (by decide)
  obtain ⟨L151, h151⟩ := hG.2 151 (by decide) (by decide)
  obtain ⟨L152, h152⟩ := hG.2 152 (by decide) (by decide)
  obtain ⟨L153, h153⟩ := hG.2 153 (by decide) (by decide)
  obtain ⟨L154, h154⟩ := hG.2 154 (by decide) (by decide)
  obtain ⟨L155, h155⟩ := hG.2 155 (by decide) (by decide)
  obtain ⟨L156, h156⟩ := hG.2 156 (by decide) (by decide)
  obtain ⟨L157, h157⟩ := hG.2 157 (by decide) (by decide)
  obtain ⟨L158, h158⟩ := hG.2 158 (by decide) (by decide)
  obtain ⟨L159, h159⟩ := hG.2 159 (by decide) (by decide)
  obtain ⟨L160, h160⟩ := hG.2 160 (by decide) (by decide)
  obtain ⟨L161, h161⟩ := hG.2 161 (by decide) (by decide)
  obtain ⟨L162, h162⟩ := hG.2 162 (by decide) (by decide)
  replace hr := hr.go (s_aload_n t190_0 rfl)
  replace hr := hr.go (s_getr t190_1 (hG.1 37 (by decide) (by decide)))
  replace hr := hr.go (s_iload_n t190_4 rfl)
  replace hr := hr.go (s_aload_n t190_5 rfl)
  replace hr := hr.go (s_getr t190_6 (hG.1 37 (by decide) (by decide)))
  replace hr := hr.go (s_iload_n t190_9 rfl)
  replace hr := hr.go (s_iaload t190_10 (h150))
  replace hr := hr.go (s_iastore t190_11)
  replace hr := hr.go (s_aload_n t190_12 rfl)
  replace hr := hr.go (s_getr t190_13 (hG.1 38 (by decide) (by decide)))
  replace hr := hr.go (s_iload_n t190_16 rfl)
  replace hr := hr.go (s_aload_n t190_17 rfl)
  replace hr := hr.go (s_getr t190_18 (hG.1 38 (by decide) (by decide)))
  replace hr := hr.go (s_iload_n t190_21 rfl)
  replace hr := hr.go (s_iaload t190_22 (h151))
  replace hr := hr.go (s_iastore t190_23)
  replace hr := hr.go (s_aload_n t190_24 rfl)
  replace hr := hr.go (s_getr t190_25 (hG.1 39 (by decide) (by decide)))
  replace hr := hr.go (s_iload_n t190_28 rfl)
  replace hr := hr.go (s_aload_n t190_29 rfl)
  replace hr := hr.go (s_getr t190_30 (hG.1 39 (by decide) (by decide)))
  replace hr := hr.go (s_iload_n t190_33 rfl)
  replace hr := hr.go (s_iaload t190_34 (h152))
  replace hr := hr.go (s_iastore t190_35)
  replace hr := hr.go (s_aload_n t190_36 rfl)
  replace hr := hr.go (s_getr t190_37 (hG.1 40 (by decide) (by decide)))
  replace hr := hr.go (s_iload_n t190_40 rfl)
  replace hr := hr.go (s_aload_n t190_41 rfl)
  replace hr := hr.go (s_getr t190_42 (hG.1 40 (by decide) (by decide)))
  replace hr := hr.go (s_iload_n t190_45 rfl)
  replace hr := hr.go (s_iaload t190_46 (h153))
  replace hr := hr.go (s_iastore t190_47)
  replace hr := hr.go (s_aload_n t190_48 rfl)
  replace hr := hr.go (s_getr t190_49 (hG.1 41 (by decide) (by decide)))
  replace hr := hr.go (s_iload_n t190_52 rfl)
  replace hr := hr.go (s_aload_n t190_53 rfl)
  replace hr := hr.go (s_getr t190_54 (hG.1 41 (by decide) (by decide)))
  replace hr := hr.go (s_iload_n t190_57 rfl)
  replace hr := hr.go (s_iaload t190_58 (h154))
  replace hr := hr.go (s_iastore t190_59)
  replace hr := hr.go (s_aload_n t190_60 rfl)
  replace hr := hr.go (s_getr t190_61 (hG.1 42 (by decide) (by decide)))
  replace hr := hr.go (s_iload_n t190_64 rfl)
  replace hr := hr.go (s_aload_n t190_65 rfl)
  replace hr := hr.go (s_getr t190_66 (hG.1 42 (by decide) (by decide)))
  replace hr := hr.go (s_iload_n t190_69 rfl)
  replace hr := hr.go (s_iaload t190_70 (h155))
  replace hr := hr.go (s_iastore t190_71)
  rw [xn_nat (show t < 2147483648 by omega), xn_nat (show a < 2147483648 by omega)] at hr
  replace hr := hr.go (s_k t190_72)
  replace hr := hr.go (s_istore_n (ls' := [(3, _), (0, _), (1, _), (2, _)]) t190_73 rfl)
  replace hr := hr.go (s_iload_n t190_74 rfl)
  replace hr := hr.go (s_k t190_75)
  replace hr := hr.brF t190_77 (by decide)
  replace hr := hr.go (s_k t190_80)
  replace hr := hr.go (s_iload_n t190_82 rfl)
  replace hr := hr.go (s_imul t190_83)
  replace hr := hr.go (s_iload_n t190_84 rfl)
  replace hr := hr.go (s_iadd t190_85)
  rw [show (6 : Int32) * Int32.ofNat t + 0 = Int32.ofNat (6 * t + 0) from ix6 (k := 0)] at hr
  replace hr := hr.go (s_istore (ls' := [(4, _), (3, _), (0, _), (1, _), (2, _)]) t190_86 rfl)
  replace hr := hr.go (s_k t190_88)
  replace hr := hr.go (s_iload_n t190_90 rfl)
  replace hr := hr.go (s_imul t190_91)
  replace hr := hr.go (s_iload_n t190_92 rfl)
  replace hr := hr.go (s_iadd t190_93)
  rw [show (6 : Int32) * Int32.ofNat a + 0 = Int32.ofNat (6 * a + 0) from ix6 (k := 0)] at hr
  replace hr := hr.go (s_istore (ls' := [(5, _), (4, _), (3, _), (0, _), (1, _), (2, _)]) t190_94 rfl)
  obtain ⟨m2, g2, f1, f2, f3, f4, hr⟩ := bd190 (k := 0) hG ht ha (by decide) hr
  have z0 : ∀ {α : Type} (f : Nat → α) (q : Nat), f q = if 6 * t ≤ q ∧ q < 6 * t + 0 then f (6 * a + (q - 6 * t)) else f q := fun f q => by rw [if_neg (by omega)]
  obtain ⟨m', g', hs, e1, e2, e3, e4, e5⟩ := lp190a hG ht ha hta _ 1 _ _ m2 g2 f1 f2 (st190 hta (by decide) (z0 _) f3) (st190l hta (by decide) (z0 _) f4) (by decide) hr
  refine ⟨m', g', hs, e1, fun c hc => ?_, e3, rowOf_eq ?_ ?_ ?_ (fun p hp => ?_) (fun p hp => ?_), fun z hz => rowOf_eq ?_ ?_ ?_ (fun p hp => ?_) (fun p hp => ?_)⟩
  · rw [e2 c (by omega)]
    repeat rw [xu_row (by omega)]
  · rw [e2 150 (by decide)]
    repeat rw [xu_row (a := 155) (by decide)]
    repeat rw [xu_row (by decide)]
    exact xu_same
  · rw [e2 151 (by decide)]
    repeat rw [xu_row (a := 155) (by decide)]
    repeat rw [xu_row (by decide)]
    rw [xu_same, xu_row (by decide)]
  · rw [e2 155 (by decide), xu_same]
    repeat rw [xu_row (by decide)]
  · rw [e4, if_pos (by omega), show 6 * a + (6 * t + p - 6 * t) = 6 * a + p by omega]
    repeat rw [xu_row (by decide)]
  · rw [e5, if_pos (by omega), show 6 * a + (6 * t + p - 6 * t) = 6 * a + p by omega]
  · rw [e2 150 (by decide)]
    repeat rw [xu_row (a := 155) (by decide)]
    repeat rw [xu_row (by decide)]
    exact xu_oth (by omega)
  · rw [e2 151 (by decide)]
    repeat rw [xu_row (a := 155) (by decide)]
    repeat rw [xu_row (by decide)]
    rw [xu_oth (by omega), xu_row (by decide)]
  · rw [e2 155 (by decide), xu_oth (by omega)]
    repeat rw [xu_row (by decide)]
  · rw [e4, if_neg (by omega)]
    repeat rw [xu_row (by decide)]
  · rw [e5, if_neg (by omega)]
def kS (n : Nat) : Nat := if n = 20 then 1 else 0
def kN (n : Nat) : Nat := if n = 20 then 20 else n + 1
theorem k4s {k : Nat} : (4 : Int32) + Int32.ofNat (k + 1) - 1 = Int32.ofNat (4 + k) := by
  rw [show (4 : Int32) = Int32.ofNat 4 from rfl, xn_add, show 4 + (k + 1) = (4 + k) + 1 by omega, xn_pred]
theorem k4 {k : Nat} : (4 : Int32) + Int32.ofNat k = Int32.ofNat (4 + k) := xn_add (p := 4)
/-- what now is was kept behind n of them -/
def KNP (n : Nat) (m : xM) (g : xL) (m' : xM) (g' : xL) : Prop := (∀ c : Nat, ¬ c = 128 → c < 150 ∨ 163 < c → m' c = m c) ∧ (∀ k : Nat, ¬ k = 54 → m' 128 k = m 128 k) ∧ (∀ c : Nat, ¬ c = 164 → g' c = g c) ∧ m' 128 54 = Int32.ofNat (kN n) ∧ (∀ k : Nat, k + 1 < kN n → rowOf m' g' (4 + k) = rowOf m g (4 + (k + kS n))) ∧ rowOf m' g' (4 + (kN n - 1)) = rowOf m g 0 ∧ ∀ r : Nat, r < 4 → rowOf m' g' r = rowOf m g r
theorem lp224 {nf : Bool} {xs : List Int32} {d : Nat} {G : xG} {r : Option Value} {h' : zH} {m0 : xM} {g0 : xL} (hG : GW G) (h54 : m0 128 54 = 20) : ∀ (N k : Nat) (m : xM) (g : xL), (∀ c : Nat, c < 150 ∨ 163 < c → m c = m0 c) → (∀ c : Nat, ¬ c = 164 → g c = g0 c) → (∀ i : Nat, i < k → rowOf m g (4 + i) = rowOf m0 g0 (4 + (i + 1))) → (∀ q : Nat, q < 4 ∨ 4 + k ≤ q → rowOf m g q = rowOf m0 g0 q) → k ≤ 19 → RR nf xs d 11 false 2 none zt224 G r h' N (11, [(1, .int (Int32.ofNat (k + 1))), (0, .ref 128)], [], m, g) → ∃ (m' : xM) (g' : xL), HS h' m' g' G ∧ r = none ∧ KNP 20 m0 g0 m' g' := by
  intro N
  induction N with
  | zero => intro k m g _ _ _ _ _ hr; exact hr.no.elim
  | succ N ih =>
    intro k m g h1 h2 h3 h4 hk hr
    have qk : (Int32.ofNat (k + 1)).toInt = ((k + 1 : Nat) : Int) := xn_int (by omega)
    have k20 : (20 : Int32).toInt = 20 := rfl
    replace hr := hr.go1 (s_iload_n t224_11 rfl)
    replace hr := hr.go (s_k t224_12)
    rcases hr.bGe t224_14 with ⟨b14, hr⟩ | ⟨b14, hr⟩
    · replace hr := hr.go (s_aload_n t224_35 rfl)
      replace hr := hr.go (s_dup t224_36 rfl)
      replace hr := hr.go (s_getf t224_37)
      replace hr := hr.go (s_k t224_40)
      replace hr := hr.go (s_isub t224_41)
      replace hr := hr.go (s_putf t224_42)
      replace hr := hr.go (s_aload_n t224_45 rfl)
      replace hr := hr.go (s_k t224_46)
      replace hr := hr.go (s_aload_n t224_47 rfl)
      replace hr := hr.go (s_getf t224_48)
      replace hr := hr.go (s_iadd t224_51)
      rw [show (4 : Int32) + (xu m 128 54 (m 128 54 - 1)) 128 54 = Int32.ofNat 23 from by rw [xu_same, h1 128 (by decide), h54]; rfl] at hr
      replace hr := hr.go (s_k t224_52)
      obtain ⟨_, m1, g1, ⟨rfl, c1, c2, c3, c4⟩, hr⟩ := hr.callv t224_53 rfl rfl (ct_copies (t := 23) (a := 0) hG (by omega) (by omega) (by omega))
      replace hr : RR nf xs d 11 false 2 none zt224 G r h' N (56, [(1, .int (Int32.ofNat (k + 1))), (0, .ref 128)], [], m1, g1) := hr
      skip
      replace hr := hr.go (s_aload_n t224_56 rfl)
      replace hr := hr.go (s_dup t224_57 rfl)
      replace hr := hr.go (s_getf t224_58)
      replace hr := hr.go (s_k t224_61)
      replace hr := hr.go (s_iadd t224_62)
      replace hr := hr.go (s_putf t224_63)
      obtain ⟨rfl, hs⟩ := hr.ret t224_66
      have k19 : k = 19 := by omega
      subst k19
      refine ⟨_, _, hs, rfl, fun c hc hc2 => ?_, fun q hq => ?_, fun c hc => (c2 c hc).trans (h2 c hc), ?_, fun i hi => ?_, ?_, fun q hq => ?_⟩
      · rw [xu_row hc, c1 c hc2, xu_row hc]; exact h1 c hc2
      · rw [xu_oth (by omega), c1 128 (by decide), xu_oth (by omega), h1 128 (by decide)]
      · rw [xu_same, c1 128 (by decide), xu_same, h1 128 (by decide), h54]
        rfl
      · have hi : i + 1 < 20 := hi
        refine (rowOf_st (fun c c0 _ => xu_row (by omega)) rfl).trans ((c4 _ (by omega)).trans ((rowOf_st (fun c c0 _ => xu_row (by omega)) rfl).trans (h3 i (by omega))))
      · refine (rowOf_st (fun c c0 _ => xu_row (by omega)) rfl).trans (Eq.trans c3 ((rowOf_st (fun c c0 _ => xu_row (by omega)) rfl).trans (h4 0 (by omega))))
      · exact (rowOf_st (fun c c0 _ => xu_row (by omega)) rfl).trans ((c4 _ (by omega)).trans ((rowOf_st (fun c c0 _ => xu_row (by omega)) rfl).trans (h4 q (by omega))))
    · replace hr := hr.go (s_aload_n t224_17 rfl)
      replace hr := hr.go (s_k t224_18)
      replace hr := hr.go (s_iload_n t224_19 rfl)
      replace hr := hr.go (s_iadd t224_20)
      replace hr := hr.go (s_k t224_21)
      skip
      replace hr := hr.go (s_isub t224_22)
      rw [k4s] at hr
      replace hr := hr.go (s_k t224_23)
      replace hr := hr.go (s_iload_n t224_24 rfl)
      replace hr := hr.go (s_iadd t224_25)
      rw [k4] at hr
      obtain ⟨_, m1, g1, ⟨rfl, c1, c2, c3, c4⟩, hr⟩ := hr.callv t224_26 rfl rfl (ct_copies (t := 4 + k) (a := 4 + (k + 1)) hG (by omega) (by omega) (by omega))
      replace hr : RR nf xs d 11 false 2 none zt224 G r h' N (29, [(1, .int (Int32.ofNat (k + 1))), (0, .ref 128)], [], m1, g1) := hr
      skip
      replace hr := hr.go (s_iinc (ls' := [(1, _), (0, _)]) t224_29 rfl rfl)
      rw [xn_1i] at hr
      replace hr := hr.go (s_goto t224_32)
      refine ih (k + 1) m1 g1 (fun c hc => (c1 c hc).trans (h1 c hc)) (fun c hc => (c2 c hc).trans (h2 c hc)) (fun i hi => ?_) (fun q hq => (c4 q (by omega)).trans (h4 q (by omega))) (by omega) hr
      by_cases e : i = k
      · subst e
        exact c3.trans (h4 _ (by omega))
      · exact (c4 _ (by omega)).trans (h3 i (by omega))
theorem ct_keepNow {nf : Bool} {xs : List Int32} {d : Nat} {m : xM} {g : xL} {G : xG} {n : Nat} (hG : GW G) (hn : n ≤ 20) (h54 : m 128 54 = Int32.ofNat n) : CT nf xs d 224 [.ref 128] m g G (fun r m' g' => r = none ∧ KNP n m g m' g') := by
  refine CT.of (c := 11) (ini := false) (nL := 2) (rt := none) (tab := zt224) rfl (fun d' r h' N hd' hr => ?_)
  replace hr : RR nf xs d' 11 false 2 none zt224 G r h' N (0, [(0, .ref 128)], [], m, g) := hr
  replace hr := hr.go (s_aload_n t224_0 rfl)
  replace hr := hr.go (s_getf t224_1)
  replace hr := hr.go (s_k t224_4)
  rcases hr.bNe t224_6 with ⟨b6, hr⟩ | ⟨b6, hr⟩
  · have hn2 : ¬ n = 20 := fun q => b6 (by rw [h54, q]; rfl)
    replace hr := hr.go (s_aload_n t224_45 rfl)
    replace hr := hr.go (s_k t224_46)
    replace hr := hr.go (s_aload_n t224_47 rfl)
    replace hr := hr.go (s_getf t224_48)
    replace hr := hr.go (s_iadd t224_51)
    replace hr := hr.go (s_k t224_52)
    rw [h54, k4] at hr
    obtain ⟨_, m1, g1, ⟨rfl, c1, c2, c3, c4⟩, hr⟩ := hr.callv t224_53 rfl rfl (ct_copies (t := 4 + n) (a := 0) hG (by omega) (by omega) (by omega))
    replace hr : RR nf xs d' 11 false 2 (none) zt224 G r h' N (56, [(0, .ref 128)], [], m1, g1) := hr
    skip
    replace hr := hr.go (s_aload_n t224_56 rfl)
    replace hr := hr.go (s_dup t224_57 rfl)
    replace hr := hr.go (s_getf t224_58)
    replace hr := hr.go (s_k t224_61)
    replace hr := hr.go (s_iadd t224_62)
    replace hr := hr.go (s_putf t224_63)
    obtain ⟨rfl, hs⟩ := hr.ret t224_66
    have e0 : kS n = 0 := if_neg hn2
    have e1 : kN n = n + 1 := if_neg hn2
    refine ⟨_, _, hs, rfl, fun c hc hc2 => (xu_row hc).trans (c1 c hc2), fun q hq => ?_, c2, ?_, fun i hi => ?_, ?_, fun q hq => ?_⟩
    · rw [xu_oth (by omega), c1 128 (by decide)]
    · rw [xu_same, c1 128 (by decide), h54, e1, xn_1]
    · rw [e1] at hi
      rw [e0]
      exact (rowOf_st (fun c c0 _ => xu_row (by omega)) rfl).trans (c4 _ (by omega))
    · rw [e1, show 4 + (n + 1 - 1) = 4 + n by omega]
      exact (rowOf_st (fun c c0 _ => xu_row (by omega)) rfl).trans c3
    · exact (rowOf_st (fun c c0 _ => xu_row (by omega)) rfl).trans (c4 _ (by omega))
  · replace hr := hr.go (s_k t224_9)
    replace hr := hr.go (s_istore_n (ls' := [(1, _), (0, _)]) t224_10 rfl)
    have h20 : n = 20 := xn_inj (by omega) (by decide) (h54.symm.trans b6)
    subst h20
    exact lp224 hG h54 _ 0 m g (fun c _ => rfl) (fun c _ => rfl) (fun i hi => absurd hi (Nat.not_lt_zero i)) (fun q _ => rfl) (by decide) hr
theorem ct_keepR {nf : Bool} {xs : List Int32} {d : Nat} {m : xM} {g : xL} {G : xG} (hG : GW G) : CT nf xs d 258 [.ref 128] m g G (fun r m' g' => r = some (.int (m 150 0)) ∧ (∀ c : Nat, ¬ c = 128 → c < 150 ∨ 163 < c → m' c = m c) ∧ (∀ k : Nat, ¬ k = 0 → ¬ k = 53 → m' 128 k = m 128 k) ∧ (∀ c : Nat, ¬ c = 164 → g' c = g c) ∧ m' 128 53 = 1 ∧ rowOf m' g' 3 = rowOf m g 0 ∧ ∀ q : Nat, ¬ q = 3 → rowOf m' g' q = rowOf m g q) := by
  refine CT.of (c := 11) (ini := false) (nL := 1) (rt := some .int) (tab := zt258) rfl (fun d' r h' N hd hr => ?_)
  replace hr : RR nf xs d' 11 false 1 (some .int) zt258 G r h' N (0, [(0, .ref 128)], [], m, g) := hr
  have k1 : (1 : Int32).toInt = 1 := rfl
  have k3 : (3 : Int32).toInt = 3 := rfl
  obtain ⟨L150, h150⟩ := hG.2 150 (by decide) (by decide)
  replace hr := hr.go (s_aload_n t258_0 rfl)
  replace hr := hr.go (s_k t258_1)
  replace hr := hr.go (s_putf t258_2)
  replace hr := hr.go (s_aload_n t258_5 rfl)
  replace hr := hr.go (s_k t258_6)
  replace hr := hr.go (s_k t258_7)
  obtain ⟨_, m1, g1, ⟨rfl, c1, c2, c3, c4⟩, hr⟩ := hr.callv t258_8 rfl rfl (ct_copies (t := 3) (a := 0) hG (by omega) (by omega) (by omega))
  replace hr : RR nf xs d' 11 false 1 (some .int) zt258 G r h' N (11, [(0, .ref 128)], [], m1, g1) := hr
  skip
  replace hr := hr.go (s_aload_n t258_11 rfl)
  replace hr := hr.go (s_k t258_12)
  replace hr := hr.go (s_putf t258_13)
  replace hr := hr.go (s_aload_n t258_16 rfl)
  replace hr := hr.go (s_getr t258_17 (hG.1 37 (by decide) (by decide)))
  replace hr := hr.go (s_k t258_20)
  replace hr := hr.go (s_iaload t258_21 (h150))
  obtain ⟨rfl, hs⟩ := hr.iret t258_22
  have er : ∀ q : Nat, rowOf (xu m 128 0 0) g q = rowOf m g q := fun q => rowOf_st (fun c c0 _ => xu_row (by omega)) rfl
  refine ⟨_, _, hs, ?_, fun c hc hc2 => ?_, fun k k1 k2 => ?_, c2, xu_same, (rowOf_st (fun c c0 _ => xu_row (by omega)) rfl).trans (c3.trans (er 0)), fun q hq => (rowOf_st (fun c c0 _ => xu_row (by omega)) rfl).trans ((c4 q hq).trans (er q))⟩
  · rw [xu_row (by decide)]
    have e0 := congrArg (fun w : rRow => w.1) (c4 0 (by decide))
    have e0 : m1 150 0 = xu m 128 0 0 150 0 := e0
    exact congrArg (fun z => some (Value.int z)) (e0.trans (by rw [xu_row (by decide)]))
  · rw [xu_row hc, c1 c hc2, xu_row hc]
  · rw [xu_oth (by omega), c1 128 (by decide), xu_oth (by omega)]
theorem ct_backR {nf : Bool} {xs : List Int32} {d : Nat} {m : xM} {g : xL} {G : xG} (hG : GW G) : CT nf xs d 259 [.ref 128] m g G (fun r m' g' => (m 128 53 = 0 ∧ r = some (.int (-1)) ∧ (∀ c : Nat, ¬ c = 128 → m' c = m c) ∧ (∀ k : Nat, ¬ k = 0 → m' 128 k = m 128 k) ∧ g' = g) ∨ (¬ m 128 53 = 0 ∧ r = some (.int (m 150 3)) ∧ (∀ c : Nat, ¬ c = 128 → c < 150 ∨ 163 < c → m' c = m c) ∧ (∀ k : Nat, ¬ k = 0 → ¬ k = 54 → m' 128 k = m 128 k) ∧ (∀ c : Nat, ¬ c = 164 → g' c = g c) ∧ m' 128 54 = 0 ∧ rowOf m' g' 0 = rowOf m g 3 ∧ ∀ q : Nat, ¬ q = 0 → rowOf m' g' q = rowOf m g q)) := by
  refine CT.of (c := 11) (ini := false) (nL := 1) (rt := some .int) (tab := zt259) rfl (fun d' r h' N hd hr => ?_)
  replace hr : RR nf xs d' 11 false 1 (some .int) zt259 G r h' N (0, [(0, .ref 128)], [], m, g) := hr
  have km1 : (-1 : Int32).toInt = -1 := rfl
  have k3 : (3 : Int32).toInt = 3 := rfl
  obtain ⟨L150, h150⟩ := hG.2 150 (by decide) (by decide)
  replace hr := hr.go (s_aload_n t259_0 rfl)
  replace hr := hr.go (s_k t259_1)
  replace hr := hr.go (s_putf t259_2)
  replace hr := hr.go (s_aload_n t259_5 rfl)
  replace hr := hr.go (s_getf t259_6)
  rcases hr.zNe t259_9 with ⟨b9, hr⟩ | ⟨b9, hr⟩
  · replace hr := hr.go (s_aload_n t259_14 rfl)
    replace hr := hr.go (s_k t259_15)
    replace hr := hr.go (s_k t259_16)
    obtain ⟨_, m1, g1, ⟨rfl, c1, c2, c3, c4⟩, hr⟩ := hr.callv t259_17 rfl rfl (ct_copies (t := 0) (a := 3) hG (by omega) (by omega) (by omega))
    replace hr : RR nf xs d' 11 false 1 (some .int) zt259 G r h' N (20, [(0, .ref 128)], [], m1, g1) := hr
    skip
    replace hr := hr.go (s_aload_n t259_20 rfl)
    replace hr := hr.go (s_k t259_21)
    replace hr := hr.go (s_putf t259_22)
    replace hr := hr.go (s_aload_n t259_25 rfl)
    replace hr := hr.go (s_getr t259_26 (hG.1 37 (by decide) (by decide)))
    replace hr := hr.go (s_k t259_29)
    replace hr := hr.go (s_iaload t259_30 (h150))
    obtain ⟨rfl, hs⟩ := hr.iret t259_31
    have er : ∀ q : Nat, rowOf (xu m 128 0 0) g q = rowOf m g q := fun q => rowOf_st (fun c c0 _ => xu_row (by omega)) rfl
    refine ⟨_, _, hs, Or.inr ⟨fun z => b9 ((xu_oth (by decide)).trans z), ?_, fun c hc hc2 => ?_, fun k k1 k2 => ?_, c2, xu_same, (rowOf_st (fun c c0 _ => xu_row (by omega)) rfl).trans (c3.trans (er 3)), fun q hq => (rowOf_st (fun c c0 _ => xu_row (by omega)) rfl).trans ((c4 q hq).trans (er q))⟩⟩
    · rw [xu_row (by decide)]
      have e0 := congrArg (fun w : rRow => w.1) c3
      have e0 : m1 150 0 = xu m 128 0 0 150 3 := e0
      exact congrArg (fun z => some (Value.int z)) (e0.trans (by rw [xu_row (by decide)]))
    · rw [xu_row hc, c1 c hc2, xu_row hc]
    · rw [xu_oth (by omega), c1 128 (by decide), xu_oth (by omega)]
  · replace hr := hr.go (s_k t259_12)
    obtain ⟨rfl, hs⟩ := hr.iret t259_13
    exact ⟨_, _, hs, Or.inl ⟨(xu_oth (by decide)).symm.trans b9, rfl, fun c hc => xu_row hc, fun k hk => xu_oth (by omega), rfl⟩⟩
end
