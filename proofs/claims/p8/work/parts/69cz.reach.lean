/-! What a call can't reach it leaves as it is. A: addresses that may be reached. -/
def vA (A : Nat → Prop) (v : Value) : Prop := ∀ b : Nat, v = .ref b → A b
theorem vA_ref {A : Nat → Prop} {a : Nat} (h : vA A (.ref a)) : A a := h a rfl
theorem vA_of {A : Nat → Prop} {a : Nat} (h : A a) : vA A (.ref a) := fun _ q => by cases q; exact h
theorem vA_int {A : Nat → Prop} {x : Int32} : vA A (.int x) := fun _ q => by cases q
theorem vA_long {A : Nat → Prop} {x : Int64} : vA A (.long x) := fun _ q => by cases q
theorem vA_ra {A : Nat → Prop} {x : Nat} : vA A (.retAddr x) := fun _ q => by cases q
theorem vA_null {A : Nat → Prop} : vA A .null := fun _ q => by cases q
def sA (A : Nat → Prop) (st : List Value) : Prop := ∀ v ∈ st, vA A v
theorem sA_nil {A : Nat → Prop} : sA A [] := fun _ q => by cases q
theorem sA_hd {A : Nat → Prop} {v : Value} {st : List Value} (h : sA A (v :: st)) : vA A v := h v (List.mem_cons_self ..)
theorem sA_tl {A : Nat → Prop} {v : Value} {st : List Value} (h : sA A (v :: st)) : sA A st := fun w hw => h w (List.mem_cons_of_mem _ hw)
theorem sA_t2 {A : Nat → Prop} {v w : Value} {st : List Value} (h : sA A (v :: w :: st)) : sA A st := sA_tl (sA_tl h)
theorem sA_t3 {A : Nat → Prop} {v w x : Value} {st : List Value} (h : sA A (v :: w :: x :: st)) : sA A st := sA_tl (sA_t2 h)
theorem sA_cs {A : Nat → Prop} {v : Value} {st : List Value} (h1 : vA A v) (h : sA A st) : sA A (v :: st) := fun w hw => by
  rcases List.mem_cons.mp hw with rfl | hw
  · exact h1
  · exact h w hw
theorem sA_i {A : Nat → Prop} {x : Int32} {st : List Value} (h : sA A st) : sA A (.int x :: st) := sA_cs vA_int h
theorem sA_l {A : Nat → Prop} {x : Int64} {st : List Value} (h : sA A st) : sA A (.long x :: st) := sA_cs vA_long h
theorem sA_d2 {A : Nat → Prop} {x : Int32} {a : Nat} {st : List Value} (h : sA A (.int x :: .ref a :: st)) : sA A (.int x :: .ref a :: .int x :: .ref a :: st) := sA_i (sA_cs (sA_hd (sA_tl h)) h)
theorem sA_d1 {A : Nat → Prop} {v : Value} {st : List Value} (h : sA A (v :: st)) : sA A (v :: v :: st) := sA_cs (sA_hd h) h
theorem sA_dr {A : Nat → Prop} {n : Nat} {st : List Value} (h : sA A st) : sA A (st.drop n) := fun w hw => h w (List.mem_of_mem_drop hw)
theorem sA_tk {A : Nat → Prop} {n : Nat} {st : List Value} (h : sA A st) : sA A (st.take n).reverse := fun w hw => h w (List.mem_of_mem_take (List.mem_reverse.mp hw))
def lRc (A : Nat → Prop) (ls : zL) : Prop := ∀ q ∈ ls, vA A q.2
theorem lRc_get {A : Nat → Prop} {ls : zL} {i : Nat} {v : Value} (h : lRc A ls) (e : zget ls i = some v) : vA A v := by
  unfold zget at e
  cases hf : ls.find? (fun q => q.1 == i) with
  | none => rw [hf] at e; cases e
  | some q =>
    rw [hf] at e
    cases e
    exact h q (List.mem_of_find?_eq_some hf)
theorem lRc_s1 {A : Nat → Prop} {ls : zL} {i : Nat} {v : Value} (h : lRc A ls) (hv : vA A v) : lRc A (zset1 ls i v) := fun q hq => by
  rcases List.mem_cons.mp hq with rfl | hq
  · exact hv
  · exact h q (List.mem_filter.mp hq).1
theorem lRc_s2 {A : Nat → Prop} {ls : zL} {i : Nat} {v : Value} (h : lRc A ls) (hv : vA A v) : lRc A (zset2 ls i v) := fun q hq => by
  rcases List.mem_cons.mp hq with rfl | hq
  · exact hv
  · exact h q (List.mem_filter.mp hq).1
theorem lRc_args {A : Nat → Prop} : ∀ (as : List Value) (i : Nat), sA A as → lRc A (lv_args i as)
  | [], _, _ => fun _ q => by cases q
  | v :: as, i, h => fun q hq => by
    rcases List.mem_cons.mp hq with rfl | hq
    · exact sA_hd h
    · exact lRc_args as _ (sA_tl h) q hq
/-- heaps: what is reached holds what is reached; the rest is as in h0 -/
def hA (A : Nat → Prop) (h0 h : zH) : Prop := (∀ a k b : Nat, A a → rd h a k = some (.ref b) → A b) ∧ (∀ b : Nat, h.length ≤ b → A b) ∧ ∀ a : Nat, ¬ A a → h[a]? = h0[a]?
theorem hA_set {A : Nat → Prop} {h0 h : zH} {a : Nat} {e0 e : zE} (H : hA A h0 h) (ha : A a) (he : h[a]? = some e0) (hn : ∀ k b : Nat, rd [e] 0 k = some (.ref b) → A b) : hA A h0 (h.set a e) := by
  refine ⟨fun a' k b h1 h2 => ?_, fun b hb => H.2.1 b (by rwa [List.length_set] at hb), fun b hb => ?_⟩
  · rw [rd_set he] at h2
    split at h2
    · exact hn k b h2
    · exact H.1 a' k b h1 h2
  · rw [xget_set he, if_neg (fun q : b = a => hb (by rw [q]; exact ha))]
    exact H.2.2 b hb
theorem hA_i {A : Nat → Prop} {h0 h : zH} {a t t' : Nat} {l l' : List Int32} (H : hA A h0 h) (ha : vA A (.ref a)) (he : h[a]? = some (t, .inl l)) : hA A h0 (h.set a (t', .inl l')) := hA_set H (vA_ref ha) he (fun k b q => by
  have q : l'[k]?.map Value.int = some (.ref b) := q
  cases hq : l'[k]? <;> (rw [hq] at q; cases q))
theorem hA_l {A : Nat → Prop} {h0 h : zH} {a t t' : Nat} {l l' : List Int64} (H : hA A h0 h) (ha : vA A (.ref a)) (he : h[a]? = some (t, .inr (.inl l))) : hA A h0 (h.set a (t', .inr (.inl l'))) := hA_set H (vA_ref ha) he (fun k b q => by
  have q : l'[k]?.map Value.long = some (.ref b) := q
  cases hq : l'[k]? <;> (rw [hq] at q; cases q))
theorem hA_r {A : Nat → Prop} {h0 h : zH} {a t t' i x : Nat} {l : List (Option Nat)} (H : hA A h0 h) (ha : vA A (.ref a)) (hx : vA A (.ref x)) (he : h[a]? = some (t, .inr (.inr (.inl l)))) : hA A h0 (h.set a (t', .inr (.inr (.inl (l.set i (some x)))))) := hA_set H (vA_ref ha) he (fun k b q => by
  have q : (l.set i (some x))[k]?.map zrv = some (.ref b) := q
  have o : ∀ {w : Option Nat}, w = some b → l[k]? = some w → A b := fun hw hl => H.1 a k b (vA_ref ha) (by unfold rd; rw [he]; show l[k]?.map zrv = _; rw [hl, hw]; rfl)
  by_cases hk : i = k
  · subst hk
    rcases Nat.lt_or_ge i l.length with g | g
    · rw [List.getElem?_set_self g] at q
      cases q
      exact vA_ref hx
    · rw [List.getElem?_eq_none (by rw [List.length_set]; exact g)] at q
      cases q
  · rw [List.getElem?_set_ne hk] at q
    cases hq : l[k]? with
    | none => rw [hq] at q; cases q
    | some w =>
      rw [hq] at q
      cases w with
      | none => cases q
      | some w => cases q; exact o rfl hq)
theorem hA_o {A : Nat → Prop} {h0 h : zH} {a t t' i : Nat} {l : List Value} {v : Value} (H : hA A h0 h) (ha : vA A (.ref a)) (hx : vA A v) (he : h[a]? = some (t, .inr (.inr (.inr l)))) : hA A h0 (h.set a (t', .inr (.inr (.inr (l.set i v))))) := hA_set H (vA_ref ha) he (fun k b q => by
  have q : (l.set i v)[k]? = some (.ref b) := q
  by_cases hk : i = k
  · subst hk
    rcases Nat.lt_or_ge i l.length with g | g
    · rw [List.getElem?_set_self g] at q
      cases q
      exact vA_ref hx
    · rw [List.getElem?_eq_none (by rw [List.length_set]; exact g)] at q
      cases q
  · rw [List.getElem?_set_ne hk] at q
    exact H.1 a k b (vA_ref ha) (by unfold rd; rw [he]; exact q))
theorem hA_push {A : Nat → Prop} {h0 h : zH} {e : zE} (H : hA A h0 h) (hn : ∀ k b : Nat, ¬ rd [e] 0 k = some (.ref b)) : hA A h0 (h ++ [e]) := by
  refine ⟨fun a k b h1 h2 => ?_, fun b hb => H.2.1 b (by rw [List.length_append] at hb; omega), fun b hb => ?_⟩
  · rcases Nat.lt_or_ge a h.length with q | q
    · refine H.1 a k b h1 ?_
      unfold rd at h2 ⊢
      rwa [List.getElem?_append_left q] at h2
    · exfalso
      unfold rd at h2
      rw [List.getElem?_append_right q] at h2
      by_cases e1 : a - h.length = 0
      · rw [e1] at h2
        exact hn k b h2
      · rw [List.getElem?_eq_none (by simp; omega)] at h2
        cases h2
  · rcases Nat.lt_or_ge b h.length with q | q
    · rw [List.getElem?_append_left q]; exact H.2.2 b hb
    · exact absurd (H.2.1 b q) hb
theorem hA_pi {A : Nat → Prop} {h0 h : zH} {u : Nat} {l : List Int32} (H : hA A h0 h) : hA A h0 (h ++ [(u, .inl l)]) := hA_push H (fun k b q => by
  have q : l[k]?.map Value.int = some (.ref b) := q
  cases hq : l[k]? <;> (rw [hq] at q; cases q))
theorem hA_pl {A : Nat → Prop} {h0 h : zH} {u : Nat} {l : List Int64} (H : hA A h0 h) : hA A h0 (h ++ [(u, .inr (.inl l))]) := hA_push H (fun k b q => by
  have q : l[k]?.map Value.long = some (.ref b) := q
  cases hq : l[k]? <;> (rw [hq] at q; cases q))
theorem hA_pr {A : Nat → Prop} {h0 h : zH} {u n : Nat} (H : hA A h0 h) : hA A h0 (h ++ [(u, .inr (.inr (.inl (List.replicate n none))))]) := hA_push H (fun k b q => by
  have q : (List.replicate n (none : Option Nat))[k]?.map zrv = some (.ref b) := q
  rcases Nat.lt_or_ge k n with g | g
  · rw [List.getElem?_replicate_of_lt g] at q; cases q
  · rw [List.getElem?_eq_none (by simp; omega)] at q; cases q)
def noref (v : Value) : Bool := match v with
  | .ref _ => false
  | _ => true
theorem noref_ok {v : Value} {A : Nat → Prop} (h : noref v = true) : vA A v := fun b q => by subst q; cases h
theorem znew_nr : (List.range 20).all (fun c => (List.range 1200).all (fun j => match znewT c j with
  | none => true
  | some q => q.2.all noref)) = true := by decide +kernel
theorem znew_nref {c j ci : Nat} {fs : List Value} (h : znewT c j = some (ci, fs)) : fs.all noref = true := by
  have hc : c < 20 := by
    rcases Nat.lt_or_ge c 20 with q | q
    · exact q
    · unfold znewT at h
      rw [show Nat.ble 20 c = true from Nat.ble_eq_true_of_le q] at h
      cases h
  have hj : j < 1200 := by
    rcases Nat.lt_or_ge j 1200 with q | q
    · exact q
    · unfold znewT at h
      rw [show Nat.ble 1200 j = true from Nat.ble_eq_true_of_le q] at h
      cases hb : Nat.ble 20 c <;> (rw [hb] at h; cases h)
  have h1 := List.all_eq_true.mp (List.all_eq_true.mp znew_nr c (List.mem_range.mpr hc)) j (List.mem_range.mpr hj)
  rw [h] at h1
  exact h1
theorem hA_po {A : Nat → Prop} {h0 h : zH} {c j u : Nat} {fs : List Value} (H : hA A h0 h) (hn : znewT c j = some (u, fs)) : hA A h0 (h ++ [(u, .inr (.inr (.inr fs)))]) := hA_push H (fun k b q => by
  have q : fs[k]? = some (.ref b) := q
  have := List.all_eq_true.mp (znew_nref hn) _ (List.mem_of_getElem? q)
  cases this)
theorem hA_gf {A : Nat → Prop} {h0 h : zH} {a t k : Nat} {l : List Value} {v : Value} (H : hA A h0 h) (ha : vA A (.ref a)) (he : h[a]? = some (t, .inr (.inr (.inr l)))) (hv : l[k]? = some v) : vA A v := fun b q => H.1 a k b (vA_ref ha) (by unfold rd; rw [he]; show l[k]? = _; rw [hv, q])
theorem hA_ga {A : Nat → Prop} {h0 h : zH} {a t : Nat} {i : Int32} {l : List (Option Nat)} (H : hA A h0 h) (ha : vA A (.ref a)) (he : h[a]? = some (t, .inr (.inr (.inl l)))) : vA A (zrv (l.getD i.toNatClampNeg none)) := fun b q => by
  rw [List.getD_eq_getElem?_getD] at q
  cases hl : l[i.toNatClampNeg]? with
  | none => rw [hl] at q; cases q
  | some w =>
    rw [hl] at q
    exact H.1 a i.toNatClampNeg b (vA_ref ha) (by unfold rd; rw [he]; show l[i.toNatClampNeg]?.map zrv = _; rw [hl]; exact congrArg some q)
theorem zxg_nr {c j e : Nat} {v : Value} {A : Nat → Prop} (h : zxgT c j e = some v) : vA A v := by
  unfold zxgT at h
  simp only [cond_eq_ite] at h
  repeat' (first | (cases h; exact vA_ra) | (cases h; exact vA_int) | split at h | cases h)
theorem zsta_nr {nf : Bool} {c j : Nat} {v : Value} {A : Nat → Prop} (h : zstaT nf c j = some v) : vA A v := by
  unfold zstaT at h
  simp only [cond_eq_ite] at h
  repeat' (first | (cases h; exact vA_ra) | (cases h; exact vA_int) | (cases h; exact vA_null) | (cases h; split <;> first | exact vA_null | exact vA_ra) | split at h | cases h)
theorem zjump_A {A : Nat → Prop} {pc : Nat} {off : Int} {ls : zL} {st : List Value} {h : zH} {pc' : Nat} {ls' : zL} {st' : List Value} {h' : zH} (e : zjump pc off ls st h = some (pc', ls', st', h')) (hs : sA A st) (hl : lRc A ls) : sA A st' ∧ lRc A ls' := by
  obtain ⟨-, e1, e2, -⟩ := zjump_of e
  rw [e1, e2]
  exact ⟨hs, hl⟩
theorem zbr_A {A : Nat → Prop} {b : Bool} {pc : Nat} {off : Int} {ls : zL} {st : List Value} {h : zH} {pc' : Nat} {ls' : zL} {st' : List Value} {h' : zH} (e : zbr b pc off ls st h = some (pc', ls', st', h')) (hs : sA A st) (hl : lRc A ls) : sA A st' ∧ lRc A ls' := by
  obtain ⟨_, -, e1, e2, -, -⟩ := zbr_of e
  rw [e1, e2]
  exact ⟨hs, hl⟩
set_option maxHeartbeats 8000000 in
theorem zstI_A {A : Nat → Prop} {X : zX} {i : Instr} {pc : Nat} {ls : zL} {st : List Value} {h : zH} {pc' : Nat} {ls' : zL} {st' : List Value} {h' : zH} (hs : zstI X i pc ls st h = some (pc', ls', st', h')) (h1 : sA A st) (h2 : lRc A ls) : sA A st' ∧ lRc A ls' := by
  unfold zstI at hs
  split at hs
  all_goals (try (exact zjump_A hs h1 h2))
  all_goals (try (split at hs))
  all_goals (try (split at hs))
  all_goals (try (exact zjump_A hs (sA_tl h1) h2))
  all_goals (try (split at hs))
  all_goals (try (exact zjump_A hs (sA_tl h1) h2))
  all_goals (try (exact zbr_A hs (sA_tl h1) h2))
  all_goals (try (exact zbr_A hs (sA_t2 h1) h2))
  all_goals first
    | (cases hs; exact ⟨sA_i (sA_t2 h1), h2⟩)
    | (cases hs; exact ⟨sA_i (sA_tl h1), h2⟩)
    | (cases hs; exact ⟨sA_l (sA_t2 h1), h2⟩)
    | (cases hs; exact ⟨sA_l (sA_tl h1), h2⟩)
    | (cases hs; exact ⟨sA_d1 h1, h2⟩)
    | (cases hs; exact ⟨sA_d2 h1, h2⟩)
    | (cases hs; exact ⟨sA_tl h1, h2⟩)
    | cases hs
set_option maxHeartbeats 8000000 in
theorem zstL_A {A : Nat → Prop} {nL : Nat} {i : Instr} {pc : Nat} {ls : zL} {st : List Value} {h : zH} {pc' : Nat} {ls' : zL} {st' : List Value} {h' : zH} (hs : zstL nL i pc ls st h = some (pc', ls', st', h')) (h1 : sA A st) (h2 : lRc A ls) : sA A st' ∧ lRc A ls' := by
  unfold zstL at hs
  split at hs
  all_goals (try (split at hs))
  all_goals (try (split at hs))
  all_goals first
    | (cases hs; exact ⟨sA_i h1, h2⟩)
    | (cases hs; exact ⟨sA_l h1, h2⟩)
    | (cases hs; exact ⟨sA_cs (lRc_get h2 (by assumption)) h1, h2⟩)
    | (cases hs; exact ⟨sA_tl h1, lRc_s1 h2 (sA_hd h1)⟩)
    | (cases hs; exact ⟨sA_tl h1, lRc_s2 h2 (sA_hd h1)⟩)
    | (cases hs; exact ⟨h1, lRc_s1 h2 vA_int⟩)
    | cases hs
set_option maxHeartbeats 16000000 in
theorem zstH_A {A : Nat → Prop} {nf : Bool} {xs : List Int32} {ini : Bool} {c : Nat} {i : Instr} {pc : Nat} {ls : zL} {st : List Value} {h0 h : zH} {pc' : Nat} {ls' : zL} {st' : List Value} {h' : zH} (hs : zstH (zXt nf xs) ini c i pc ls st h = some (pc', ls', st', h')) (h1 : sA A st) (h2 : lRc A ls) (H : hA A h0 h) : sA A st' ∧ lRc A ls' ∧ hA A h0 h' := by
  have hN : A h.length := H.2.1 _ (Nat.le_refl _)
  unfold zstH at hs
  split at hs
  all_goals (try (split at hs))
  all_goals (try (split at hs))
  all_goals (try (split at hs))
  all_goals (try (split at hs))
  all_goals first
    | (cases hs; exact ⟨sA_i (sA_t2 h1), h2, H⟩)
    | (cases hs; exact ⟨sA_i (sA_tl h1), h2, H⟩)
    | (cases hs; exact ⟨sA_l (sA_t2 h1), h2, H⟩)
    | (cases hs; exact ⟨sA_i h1, h2, H⟩)
    | (cases hs; exact ⟨sA_l h1, h2, H⟩)
    | (cases hs; exact ⟨sA_cs vA_ra h1, h2, H⟩)
    | (cases hs; exact ⟨sA_cs (hA_gf H (sA_hd h1) (by assumption) (by assumption)) (sA_tl h1), h2, H⟩)
    | (cases hs; exact ⟨sA_cs (zxg_nr (by assumption)) (sA_tl h1), h2, H⟩)
    | (cases hs; exact ⟨sA_cs (zsta_nr (by assumption)) h1, h2, H⟩)
    | (cases hs; exact ⟨sA_cs (hA_ga H (sA_hd (sA_tl h1)) (by assumption)) (sA_t2 h1), h2, H⟩)
    | (cases hs; exact ⟨sA_t2 h1, h2, hA_o H (sA_hd (sA_tl h1)) (sA_hd h1) (by assumption)⟩)
    | (cases hs; exact ⟨sA_t3 h1, h2, hA_i H (sA_hd (sA_t2 h1)) (by assumption)⟩)
    | (cases hs; exact ⟨sA_t3 h1, h2, hA_l H (sA_hd (sA_t2 h1)) (by assumption)⟩)
    | (cases hs; exact ⟨sA_t3 h1, h2, hA_r H (sA_hd (sA_t2 h1)) (sA_hd h1) (by assumption)⟩)
    | (cases hs; exact ⟨sA_cs (vA_of hN) h1, h2, hA_po H (by assumption)⟩)
    | (cases hs; exact ⟨sA_cs (vA_of hN) (sA_tl h1), h2, hA_pi H⟩)
    | (cases hs; exact ⟨sA_cs (vA_of hN) (sA_tl h1), h2, hA_pl H⟩)
    | (cases hs; exact ⟨sA_cs (vA_of hN) (sA_tl h1), h2, hA_pr H⟩)
    | cases hs
theorem zstep_A {A : Nat → Prop} {nf : Bool} {xs : List Int32} {nL : Nat} {ini : Bool} {c : Nat} {i : Instr} {pc : Nat} {ls : zL} {st : List Value} {h0 h : zH} {pc' : Nat} {ls' : zL} {st' : List Value} {h' : zH} (hs : zstep (zXt nf xs) nL ini c i pc ls st h = some (pc', ls', st', h')) (h1 : sA A st) (h2 : lRc A ls) (H : hA A h0 h) : sA A st' ∧ lRc A ls' ∧ hA A h0 h' := by
  unfold zstep at hs
  split at hs
  · next q =>
    cases hs
    rw [zstI_h q]
    exact ⟨(zstI_A q h1 h2).1, (zstI_A q h1 h2).2, H⟩
  · split at hs
    · next q =>
      cases hs
      rw [zstL_h q]
      exact ⟨(zstL_A q h1 h2).1, (zstL_A q h1 h2).2, H⟩
    · exact zstH_A hs h1 h2 H
theorem zret_A {A : Nat → Prop} {rt : Option FieldType} {i : Instr} {st : List Value} {r : Option Value} (hs : zret rt i st = some r) (h1 : sA A st) : sA A r.toList := by
  unfold zret at hs
  split at hs
  all_goals (try (split at hs))
  all_goals (try (split at hs))
  all_goals first
    | (cases hs; exact h1)
    | (cases hs; exact sA_nil)
    | cases hs
theorem zobj_A {A : Nat → Prop} {I : zI} {c : Nat} {i : Instr} {st rest : List Value} (hs : zobjI I c i st = some rest) (h1 : sA A st) : sA A rest := by
  unfold zobjI at hs
  split at hs
  all_goals (try (split at hs))
  all_goals (try (split at hs))
  all_goals first
    | (cases hs; exact sA_tl h1)
    | (cases hs; exact sA_i (sA_t2 h1))
    | (cases hs; exact sA_i (sA_tl h1))
    | (cases hs; exact sA_l (sA_t2 h1))
    | (cases hs; exact sA_l (sA_tl h1))
    | cases hs
theorem zcall_A {A : Nat → Prop} {X : zX} {I : zI} {mcl : Nat → Nat} {c mi : Nat} {i : Instr} {st as rest : List Value} {h : zH} (hs : zcall X I mcl c i st h = some (mi, as, rest)) (h1 : sA A st) : sA A as ∧ sA A rest := by
  unfold zcall at hs
  have k : ∀ {n : Nat} {v : Value} {r : List Value}, st.drop n = v :: r → vA A v ∧ sA A r := fun {n v r} e => by
    have := sA_dr (n := n) h1
    rw [e] at this
    exact ⟨sA_hd this, sA_tl this⟩
  split at hs
  all_goals (try (split at hs))
  all_goals (try (split at hs))
  all_goals (try (split at hs))
  all_goals (try (split at hs))
  all_goals first
    | (cases hs; exact ⟨sA_tk h1, sA_dr h1⟩)
    | (cases hs; exact ⟨sA_cs (k (by assumption)).1 (sA_tk h1), (k (by assumption)).2⟩)
    | cases hs
theorem sA_app {A : Nat → Prop} {s t : List Value} (h1 : sA A s) (h2 : sA A t) : sA A (s ++ t) := fun v hv => by
  rcases List.mem_append.mp hv with q | q
  · exact h1 v q
  · exact h2 v q
theorem zRun_rc {A : Nat → Prop} {nf : Bool} {xs : List Int32} {I : zI} {mcl : Nat → Nat} {C : zC} {c : Nat} {ini : Bool} {nL : Nat} {rt : Option FieldType} {tab : Nat → Option (Instr × Nat)} {h0 : zH} (hC : ∀ mi as h r h', C mi as h r h' → sA A as → hA A h0 h → sA A r.toList ∧ hA A h0 h') : ∀ (n pc : Nat) (ls : zL) (st : List Value) (h : zH) (r : Option Value) (h' : zH), zRun (zXt nf xs) I mcl C c ini nL rt tab n pc ls st h r h' → sA A st → lRc A ls → hA A h0 h → sA A r.toList ∧ hA A h0 h' := by
  intro n
  induction n with
  | zero => intro pc ls st h r h' q; exact q.elim
  | succ n ih =>
    intro pc ls st h r h' q h1 h2 H
    obtain ⟨i, len, -, q⟩ := q
    rcases q with ⟨q, rfl⟩ | ⟨pc1, ls1, st1, hh, q1, q2⟩ | ⟨rest, q1, q2⟩ | ⟨mi, as, rest, r1, hh, q0, q1, q2⟩
    · exact ⟨zret_A q h1, H⟩
    · obtain ⟨a1, a2, a3⟩ := zstep_A q1 h1 h2 H
      exact ih _ _ _ _ _ _ q2 a1 a2 a3
    · exact ih _ _ _ _ _ _ q2 (zobj_A q1 h1) h2 H
    · obtain ⟨a1, a2⟩ := zcall_A q0 h1
      obtain ⟨a3, a4⟩ := hC _ _ _ _ _ q1 a1 H
      exact ih _ _ _ _ _ _ q2 (sA_app a3 a2) h2 a4
theorem zEv_rc {A : Nat → Prop} {nf : Bool} {xs : List Int32} {I : zI} {mcl : Nat → Nat} {mt : zM} {h0 : zH} : ∀ (d mi : Nat) (as : List Value) (h : zH) (r : Option Value) (h' : zH), zEv (zXt nf xs) I mcl mt d mi as h r h' → sA A as → hA A h0 h → sA A r.toList ∧ hA A h0 h' := by
  intro d
  induction d with
  | zero => intro mi as h r h' q; exact q.elim
  | succ d ih =>
    intro mi as h r h' q h1 H
    obtain ⟨c, ini, nL, rt, tab, n, -, -, q⟩ := q
    exact zRun_rc ih _ _ _ _ _ _ _ q sA_nil (lRc_args _ _ h1) H
/-- what a call leaves: all cells from which it is kept away -/
theorem zEv_reach {A : Nat → Prop} {nf : Bool} {xs : List Int32} {I : zI} {mcl : Nat → Nat} {mt : zM} {d mi : Nat} {as : List Value} {h : zH} {r : Option Value} {h' : zH} (q : zEv (zXt nf xs) I mcl mt d mi as h r h') (h1 : sA A as) (hc : ∀ a k b : Nat, A a → rd h a k = some (.ref b) → A b) (hN : ∀ b : Nat, h.length ≤ b → A b) : ∀ a : Nat, ¬ A a → h'[a]? = h[a]? := (zEv_rc d mi as h r h' q h1 ⟨hc, hN, fun _ _ => rfl⟩).2.2.2
