/-! Joined: 86m.init1, 86n.zgog, 86p.kt. -/
section
theorem yin1_t : yin1 true = true := by decide +kernel
end
section
/-! How much a way of our machine makes. -/
theorem zGo_g {X : zX} (hX : ∀ (c j ci : Nat) (fs : List Value), znew X c j = some (ci, fs) → fs.length ≤ 1000000) {I : zI} {mcl : Nat → Nat} {mt : zM} {d c : Nat} {ini : Bool} {nL : Nat} {tab : Nat → Option (Instr × Nat)} : ∀ (n : Nat) (a b : zSt), zGo X I mcl (zEv X I mcl mt d) c ini nL tab n a b → zGr a.2.2.2 b.2.2.2 := by
  intro n
  induction n with
  | zero => intro a b q; cases q; exact zGr.rf
  | succ n ih =>
    intro a b q
    obtain ⟨i, len, -, q⟩ := q
    rcases q with ⟨s1, q1, q2⟩ | ⟨rest, -, q2⟩ | ⟨mi, as, rest, r1, h1, -, q1, q2⟩
    · exact (zstep_g hX q1).trans (ih _ _ q2)
    · exact ih (a.1 + 3, a.2.1, rest, a.2.2.2) b q2
    · exact (zEv_g hX _ _ _ _ _ _ q1).trans (ih _ _ q2)
end
section
/-! Fields hold what their types say, behind every call. -/
def ty5 (t : FieldType) : Bool := match t with
  | .int => true
  | .boolean => true
  | .long => true
  | .object _ => true
  | .array _ => true
  | _ => false
theorem ztyL5 : ztyL.all (fun l => l.all ty5) = true := by decide +kernel
theorem ztyT5 (ci k : Nat) : ty5 (ztyT ci k) = true := by
  unfold ztyT
  rw [List.getD_eq_getElem?_getD, List.getD_eq_getElem?_getD]
  cases h1 : ztyL[ci]? with
  | none => rfl
  | some l =>
    have h2 := List.all_eq_true.mp ztyL5 l (List.mem_of_getElem? h1)
    show ty5 (l[k]?.getD .int) = true
    cases h3 : l[k]? with
    | none => rfl
    | some t => exact List.all_eq_true.mp h2 t (List.mem_of_getElem? h3)
theorem fit_kind {t : FieldType} {v : Value} (h5 : ty5 t = true) (h : fits t (zdry v) = true) : xvk v = xty t := by
  cases t <;> first | cases h5 | skip
  all_goals (cases v <;> first | rfl | cases h)
theorem KT_obj {nf : Bool} {xs : List Int32} {ini : Bool} {c a ci k : Nat} {h : zH} {fs : List Value} {v : Value} (hK : KT h) (h0 : h[a]? = some (ci, .inr (.inr (.inr fs)))) (hp : zputs (zXt nf xs) ini c ci k v = true) : KT (h.set a (ci, .inr (.inr (.inr (fs.set k v))))) := by
  intro b t gs j w hb hw
  rw [xget_set h0] at hb
  split at hb
  · cases hb
    by_cases e : k = j
    · subst e
      rcases Nat.lt_or_ge k fs.length with hk | hk
      · rw [List.getElem?_set_self hk] at hw
        cases hw
        unfold zputs at hp
        rw [Bool.and_eq_true] at hp
        exact fit_kind (ztyT5 ci k) hp.2
      · rw [List.getElem?_eq_none (by rw [List.length_set]; exact hk)] at hw
        cases hw
    · rw [List.getElem?_set_ne e] at hw
      exact hK _ _ _ _ _ h0 hw
  · exact hK _ _ _ _ _ hb hw
theorem KT_arr {a : Nat} {h : zH} {e0 e : zE} (hK : KT h) (h0 : h[a]? = some e0) (he : ∀ (t : Nat) (fs : List Value), ¬ e = (t, .inr (.inr (.inr fs)))) : KT (h.set a e) := by
  intro b t gs j w hb hw
  rw [xget_set h0] at hb
  split at hb
  · exact absurd (Option.some.inj hb) (he _ _)
  · exact hK _ _ _ _ _ hb hw
theorem KT_push {h : zH} {e : zE} (hK : KT h) (he : ∀ (t : Nat) (fs : List Value) (k : Nat) (v : Value), e = (t, .inr (.inr (.inr fs))) → fs[k]? = some v → xvk v = xty (ztyT t k)) : KT (h ++ [e]) := by
  intro b t gs j w hb hw
  rcases Nat.lt_or_ge b h.length with q | q
  · rw [List.getElem?_append_left q] at hb
    exact hK _ _ _ _ _ hb hw
  · rw [List.getElem?_append_right q] at hb
    by_cases e1 : b - h.length = 0
    · rw [e1] at hb
      exact he _ _ _ _ (Option.some.inj hb) hw
    · rw [List.getElem?_eq_none (by simp; omega)] at hb
      cases hb
theorem KT_ai {a u : Nat} {l : List Int32} {h : zH} {e0 : zE} (hK : KT h) (h0 : h[a]? = some e0) : KT (h.set a (u, .inl l)) := KT_arr hK h0 (fun _ _ q => by cases q)
theorem KT_al {a u : Nat} {l : List Int64} {h : zH} {e0 : zE} (hK : KT h) (h0 : h[a]? = some e0) : KT (h.set a (u, .inr (.inl l))) := KT_arr hK h0 (fun _ _ q => by cases q)
theorem KT_ar {a u : Nat} {l : List (Option Nat)} {h : zH} {e0 : zE} (hK : KT h) (h0 : h[a]? = some e0) : KT (h.set a (u, .inr (.inr (.inl l)))) := KT_arr hK h0 (fun _ _ q => by cases q)
theorem KT_pi {u : Nat} {l : List Int32} {h : zH} (hK : KT h) : KT (h ++ [(u, .inl l)]) := KT_push hK (fun _ _ _ _ q _ => by cases q)
theorem KT_pl {u : Nat} {l : List Int64} {h : zH} (hK : KT h) : KT (h ++ [(u, .inr (.inl l))]) := KT_push hK (fun _ _ _ _ q _ => by cases q)
theorem KT_pr {u : Nat} {l : List (Option Nat)} {h : zH} (hK : KT h) : KT (h ++ [(u, .inr (.inr (.inl l)))]) := KT_push hK (fun _ _ _ _ q _ => by cases q)
def kconf (ci : Nat) (fs : List Value) : Bool := (List.range fs.length).all (fun k => Nat.beq (xvk (fs.getD k .null)) (xty (ztyT ci k)))
theorem kconf_ok {ci k : Nat} {fs : List Value} {v : Value} (h : kconf ci fs = true) (hv : fs[k]? = some v) : xvk v = xty (ztyT ci k) := by
  have hk := (List.getElem?_eq_some_iff.mp hv).1
  have h1 := Nat.eq_of_beq_eq_true (List.all_eq_true.mp h k (List.mem_range.mpr hk))
  rw [List.getD_eq_getElem?_getD, hv] at h1
  exact h1
theorem znew_chk : (List.range 20).all (fun c => (List.range 1200).all (fun j => match znewT c j with
  | none => true
  | some q => kconf q.1 q.2)) = true := by decide +kernel
theorem znew_ok {c j ci : Nat} {fs : List Value} (h : znewT c j = some (ci, fs)) : kconf ci fs = true := by
  have hc : c < 20 := by
    rcases Nat.lt_or_ge c 20 with q | q
    · exact q
    · unfold znewT at h
      rw [show Nat.ble 20 c = true from Nat.ble_eq_true_of_le q] at h
      cases h
  have hj : j < 1200 := by
    rcases Nat.lt_or_ge j 1200 with q | q
    · exact q
    · unfold znewT at h
      rw [show Nat.ble 1200 j = true from Nat.ble_eq_true_of_le q] at h
      cases hb : Nat.ble 20 c <;> (rw [hb] at h; cases h)
  have h1 := List.all_eq_true.mp (List.all_eq_true.mp znew_chk c (List.mem_range.mpr hc)) j (List.mem_range.mpr hj)
  rw [h] at h1
  exact h1
theorem KT_po {c j u : Nat} {fs : List Value} {h : zH} (hK : KT h) (hn : znewT c j = some (u, fs)) : KT (h ++ [(u, .inr (.inr (.inr fs)))]) := KT_push hK (fun _ _ _ _ q hv => by cases q; exact kconf_ok (znew_ok hn) hv)
theorem KT_ob {nf : Bool} {xs : List Int32} {ini : Bool} {c a ci ci' k : Nat} {h : zH} {fs : List Value} {v : Value} (hK : KT h) (h0 : h[a]? = some (ci', .inr (.inr (.inr fs)))) (hp : ci' = ci ∧ k < fs.length ∧ zputs (zXt nf xs) ini c ci k v = true) : KT (h.set a (ci, .inr (.inr (.inr (fs.set k v))))) := by
  obtain ⟨rfl, -, q⟩ := hp
  exact KT_obj hK h0 q
set_option maxHeartbeats 8000000 in
theorem zstH_KT {nf : Bool} {xs : List Int32} {ini : Bool} {c : Nat} {i : Instr} {pc : Nat} {ls : zL} {st : List Value} {h : zH} {pc' : Nat} {ls' : zL} {st' : List Value} {h' : zH} (hK : KT h) (hs : zstH (zXt nf xs) ini c i pc ls st h = some (pc', ls', st', h')) : KT h' := by
  unfold zstH at hs
  split at hs
  all_goals (try (split at hs))
  all_goals (try (split at hs))
  all_goals (try (split at hs))
  all_goals (try (split at hs))
  all_goals first
    | (cases hs; exact hK)
    | (cases hs; exact KT_ai hK (by assumption))
    | (cases hs; exact KT_al hK (by assumption))
    | (cases hs; exact KT_ar hK (by assumption))
    | (cases hs; exact KT_pi hK)
    | (cases hs; exact KT_pl hK)
    | (cases hs; exact KT_pr hK)
    | (cases hs; exact KT_po hK (by assumption))
    | (cases hs; exact KT_ob hK (by assumption) (by assumption))
    | cases hs
theorem zstep_KT {nf : Bool} {xs : List Int32} {nL : Nat} {ini : Bool} {c : Nat} {i : Instr} {pc : Nat} {ls : zL} {st : List Value} {h : zH} {pc' : Nat} {ls' : zL} {st' : List Value} {h' : zH} (hK : KT h) (hs : zstep (zXt nf xs) nL ini c i pc ls st h = some (pc', ls', st', h')) : KT h' := by
  unfold zstep at hs
  split at hs
  · next q =>
    cases hs
    rw [zstI_h q]
    exact hK
  · split at hs
    · next q =>
      cases hs
      rw [zstL_h q]
      exact hK
    · exact zstH_KT hK hs
theorem zRun_KT {nf : Bool} {xs : List Int32} {I : zI} {mcl : Nat → Nat} {C : zC} {c : Nat} {ini : Bool} {nL : Nat} {rt : Option FieldType} {tab : Nat → Option (Instr × Nat)} (hC : ∀ mi as h r h', C mi as h r h' → KT h → KT h') : ∀ (n pc : Nat) (ls : zL) (st : List Value) (h : zH) (r : Option Value) (h' : zH), zRun (zXt nf xs) I mcl C c ini nL rt tab n pc ls st h r h' → KT h → KT h' := by
  intro n
  induction n with
  | zero => intro pc ls st h r h' q; exact q.elim
  | succ n ih =>
    intro pc ls st h r h' q hK
    obtain ⟨i, len, -, q⟩ := q
    rcases q with ⟨-, rfl⟩ | ⟨pc1, ls1, st1, h1, q1, q2⟩ | ⟨rest, -, q2⟩ | ⟨mi, as, rest, r1, h1, -, q1, q2⟩
    · exact hK
    · exact ih _ _ _ _ _ _ q2 (zstep_KT hK q1)
    · exact ih _ _ _ _ _ _ q2 hK
    · exact ih _ _ _ _ _ _ q2 (hC _ _ _ _ _ q1 hK)
theorem zEv_KT {nf : Bool} {xs : List Int32} {I : zI} {mcl : Nat → Nat} {mt : zM} : ∀ (d mi : Nat) (as : List Value) (h : zH) (r : Option Value) (h' : zH), zEv (zXt nf xs) I mcl mt d mi as h r h' → KT h → KT h' := by
  intro d
  induction d with
  | zero => intro mi as h r h' q; exact q.elim
  | succ d ih =>
    intro mi as h r h' q
    obtain ⟨c, ini, nL, rt, tab, n, -, -, q⟩ := q
    exact zRun_KT ih _ _ _ _ _ _ _ q
theorem HS_of {h : zH} (hK : KT h) : HS h (gi h) (gl h) (gr h, gs h) := ⟨hK, rfl, rfl, rfl, rfl⟩
theorem KT_junk {h : zH} (k : Nat) (hK : KT h) : KT (h ++ List.replicate k zjunk) := by
  intro b t gs j w hb hw
  rcases Nat.lt_or_ge b h.length with q | q
  · rw [List.getElem?_append_left q] at hb
    exact hK _ _ _ _ _ hb hw
  · rw [List.getElem?_append_right q] at hb
    rcases Nat.lt_or_ge (b - h.length) k with q2 | q2
    · rw [List.getElem?_replicate_of_lt q2] at hb
      cases hb
      cases hw
    · rw [List.getElem?_eq_none (by simp; omega)] at hb
      cases hb
end
