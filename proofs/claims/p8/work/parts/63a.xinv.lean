/-! PARTIAL RUNS: what a run of a method tells, step by step; heaps are seen as rows of ints, of longs, of references, and shapes. Names begin with x. -/
abbrev xM : Type := Nat → Nat → Int32
abbrev xL : Type := Nat → Nat → Int64
abbrev xG : Type := (Nat → Nat → Option Nat) × (Nat → Nat × Nat × Nat)
abbrev xS : Type := Nat × zL × List Value × xM × xL
def xi (v : Option Value) : Int32 := match v with
  | some (.int x) => x
  | _ => 0
def xl (v : Option Value) : Int64 := match v with
  | some (.long x) => x
  | _ => 0
def xr (v : Option Value) : Option Nat := match v with
  | some (.ref x) => some x
  | _ => none
def xsh (e : Option zE) : Nat × Nat × Nat := match e with
  | some (t, .inr (.inr (.inr fs))) => (t, 0, fs.length)
  | some (t, .inl l) => (t, 1, l.length)
  | some (t, .inr (.inl l)) => (t, 2, l.length)
  | some (t, .inr (.inr (.inl l))) => (t, 3, l.length)
  | none => (0, 9, 0)
def gi (h : zH) : xM := fun a k => xi (rd h a k)
def gl (h : zH) : xL := fun a k => xl (rd h a k)
def gr (h : zH) : Nat → Nat → Option Nat := fun a k => xr (rd h a k)
def gs (h : zH) : Nat → Nat × Nat × Nat := fun a => xsh h[a]?
def xty (t : FieldType) : Nat := match t with
  | .int => 1
  | .boolean => 1
  | .long => 2
  | .object _ => 3
  | .array _ => 3
  | _ => 0
def xvk (v : Value) : Nat := match v with
  | .int _ => 1
  | .long _ => 2
  | .ref _ => 3
  | .null => 3
  | .retAddr _ => 3
  | _ => 4
/-- fields hold what their types say -/
def KT (h : zH) : Prop := ∀ (a t : Nat) (fs : List Value) (k : Nat) (v : Value), h[a]? = some (t, .inr (.inr (.inr fs))) → fs[k]? = some v → xvk v = xty (ztyT t k)
def HS (h : zH) (m : xM) (g : xL) (G : xG) : Prop := KT h ∧ gi h = m ∧ gl h = g ∧ gr h = G.1 ∧ gs h = G.2
def xu {α : Type} (m : Nat → Nat → α) (a k : Nat) (x : α) : Nat → Nat → α := fun b j => if b = a ∧ j = k then x else m b j
theorem xvk1 {v : Value} (h : xvk v = 1) : ∃ x : Int32, v = .int x := by
  cases v <;> first | exact ⟨_, rfl⟩ | (exact absurd h (by simp [xvk]))
theorem xvk2 {v : Value} (h : xvk v = 2) : ∃ x : Int64, v = .long x := by
  cases v <;> first | exact ⟨_, rfl⟩ | (exact absurd h (by simp [xvk]))
theorem xget_set {h : zH} {a b : Nat} {e0 e : zE} (h0 : h[a]? = some e0) : (h.set a e)[b]? = if b = a then some e else h[b]? := by
  have hl : a < h.length := by
    rcases Nat.lt_or_ge a h.length with q | q
    · exact q
    · rw [List.getElem?_eq_none q] at h0; cases h0
  split
  · next q => subst q; rw [List.getElem?_set_self hl]
  · next q => rw [List.getElem?_set_ne (fun q2 => q q2.symm)]
theorem rd_set {h : zH} {a b k : Nat} {e0 e : zE} (h0 : h[a]? = some e0) : rd (h.set a e) b k = if b = a then rd [e] 0 k else rd h b k := by
  by_cases hb : b = a
  · rw [if_pos hb]
    unfold rd
    rw [xget_set h0, if_pos hb]
    rfl
  · rw [if_neg hb]
    unfold rd
    rw [xget_set h0, if_neg hb]
theorem xset_obj {h : zH} {m : xM} {g : xL} {G : xG} {a t k : Nat} {fs : List Value} {x : Int32} (hs : HS h m g G) (h0 : h[a]? = some (t, .inr (.inr (.inr fs)))) (hk : k < fs.length) (ht : xty (ztyT t k) = 1) : HS (h.set a (t, .inr (.inr (.inr (fs.set k (.int x)))))) (xu m a k x) g G := by
  obtain ⟨k1, k2, k3, k4, k5⟩ := hs
  obtain ⟨y, hy⟩ : ∃ y : Int32, fs[k]? = some (.int y) := by
    have q := List.getElem?_eq_getElem hk
    obtain ⟨y, hy⟩ := xvk1 ((k1 a t fs k _ h0 q).trans ht)
    exact ⟨y, by rw [q, hy]⟩
  have rda : ∀ j, rd h a j = fs[j]? := fun j => by unfold rd; rw [h0]
  have rdn : ∀ b j, rd (h.set a (t, .inr (.inr (.inr (fs.set k (.int x)))))) b j = if b = a ∧ j = k then some (.int x) else rd h b j := by
    intro b j
    rw [rd_set h0]
    by_cases hb : b = a
    · subst hb
      rw [if_pos rfl]
      show (fs.set k (.int x))[j]? = _
      by_cases hj : j = k
      · subst hj
        rw [if_pos ⟨rfl, rfl⟩, List.getElem?_set_self hk]
      · rw [if_neg (fun q => hj q.2), List.getElem?_set_ne (fun q => hj q.symm), rda]
    · rw [if_neg hb, if_neg (fun q => hb q.1)]
  refine ⟨?_, ?_, ?_, ?_, ?_⟩
  · intro b t2 fs2 j v hb hv
    rw [xget_set h0] at hb
    split at hb
    · cases hb
      by_cases hj : j = k
      · subst hj
        rw [List.getElem?_set_self hk] at hv
        cases hv
        exact ht.symm
      · rw [List.getElem?_set_ne (fun q => hj q.symm)] at hv
        exact k1 _ _ _ _ _ h0 hv
    · exact k1 _ _ _ _ _ hb hv
  · funext b j
    show xi (rd _ b j) = _
    rw [rdn]
    unfold xu
    split
    · rfl
    · rw [← k2]; rfl
  · rw [← k3]
    funext b j
    show xl (rd _ b j) = xl (rd h b j)
    rw [rdn]
    split
    · next q => rw [q.1, q.2, rda, hy]; rfl
    · rfl
  · rw [← k4]
    funext b j
    show xr (rd _ b j) = xr (rd h b j)
    rw [rdn]
    split
    · next q => rw [q.1, q.2, rda, hy]; rfl
    · rfl
  · rw [← k5]
    funext b
    show xsh _ = xsh _
    rw [xget_set h0]
    split
    · next q => subst q; rw [h0]; show (t, 0, _) = (t, 0, _); rw [List.length_set]
    · rfl
theorem xset_arr {h : zH} {m : xM} {g : xL} {G : xG} {a t k : Nat} {l : List Int32} {x : Int32} (hs : HS h m g G) (h0 : h[a]? = some (t, .inl l)) (hk : k < l.length) : HS (h.set a (t, .inl (l.set k x))) (xu m a k x) g G := by
  obtain ⟨k1, k2, k3, k4, k5⟩ := hs
  have rda : ∀ j, rd h a j = l[j]?.map Value.int := fun j => by unfold rd; rw [h0]
  have rdn : ∀ b j, rd (h.set a (t, .inl (l.set k x))) b j = if b = a ∧ j = k then some (.int x) else rd h b j := by
    intro b j
    rw [rd_set h0]
    by_cases hb : b = a
    · subst hb
      rw [if_pos rfl]
      show (l.set k x)[j]?.map Value.int = _
      by_cases hj : j = k
      · subst hj
        rw [if_pos ⟨rfl, rfl⟩, List.getElem?_set_self hk]
        rfl
      · rw [if_neg (fun q => hj q.2), List.getElem?_set_ne (fun q => hj q.symm), rda]
    · rw [if_neg hb, if_neg (fun q => hb q.1)]
  refine ⟨?_, ?_, ?_, ?_, ?_⟩
  · intro b t2 fs2 j v hb hv
    rw [xget_set h0] at hb
    split at hb
    · cases hb
    · exact k1 _ _ _ _ _ hb hv
  · funext b j
    show xi (rd _ b j) = _
    rw [rdn]
    unfold xu
    split
    · rfl
    · rw [← k2]; rfl
  · rw [← k3]
    funext b j
    show xl (rd _ b j) = xl (rd h b j)
    rw [rdn]
    split
    · next q => rw [q.1, q.2, rda, List.getElem?_eq_getElem hk]; rfl
    · rfl
  · rw [← k4]
    funext b j
    show xr (rd _ b j) = xr (rd h b j)
    rw [rdn]
    split
    · next q => rw [q.1, q.2, rda, List.getElem?_eq_getElem hk]; rfl
    · rfl
  · rw [← k5]
    funext b
    show xsh _ = xsh _
    rw [xget_set h0]
    split
    · next q => subst q; rw [h0]; show (t, 1, _) = (t, 1, _); rw [List.length_set]
    · rfl
theorem xset_larr {h : zH} {m : xM} {g : xL} {G : xG} {a t k : Nat} {l : List Int64} {x : Int64} (hs : HS h m g G) (h0 : h[a]? = some (t, .inr (.inl l))) (hk : k < l.length) : HS (h.set a (t, .inr (.inl (l.set k x)))) m (xu g a k x) G := by
  obtain ⟨k1, k2, k3, k4, k5⟩ := hs
  have rda : ∀ j, rd h a j = l[j]?.map Value.long := fun j => by unfold rd; rw [h0]
  have rdn : ∀ b j, rd (h.set a (t, .inr (.inl (l.set k x)))) b j = if b = a ∧ j = k then some (.long x) else rd h b j := by
    intro b j
    rw [rd_set h0]
    by_cases hb : b = a
    · subst hb
      rw [if_pos rfl]
      show (l.set k x)[j]?.map Value.long = _
      by_cases hj : j = k
      · subst hj
        rw [if_pos ⟨rfl, rfl⟩, List.getElem?_set_self hk]
        rfl
      · rw [if_neg (fun q => hj q.2), List.getElem?_set_ne (fun q => hj q.symm), rda]
    · rw [if_neg hb, if_neg (fun q => hb q.1)]
  refine ⟨?_, ?_, ?_, ?_, ?_⟩
  · intro b t2 fs2 j v hb hv
    rw [xget_set h0] at hb
    split at hb
    · cases hb
    · exact k1 _ _ _ _ _ hb hv
  · rw [← k2]
    funext b j
    show xi (rd _ b j) = xi (rd h b j)
    rw [rdn]
    split
    · next q => rw [q.1, q.2, rda, List.getElem?_eq_getElem hk]; rfl
    · rfl
  · funext b j
    show xl (rd _ b j) = _
    rw [rdn]
    unfold xu
    split
    · rfl
    · rw [← k3]; rfl
  · rw [← k4]
    funext b j
    show xr (rd _ b j) = xr (rd h b j)
    rw [rdn]
    split
    · next q => rw [q.1, q.2, rda, List.getElem?_eq_getElem hk]; rfl
    · rfl
  · rw [← k5]
    funext b
    show xsh _ = xsh _
    rw [xget_set h0]
    split
    · next q => subst q; rw [h0]; show (t, 2, _) = (t, 2, _); rw [List.length_set]
    · rfl
section XI
variable {nf : Bool} {xs : List Int32} {d c : Nat} {ini : Bool} {nL : Nat} {rt : Option FieldType} {tab : Nat → Option (Instr × Nat)} {G : xG} {r : Option Value} {h' : zH}
def RL (nf : Bool) (xs : List Int32) (d c : Nat) (ini : Bool) (nL : Nat) (rt : Option FieldType) (tab : Nat → Option (Instr × Nat)) (G : xG) (r : Option Value) (h' : zH) (n : Nat) (a : xS) : Prop := ∃ h : zH, HS h a.2.2.2.1 a.2.2.2.2 G ∧ zRun (zXt nf xs) zIT zmcl (zEv (zXt nf xs) zIT zmcl zMt d) c ini nL rt tab n a.1 a.2.1 a.2.2.1 h r h'
/-- a run of fewer than N steps -/
def RR (nf : Bool) (xs : List Int32) (d c : Nat) (ini : Bool) (nL : Nat) (rt : Option FieldType) (tab : Nat → Option (Instr × Nat)) (G : xG) (r : Option Value) (h' : zH) (N : Nat) (a : xS) : Prop := ∃ n : Nat, n < N ∧ RL nf xs d c ini nL rt tab G r h' n a
/-- one step -/
def XS (nf : Bool) (xs : List Int32) (d c : Nat) (ini : Bool) (nL : Nat) (rt : Option FieldType) (tab : Nat → Option (Instr × Nat)) (G : xG) (r : Option Value) (h' : zH) (a b : xS) : Prop := ∀ n : Nat, RL nf xs d c ini nL rt tab G r h' n a → ∃ n' : Nat, n = n' + 1 ∧ RL nf xs d c ini nL rt tab G r h' n' b
theorem RR.go {N : Nat} {a b : xS} (hr : RR nf xs d c ini nL rt tab G r h' N a) (s : XS nf xs d c ini nL rt tab G r h' a b) : RR nf xs d c ini nL rt tab G r h' N b := by
  obtain ⟨n, h1, h2⟩ := hr
  obtain ⟨n', e, h3⟩ := s n h2
  exact ⟨n', by omega, h3⟩
theorem RR.go1 {N : Nat} {a b : xS} (hr : RR nf xs d c ini nL rt tab G r h' (N + 1) a) (s : XS nf xs d c ini nL rt tab G r h' a b) : RR nf xs d c ini nL rt tab G r h' N b := by
  obtain ⟨n, h1, h2⟩ := hr
  obtain ⟨n', e, h3⟩ := s n h2
  exact ⟨n', by omega, h3⟩
theorem RR.no {a : xS} (hr : RR nf xs d c ini nL rt tab G r h' 0 a) : False := by
  obtain ⟨n, h1, -⟩ := hr
  omega
theorem zinv {i : Instr} {len n pc : Nat} {ls : zL} {st : List Value} {h : zH} (t : tab pc = some (i, len)) (h1 : zret rt i st = none) (h2 : zobjI zIT c i st = none) (h3 : zcall (zXt nf xs) zIT zmcl c i st h = none) (q : zRun (zXt nf xs) zIT zmcl (zEv (zXt nf xs) zIT zmcl zMt d) c ini nL rt tab n pc ls st h r h') : ∃ (n' pc1 : Nat) (ls1 : zL) (st1 : List Value) (k1 : zH), n = n' + 1 ∧ zstep (zXt nf xs) nL ini c i pc ls st h = some (pc1, ls1, st1, k1) ∧ zRun (zXt nf xs) zIT zmcl (zEv (zXt nf xs) zIT zmcl zMt d) c ini nL rt tab n' pc1 ls1 st1 k1 r h' := by
  cases n with
  | zero => exact q.elim
  | succ n =>
    obtain ⟨i', len', t', q⟩ := q
    rw [t] at t'
    cases t'
    rcases q with ⟨q, -⟩ | ⟨pc1, ls1, st1, k1, q1, q2⟩ | ⟨rest, q, -⟩ | ⟨mi, as, rest, r1, k1, q, -⟩
    · rw [h1] at q; cases q
    · exact ⟨n, pc1, ls1, st1, k1, rfl, q1, q2⟩
    · rw [h2] at q; cases q
    · rw [h3] at q; cases q
theorem xpure {i : Instr} {len pc pc1 : Nat} {ls ls1 : zL} {st st1 : List Value} {m : xM} {g : xL} (t : tab pc = some (i, len)) (h1 : zret rt i st = none) (h2 : zobjI zIT c i st = none) (h3 : ∀ h : zH, zcall (zXt nf xs) zIT zmcl c i st h = none) (hs : ∀ (h : zH) (s : Nat × zL × List Value × zH), zstep (zXt nf xs) nL ini c i pc ls st h = some s → s = (pc1, ls1, st1, h)) : XS nf xs d c ini nL rt tab G r h' (pc, ls, st, m, g) (pc1, ls1, st1, m, g) := by
  intro n ⟨h, q1, q2⟩
  obtain ⟨n', p1, l1, s1, k1, e, z, q⟩ := zinv t h1 h2 (h3 h) q2
  cases hs _ _ z
  exact ⟨n', e, h, q1, q⟩
end XI
