/-! Joined: 63a.xinv, 63b.xstep, 63c.xcell, 63d.xcall, 63e.xknown, 64a.base, 64b.scanrows, 64c.scan1, 64d.scan2, 64e.scan3, 64f.scan4, 64g.scan5, 64h.letters. -/
section
/-! PARTIAL RUNS: what a run of a method tells, step by step; heaps are seen as rows of ints, of longs, of references, and shapes. Names begin with x. -/
abbrev xM : Type := Nat → Nat → Int32
abbrev xL : Type := Nat → Nat → Int64
abbrev xG : Type := (Nat → Nat → Option Nat) × (Nat → Nat × Nat × Nat)
abbrev xS : Type := Nat × zL × List Value × xM × xL
def xi (v : Option Value) : Int32 := match v with
  | some (.int x) => x
  | _ => 0
def xl (v : Option Value) : Int64 := match v with
  | some (.long x) => x
  | _ => 0
def xr (v : Option Value) : Option Nat := match v with
  | some (.ref x) => some x
  | _ => none
def xsh (e : Option zE) : Nat × Nat × Nat := match e with
  | some (t, .inr (.inr (.inr fs))) => (t, 0, fs.length)
  | some (t, .inl l) => (t, 1, l.length)
  | some (t, .inr (.inl l)) => (t, 2, l.length)
  | some (t, .inr (.inr (.inl l))) => (t, 3, l.length)
  | none => (0, 9, 0)
def gi (h : zH) : xM := fun a k => xi (rd h a k)
def gl (h : zH) : xL := fun a k => xl (rd h a k)
def gr (h : zH) : Nat → Nat → Option Nat := fun a k => xr (rd h a k)
def gs (h : zH) : Nat → Nat × Nat × Nat := fun a => xsh h[a]?
def xty (t : FieldType) : Nat := match t with
  | .int => 1
  | .boolean => 1
  | .long => 2
  | .object _ => 3
  | .array _ => 3
  | _ => 0
def xvk (v : Value) : Nat := match v with
  | .int _ => 1
  | .long _ => 2
  | .ref _ => 3
  | .null => 3
  | .retAddr _ => 3
  | _ => 4
/-- fields hold what their types say -/
def KT (h : zH) : Prop := ∀ (a t : Nat) (fs : List Value) (k : Nat) (v : Value), h[a]? = some (t, .inr (.inr (.inr fs))) → fs[k]? = some v → xvk v = xty (ztyT t k)
def HS (h : zH) (m : xM) (g : xL) (G : xG) : Prop := KT h ∧ gi h = m ∧ gl h = g ∧ gr h = G.1 ∧ gs h = G.2
def xu {α : Type} (m : Nat → Nat → α) (a k : Nat) (x : α) : Nat → Nat → α := fun b j => if b = a ∧ j = k then x else m b j
theorem xvk1 {v : Value} (h : xvk v = 1) : ∃ x : Int32, v = .int x := by
  cases v <;> first | exact ⟨_, rfl⟩ | (exact absurd h (by simp [xvk]))
theorem xvk2 {v : Value} (h : xvk v = 2) : ∃ x : Int64, v = .long x := by
  cases v <;> first | exact ⟨_, rfl⟩ | (exact absurd h (by simp [xvk]))
theorem xget_set {h : zH} {a b : Nat} {e0 e : zE} (h0 : h[a]? = some e0) : (h.set a e)[b]? = if b = a then some e else h[b]? := by
  have hl : a < h.length := by
    rcases Nat.lt_or_ge a h.length with q | q
    · exact q
    · rw [List.getElem?_eq_none q] at h0; cases h0
  split
  · next q => subst q; rw [List.getElem?_set_self hl]
  · next q => rw [List.getElem?_set_ne (fun q2 => q q2.symm)]
theorem rd_set {h : zH} {a b k : Nat} {e0 e : zE} (h0 : h[a]? = some e0) : rd (h.set a e) b k = if b = a then rd [e] 0 k else rd h b k := by
  by_cases hb : b = a
  · rw [if_pos hb]
    unfold rd
    rw [xget_set h0, if_pos hb]
    rfl
  · rw [if_neg hb]
    unfold rd
    rw [xget_set h0, if_neg hb]
theorem xset_obj {h : zH} {m : xM} {g : xL} {G : xG} {a t k : Nat} {fs : List Value} {x : Int32} (hs : HS h m g G) (h0 : h[a]? = some (t, .inr (.inr (.inr fs)))) (hk : k < fs.length) (ht : xty (ztyT t k) = 1) : HS (h.set a (t, .inr (.inr (.inr (fs.set k (.int x)))))) (xu m a k x) g G := by
  obtain ⟨k1, k2, k3, k4, k5⟩ := hs
  obtain ⟨y, hy⟩ : ∃ y : Int32, fs[k]? = some (.int y) := by
    have q := List.getElem?_eq_getElem hk
    obtain ⟨y, hy⟩ := xvk1 ((k1 a t fs k _ h0 q).trans ht)
    exact ⟨y, by rw [q, hy]⟩
  have rda : ∀ j, rd h a j = fs[j]? := fun j => by unfold rd; rw [h0]
  have rdn : ∀ b j, rd (h.set a (t, .inr (.inr (.inr (fs.set k (.int x)))))) b j = if b = a ∧ j = k then some (.int x) else rd h b j := by
    intro b j
    rw [rd_set h0]
    by_cases hb : b = a
    · subst hb
      rw [if_pos rfl]
      show (fs.set k (.int x))[j]? = _
      by_cases hj : j = k
      · subst hj
        rw [if_pos ⟨rfl, rfl⟩, List.getElem?_set_self hk]
      · rw [if_neg (fun q => hj q.2), List.getElem?_set_ne (fun q => hj q.symm), rda]
    · rw [if_neg hb, if_neg (fun q => hb q.1)]
  refine ⟨?_, ?_, ?_, ?_, ?_⟩
  · intro b t2 fs2 j v hb hv
    rw [xget_set h0] at hb
    split at hb
    · cases hb
      by_cases hj : j = k
      · subst hj
        rw [List.getElem?_set_self hk] at hv
        cases hv
        exact ht.symm
      · rw [List.getElem?_set_ne (fun q => hj q.symm)] at hv
        exact k1 _ _ _ _ _ h0 hv
    · exact k1 _ _ _ _ _ hb hv
  · funext b j
    show xi (rd _ b j) = _
    rw [rdn]
    unfold xu
    split
    · rfl
    · rw [← k2]; rfl
  · rw [← k3]
    funext b j
    show xl (rd _ b j) = xl (rd h b j)
    rw [rdn]
    split
    · next q => rw [q.1, q.2, rda, hy]; rfl
    · rfl
  · rw [← k4]
    funext b j
    show xr (rd _ b j) = xr (rd h b j)
    rw [rdn]
    split
    · next q => rw [q.1, q.2, rda, hy]; rfl
    · rfl
  · rw [← k5]
    funext b
    show xsh _ = xsh _
    rw [xget_set h0]
    split
    · next q => subst q; rw [h0]; show (t, 0, _) = (t, 0, _); rw [List.length_set]
    · rfl
theorem xset_arr {h : zH} {m : xM} {g : xL} {G : xG} {a t k : Nat} {l : List Int32} {x : Int32} (hs : HS h m g G) (h0 : h[a]? = some (t, .inl l)) (hk : k < l.length) : HS (h.set a (t, .inl (l.set k x))) (xu m a k x) g G := by
  obtain ⟨k1, k2, k3, k4, k5⟩ := hs
  have rda : ∀ j, rd h a j = l[j]?.map Value.int := fun j => by unfold rd; rw [h0]
  have rdn : ∀ b j, rd (h.set a (t, .inl (l.set k x))) b j = if b = a ∧ j = k then some (.int x) else rd h b j := by
    intro b j
    rw [rd_set h0]
    by_cases hb : b = a
    · subst hb
      rw [if_pos rfl]
      show (l.set k x)[j]?.map Value.int = _
      by_cases hj : j = k
      · subst hj
        rw [if_pos ⟨rfl, rfl⟩, List.getElem?_set_self hk]
        rfl
      · rw [if_neg (fun q => hj q.2), List.getElem?_set_ne (fun q => hj q.symm), rda]
    · rw [if_neg hb, if_neg (fun q => hb q.1)]
  refine ⟨?_, ?_, ?_, ?_, ?_⟩
  · intro b t2 fs2 j v hb hv
    rw [xget_set h0] at hb
    split at hb
    · cases hb
    · exact k1 _ _ _ _ _ hb hv
  · funext b j
    show xi (rd _ b j) = _
    rw [rdn]
    unfold xu
    split
    · rfl
    · rw [← k2]; rfl
  · rw [← k3]
    funext b j
    show xl (rd _ b j) = xl (rd h b j)
    rw [rdn]
    split
    · next q => rw [q.1, q.2, rda, List.getElem?_eq_getElem hk]; rfl
    · rfl
  · rw [← k4]
    funext b j
    show xr (rd _ b j) = xr (rd h b j)
    rw [rdn]
    split
    · next q => rw [q.1, q.2, rda, List.getElem?_eq_getElem hk]; rfl
    · rfl
  · rw [← k5]
    funext b
    show xsh _ = xsh _
    rw [xget_set h0]
    split
    · next q => subst q; rw [h0]; show (t, 1, _) = (t, 1, _); rw [List.length_set]
    · rfl
theorem xset_larr {h : zH} {m : xM} {g : xL} {G : xG} {a t k : Nat} {l : List Int64} {x : Int64} (hs : HS h m g G) (h0 : h[a]? = some (t, .inr (.inl l))) (hk : k < l.length) : HS (h.set a (t, .inr (.inl (l.set k x)))) m (xu g a k x) G := by
  obtain ⟨k1, k2, k3, k4, k5⟩ := hs
  have rda : ∀ j, rd h a j = l[j]?.map Value.long := fun j => by unfold rd; rw [h0]
  have rdn : ∀ b j, rd (h.set a (t, .inr (.inl (l.set k x)))) b j = if b = a ∧ j = k then some (.long x) else rd h b j := by
    intro b j
    rw [rd_set h0]
    by_cases hb : b = a
    · subst hb
      rw [if_pos rfl]
      show (l.set k x)[j]?.map Value.long = _
      by_cases hj : j = k
      · subst hj
        rw [if_pos ⟨rfl, rfl⟩, List.getElem?_set_self hk]
        rfl
      · rw [if_neg (fun q => hj q.2), List.getElem?_set_ne (fun q => hj q.symm), rda]
    · rw [if_neg hb, if_neg (fun q => hb q.1)]
  refine ⟨?_, ?_, ?_, ?_, ?_⟩
  · intro b t2 fs2 j v hb hv
    rw [xget_set h0] at hb
    split at hb
    · cases hb
    · exact k1 _ _ _ _ _ hb hv
  · rw [← k2]
    funext b j
    show xi (rd _ b j) = xi (rd h b j)
    rw [rdn]
    split
    · next q => rw [q.1, q.2, rda, List.getElem?_eq_getElem hk]; rfl
    · rfl
  · funext b j
    show xl (rd _ b j) = _
    rw [rdn]
    unfold xu
    split
    · rfl
    · rw [← k3]; rfl
  · rw [← k4]
    funext b j
    show xr (rd _ b j) = xr (rd h b j)
    rw [rdn]
    split
    · next q => rw [q.1, q.2, rda, List.getElem?_eq_getElem hk]; rfl
    · rfl
  · rw [← k5]
    funext b
    show xsh _ = xsh _
    rw [xget_set h0]
    split
    · next q => subst q; rw [h0]; show (t, 2, _) = (t, 2, _); rw [List.length_set]
    · rfl
section XI
variable {nf : Bool} {xs : List Int32} {d c : Nat} {ini : Bool} {nL : Nat} {rt : Option FieldType} {tab : Nat → Option (Instr × Nat)} {G : xG} {r : Option Value} {h' : zH}
def RL (nf : Bool) (xs : List Int32) (d c : Nat) (ini : Bool) (nL : Nat) (rt : Option FieldType) (tab : Nat → Option (Instr × Nat)) (G : xG) (r : Option Value) (h' : zH) (n : Nat) (a : xS) : Prop := ∃ h : zH, HS h a.2.2.2.1 a.2.2.2.2 G ∧ zRun (zXt nf xs) zIT zmcl (zEv (zXt nf xs) zIT zmcl zMt d) c ini nL rt tab n a.1 a.2.1 a.2.2.1 h r h'
/-- a run of fewer than N steps -/
def RR (nf : Bool) (xs : List Int32) (d c : Nat) (ini : Bool) (nL : Nat) (rt : Option FieldType) (tab : Nat → Option (Instr × Nat)) (G : xG) (r : Option Value) (h' : zH) (N : Nat) (a : xS) : Prop := ∃ n : Nat, n < N ∧ RL nf xs d c ini nL rt tab G r h' n a
/-- one step -/
def XS (nf : Bool) (xs : List Int32) (d c : Nat) (ini : Bool) (nL : Nat) (rt : Option FieldType) (tab : Nat → Option (Instr × Nat)) (G : xG) (r : Option Value) (h' : zH) (a b : xS) : Prop := ∀ n : Nat, RL nf xs d c ini nL rt tab G r h' n a → ∃ n' : Nat, n = n' + 1 ∧ RL nf xs d c ini nL rt tab G r h' n' b
theorem RR.go {N : Nat} {a b : xS} (hr : RR nf xs d c ini nL rt tab G r h' N a) (s : XS nf xs d c ini nL rt tab G r h' a b) : RR nf xs d c ini nL rt tab G r h' N b := by
  obtain ⟨n, h1, h2⟩ := hr
  obtain ⟨n', e, h3⟩ := s n h2
  exact ⟨n', by omega, h3⟩
theorem RR.go1 {N : Nat} {a b : xS} (hr : RR nf xs d c ini nL rt tab G r h' (N + 1) a) (s : XS nf xs d c ini nL rt tab G r h' a b) : RR nf xs d c ini nL rt tab G r h' N b := by
  obtain ⟨n, h1, h2⟩ := hr
  obtain ⟨n', e, h3⟩ := s n h2
  exact ⟨n', by omega, h3⟩
theorem RR.no {a : xS} (hr : RR nf xs d c ini nL rt tab G r h' 0 a) : False := by
  obtain ⟨n, h1, -⟩ := hr
  omega
theorem zinv {i : Instr} {len n pc : Nat} {ls : zL} {st : List Value} {h : zH} (t : tab pc = some (i, len)) (h1 : zret rt i st = none) (h2 : zobjI zIT c i st = none) (h3 : zcall (zXt nf xs) zIT zmcl c i st h = none) (q : zRun (zXt nf xs) zIT zmcl (zEv (zXt nf xs) zIT zmcl zMt d) c ini nL rt tab n pc ls st h r h') : ∃ (n' pc1 : Nat) (ls1 : zL) (st1 : List Value) (k1 : zH), n = n' + 1 ∧ zstep (zXt nf xs) nL ini c i pc ls st h = some (pc1, ls1, st1, k1) ∧ zRun (zXt nf xs) zIT zmcl (zEv (zXt nf xs) zIT zmcl zMt d) c ini nL rt tab n' pc1 ls1 st1 k1 r h' := by
  cases n with
  | zero => exact q.elim
  | succ n =>
    obtain ⟨i', len', t', q⟩ := q
    rw [t] at t'
    cases t'
    rcases q with ⟨q, -⟩ | ⟨pc1, ls1, st1, k1, q1, q2⟩ | ⟨rest, q, -⟩ | ⟨mi, as, rest, r1, k1, q, -⟩
    · rw [h1] at q; cases q
    · exact ⟨n, pc1, ls1, st1, k1, rfl, q1, q2⟩
    · rw [h2] at q; cases q
    · rw [h3] at q; cases q
theorem xpure {i : Instr} {len pc pc1 : Nat} {ls ls1 : zL} {st st1 : List Value} {m : xM} {g : xL} (t : tab pc = some (i, len)) (h1 : zret rt i st = none) (h2 : zobjI zIT c i st = none) (h3 : ∀ h : zH, zcall (zXt nf xs) zIT zmcl c i st h = none) (hs : ∀ (h : zH) (s : Nat × zL × List Value × zH), zstep (zXt nf xs) nL ini c i pc ls st h = some s → s = (pc1, ls1, st1, h)) : XS nf xs d c ini nL rt tab G r h' (pc, ls, st, m, g) (pc1, ls1, st1, m, g) := by
  intro n ⟨h, q1, q2⟩
  obtain ⟨n', p1, l1, s1, k1, e, z, q⟩ := zinv t h1 h2 (h3 h) q2
  cases hs _ _ z
  exact ⟨n', e, h, q1, q⟩
end XI
end
section
/-! The steps. -/
section XI
variable {nf : Bool} {xs : List Int32} {d c : Nat} {ini : Bool} {nL : Nat} {rt : Option FieldType} {tab : Nat → Option (Instr × Nat)} {G : xG} {r : Option Value} {h' : zH} {pc pc' len : Nat} {ls ls' : zL} {st : List Value} {m : xM} {g : xL} {N : Nat}
/-- an instruction and where the next one stands -/
def xt (tab : Nat → Option (Instr × Nat)) (pc pc' : Nat) (i : Instr) : Prop := tab pc = some (i, pc' - pc) ∧ pc + zlen i = pc'
/-- a branch -/
def xtb (tab : Nat → Option (Instr × Nat)) (pc pc' q : Nat) (i : Instr) (off : Int) : Prop := tab pc = some (i, 3) ∧ pc + 3 = pc' ∧ (pc : Int) + off = (q : Int)
/-- a field -/
def xtf (tab : Nat → Option (Instr × Nat)) (c pc pc' : Nat) (i : Instr) (j ci k ty : Nat) : Prop := tab pc = some (i, 3) ∧ pc + 3 = pc' ∧ zfldT c j = some (ci, k) ∧ xty (ztyT ci k) = ty
/-- a call -/
def xtc (tab : Nat → Option (Instr × Nat)) (c pc pc' : Nat) (i : Instr) (j kd mi n : Nat) : Prop := tab pc = some (i, 3) ∧ pc + 3 = pc' ∧ zIT c j = some (kd, mi, n)
theorem s_iconst {n : Int} (t : xt tab pc pc' (.iconst n)) : XS nf xs d c ini nL rt tab G r h' (pc, ls, st, m, g) (pc', ls, .int (Int32.ofInt n) :: st, m, g) := by
  obtain ⟨t, rfl⟩ := t
  exact xpure t rfl rfl (fun _ => rfl) (fun h s q => by cases q; rfl)
theorem s_bipush {n : Int} (t : xt tab pc pc' (.bipush n)) : XS nf xs d c ini nL rt tab G r h' (pc, ls, st, m, g) (pc', ls, .int (Int8.ofInt n).toInt32 :: st, m, g) := by
  obtain ⟨t, rfl⟩ := t
  exact xpure t rfl rfl (fun _ => rfl) (fun h s q => by cases q; rfl)
theorem s_sipush {n : Int} (t : xt tab pc pc' (.sipush n)) : XS nf xs d c ini nL rt tab G r h' (pc, ls, st, m, g) (pc', ls, .int (Int16.ofInt n).toInt32 :: st, m, g) := by
  obtain ⟨t, rfl⟩ := t
  exact xpure t rfl rfl (fun _ => rfl) (fun h s q => by cases q; rfl)
theorem s_lconst {n : Fin 2} (t : xt tab pc pc' (.lconst n)) : XS nf xs d c ini nL rt tab G r h' (pc, ls, st, m, g) (pc', ls, .long (Int64.ofNat (n : Nat)) :: st, m, g) := by
  obtain ⟨t, rfl⟩ := t
  exact xpure t rfl rfl (fun _ => rfl) (fun h s q => by cases q; rfl)
theorem s_iload_n {k : Fin 4} {x : Int32} (t : xt tab pc pc' (.iload_n k)) (e : zget ls k = some (.int x)) : XS nf xs d c ini nL rt tab G r h' (pc, ls, st, m, g) (pc', ls, .int x :: st, m, g) := by
  obtain ⟨t, rfl⟩ := t
  exact xpure t rfl rfl (fun _ => rfl) (fun h s q => by simp only [zstep, zstI, zstL, e] at q; cases q; rfl)
theorem s_iload {k : Nat} {x : Int32} (t : xt tab pc pc' (.iload k)) (e : zget ls k = some (.int x)) : XS nf xs d c ini nL rt tab G r h' (pc, ls, st, m, g) (pc', ls, .int x :: st, m, g) := by
  obtain ⟨t, rfl⟩ := t
  exact xpure t rfl rfl (fun _ => rfl) (fun h s q => by simp only [zstep, zstI, zstL, e] at q; cases q; rfl)
theorem s_lload_n {k : Fin 4} {x : Int64} (t : xt tab pc pc' (.lload_n k)) (e : zget ls k = some (.long x)) : XS nf xs d c ini nL rt tab G r h' (pc, ls, st, m, g) (pc', ls, .long x :: st, m, g) := by
  obtain ⟨t, rfl⟩ := t
  exact xpure t rfl rfl (fun _ => rfl) (fun h s q => by simp only [zstep, zstI, zstL, e] at q; cases q; rfl)
theorem s_aload_n {k : Fin 4} {x : Nat} (t : xt tab pc pc' (.aload_n k)) (e : zget ls k = some (.ref x)) : XS nf xs d c ini nL rt tab G r h' (pc, ls, st, m, g) (pc', ls, .ref x :: st, m, g) := by
  obtain ⟨t, rfl⟩ := t
  exact xpure t rfl rfl (fun _ => rfl) (fun h s q => by simp only [zstep, zstI, zstL, e] at q; cases q; rfl)
theorem s_aload {k : Nat} {x : Nat} (t : xt tab pc pc' (.aload k)) (e : zget ls k = some (.ref x)) : XS nf xs d c ini nL rt tab G r h' (pc, ls, st, m, g) (pc', ls, .ref x :: st, m, g) := by
  obtain ⟨t, rfl⟩ := t
  exact xpure t rfl rfl (fun _ => rfl) (fun h s q => by simp only [zstep, zstI, zstL, e] at q; cases q; rfl)
theorem s_aloadX_n {k : Fin 4} {x : Nat} (t : xt tab pc pc' (.aload_n k)) (e : zget ls k = some (.retAddr x)) : XS nf xs d c ini nL rt tab G r h' (pc, ls, st, m, g) (pc', ls, .retAddr x :: st, m, g) := by
  obtain ⟨t, rfl⟩ := t
  exact xpure t rfl rfl (fun _ => rfl) (fun h s q => by simp only [zstep, zstI, zstL, e] at q; cases q; rfl)
theorem s_istore_n {k : Fin 4} {x : Int32} (t : xt tab pc pc' (.istore_n k)) (e : zset1 ls k (.int x) = ls') : XS nf xs d c ini nL rt tab G r h' (pc, ls, .int x :: st, m, g) (pc', ls', st, m, g) := by
  obtain ⟨t, rfl⟩ := t
  exact xpure t rfl rfl (fun _ => rfl) (fun h s q => by
    simp only [zstep, zstI, zstL, e] at q
    split at q
    · next q2 => split at q2 <;> cases q2; cases q; rfl
    · next q2 => split at q2 <;> cases q2; cases q)
theorem s_istore {k : Nat} {x : Int32} (t : xt tab pc pc' (.istore k)) (e : zset1 ls k (.int x) = ls') : XS nf xs d c ini nL rt tab G r h' (pc, ls, .int x :: st, m, g) (pc', ls', st, m, g) := by
  obtain ⟨t, rfl⟩ := t
  exact xpure t rfl rfl (fun _ => rfl) (fun h s q => by
    simp only [zstep, zstI, zstL, e] at q
    split at q
    · next q2 => split at q2 <;> cases q2; cases q; rfl
    · next q2 => split at q2 <;> cases q2; cases q)
theorem s_astore_n {k : Fin 4} {x : Nat} (t : xt tab pc pc' (.astore_n k)) (e : zset1 ls k (.ref x) = ls') : XS nf xs d c ini nL rt tab G r h' (pc, ls, .ref x :: st, m, g) (pc', ls', st, m, g) := by
  obtain ⟨t, rfl⟩ := t
  exact xpure t rfl rfl (fun _ => rfl) (fun h s q => by
    simp only [zstep, zstI, zstL, e] at q
    split at q
    · next q2 => split at q2 <;> cases q2; cases q; rfl
    · next q2 => split at q2 <;> cases q2; cases q)
theorem s_iinc {k : Nat} {n : Int} {x : Int32} (t : xt tab pc pc' (.iinc k n)) (e : zget ls k = some (.int x)) (e2 : zset1 ls k (.int (x + Int32.ofInt n)) = ls') : XS nf xs d c ini nL rt tab G r h' (pc, ls, st, m, g) (pc', ls', st, m, g) := by
  obtain ⟨t, rfl⟩ := t
  exact xpure t rfl rfl (fun _ => rfl) (fun h s q => by
    simp only [zstep, zstI, zstL, e, e2] at q
    split at q
    · next q2 => split at q2 <;> cases q2; cases q; rfl
    · next q2 => split at q2 <;> cases q2; cases q)
theorem s_iadd {x y : Int32} (t : xt tab pc pc' .iadd) : XS nf xs d c ini nL rt tab G r h' (pc, ls, .int y :: .int x :: st, m, g) (pc', ls, .int (x + y) :: st, m, g) := by
  obtain ⟨t, rfl⟩ := t
  exact xpure t rfl rfl (fun _ => rfl) (fun h s q => by cases q; rfl)
theorem s_isub {x y : Int32} (t : xt tab pc pc' .isub) : XS nf xs d c ini nL rt tab G r h' (pc, ls, .int y :: .int x :: st, m, g) (pc', ls, .int (x - y) :: st, m, g) := by
  obtain ⟨t, rfl⟩ := t
  exact xpure t rfl rfl (fun _ => rfl) (fun h s q => by cases q; rfl)
theorem s_imul {x y : Int32} (t : xt tab pc pc' .imul) : XS nf xs d c ini nL rt tab G r h' (pc, ls, .int y :: .int x :: st, m, g) (pc', ls, .int (x * y) :: st, m, g) := by
  obtain ⟨t, rfl⟩ := t
  exact xpure t rfl rfl (fun _ => rfl) (fun h s q => by cases q; rfl)
theorem s_iand {x y : Int32} (t : xt tab pc pc' .iand) : XS nf xs d c ini nL rt tab G r h' (pc, ls, .int y :: .int x :: st, m, g) (pc', ls, .int (x &&& y) :: st, m, g) := by
  obtain ⟨t, rfl⟩ := t
  exact xpure t rfl rfl (fun _ => rfl) (fun h s q => by cases q; rfl)
theorem s_ior {x y : Int32} (t : xt tab pc pc' .ior) : XS nf xs d c ini nL rt tab G r h' (pc, ls, .int y :: .int x :: st, m, g) (pc', ls, .int (x ||| y) :: st, m, g) := by
  obtain ⟨t, rfl⟩ := t
  exact xpure t rfl rfl (fun _ => rfl) (fun h s q => by cases q; rfl)
theorem s_ishl {x y : Int32} (t : xt tab pc pc' .ishl) : XS nf xs d c ini nL rt tab G r h' (pc, ls, .int y :: .int x :: st, m, g) (pc', ls, .int (x <<< (y &&& 31)) :: st, m, g) := by
  obtain ⟨t, rfl⟩ := t
  exact xpure t rfl rfl (fun _ => rfl) (fun h s q => by cases q; rfl)
theorem s_ishr {x y : Int32} (t : xt tab pc pc' .ishr) : XS nf xs d c ini nL rt tab G r h' (pc, ls, .int y :: .int x :: st, m, g) (pc', ls, .int (x >>> (y &&& 31)) :: st, m, g) := by
  obtain ⟨t, rfl⟩ := t
  exact xpure t rfl rfl (fun _ => rfl) (fun h s q => by cases q; rfl)
theorem s_lshl {x : Int64} {y : Int32} (t : xt tab pc pc' .lshl) : XS nf xs d c ini nL rt tab G r h' (pc, ls, .int y :: .long x :: st, m, g) (pc', ls, .long (x <<< (y.toInt64 &&& 63)) :: st, m, g) := by
  obtain ⟨t, rfl⟩ := t
  exact xpure t rfl rfl (fun _ => rfl) (fun h s q => by cases q; rfl)
theorem s_lshr {x : Int64} {y : Int32} (t : xt tab pc pc' .lshr) : XS nf xs d c ini nL rt tab G r h' (pc, ls, .int y :: .long x :: st, m, g) (pc', ls, .long (x >>> (y.toInt64 &&& 63)) :: st, m, g) := by
  obtain ⟨t, rfl⟩ := t
  exact xpure t rfl rfl (fun _ => rfl) (fun h s q => by cases q; rfl)
theorem s_land {x y : Int64} (t : xt tab pc pc' .land) : XS nf xs d c ini nL rt tab G r h' (pc, ls, .long y :: .long x :: st, m, g) (pc', ls, .long (x &&& y) :: st, m, g) := by
  obtain ⟨t, rfl⟩ := t
  exact xpure t rfl rfl (fun _ => rfl) (fun h s q => by cases q; rfl)
theorem s_lor {x y : Int64} (t : xt tab pc pc' .lor) : XS nf xs d c ini nL rt tab G r h' (pc, ls, .long y :: .long x :: st, m, g) (pc', ls, .long (x ||| y) :: st, m, g) := by
  obtain ⟨t, rfl⟩ := t
  exact xpure t rfl rfl (fun _ => rfl) (fun h s q => by cases q; rfl)
theorem s_lcmp {x y : Int64} (t : xt tab pc pc' .lcmp) : XS nf xs d c ini nL rt tab G r h' (pc, ls, .long y :: .long x :: st, m, g) (pc', ls, .int (lg_cmp x y) :: st, m, g) := by
  obtain ⟨t, rfl⟩ := t
  exact xpure t rfl rfl (fun _ => rfl) (fun h s q => by cases q; rfl)
theorem s_dup {v : Value} (t : xt tab pc pc' .dup) (hv : v.category = 1) : XS nf xs d c ini nL rt tab G r h' (pc, ls, v :: st, m, g) (pc', ls, v :: v :: st, m, g) := by
  obtain ⟨t, rfl⟩ := t
  exact xpure t rfl rfl (fun _ => rfl) (fun h s q => by cases v <;> cases q <;> rfl)
theorem s_dup2 {x : Int32} {a : Nat} (t : xt tab pc pc' .dup2) : XS nf xs d c ini nL rt tab G r h' (pc, ls, .int x :: .ref a :: st, m, g) (pc', ls, .int x :: .ref a :: .int x :: .ref a :: st, m, g) := by
  obtain ⟨t, rfl⟩ := t
  exact xpure t rfl rfl (fun _ => rfl) (fun h s q => by cases q; rfl)
theorem s_pop {x : Int32} (t : xt tab pc pc' .pop) : XS nf xs d c ini nL rt tab G r h' (pc, ls, .int x :: st, m, g) (pc', ls, st, m, g) := by
  obtain ⟨t, rfl⟩ := t
  exact xpure t rfl rfl (fun _ => rfl) (fun h s q => by cases q; rfl)
theorem s_goto {q : Nat} {off : Int} (t : xtb tab pc pc' q (.goto off) off) : XS nf xs d c ini nL rt tab G r h' (pc, ls, st, m, g) (q, ls, st, m, g) := by
  obtain ⟨t, rfl, e⟩ := t
  exact xpure t rfl rfl (fun _ => rfl) (fun h s z => by
    have hz : zjump pc off ls st h = some (q, ls, st, h) := by
      unfold zjump
      rw [e, if_pos (by omega)]
      rfl
    simp only [zstep, zstI, hz] at z
    cases z
    rfl)
theorem s_ldc {j : Nat} {x : Int32} (t : xt tab pc pc' (.ldc j)) (e : zkonT c j = some (.int x)) : XS nf xs d c ini nL rt tab G r h' (pc, ls, st, m, g) (pc', ls, .int x :: st, m, g) := by
  obtain ⟨t, rfl⟩ := t
  exact xpure t rfl rfl (fun _ => rfl) (fun h s q => by
    have e' : zkon (zXt nf xs) c j = some (.int x) := e
    simp only [zstep, zstI, zstL, zstH, e'] at q
    cases q
    rfl)
theorem s_ldcX {j : Nat} {x : Nat} (t : xt tab pc pc' (.ldc j)) (e : zkonT c j = some (.retAddr x)) : XS nf xs d c ini nL rt tab G r h' (pc, ls, st, m, g) (pc', ls, .retAddr x :: st, m, g) := by
  obtain ⟨t, rfl⟩ := t
  exact xpure t rfl rfl (fun _ => rfl) (fun h s q => by
    have e' : zkon (zXt nf xs) c j = some (.retAddr x) := e
    simp only [zstep, zstI, zstL, zstH, e'] at q
    cases q
    rfl)
theorem s_getstatic {j : Nat} {v : Value} (t : xt tab pc pc' (.getstatic j)) (e : zstaT nf c j = some v) : XS nf xs d c ini nL rt tab G r h' (pc, ls, st, m, g) (pc', ls, v :: st, m, g) := by
  obtain ⟨t, rfl⟩ := t
  exact xpure t rfl rfl (fun _ => rfl) (fun h s q => by
    have e' : zsta (zXt nf xs) c j = some v := e
    simp only [zstep, zstI, zstL, zstH, e'] at q
    cases q
    rfl)
end XI
end
section
/-! Steps that look at cells; branches; calls; ends. -/
section XI
variable {nf : Bool} {xs : List Int32} {d c : Nat} {ini : Bool} {nL : Nat} {rt : Option FieldType} {tab : Nat → Option (Instr × Nat)} {G : xG} {r : Option Value} {h' : zH} {pc pc' len : Nat} {ls ls' : zL} {st : List Value} {m : xM} {g : xL} {N : Nat}
theorem xgetf {X : zX} {j a ci k : Nat} {h : zH} {s : Nat × zL × List Value × zH} (e : zfld X c j = some (ci, k)) (z : zstep X nL ini c (.getfield j) pc ls (.ref a :: st) h = some s) : ∃ (fs : List Value) (v : Value), h[a]? = some (ci, .inr (.inr (.inr fs))) ∧ fs[k]? = some v ∧ s = (pc + 3, ls, v :: st, h) := by
  simp only [zstep, zstI, zstL, zstH, e] at z
  split at z
  · next q1 q2 hh =>
    cases q2
    split at z
    · next v hv =>
      split at z
      · next q => subst q; cases z; exact ⟨_, v, hh, hv, rfl⟩
      · cases z
    · cases z
  · cases z
theorem s_getf {j a ci k : Nat} (t : xtf tab c pc pc' (.getfield j) j ci k 1) : XS nf xs d c ini nL rt tab G r h' (pc, ls, .ref a :: st, m, g) (pc', ls, .int (m a k) :: st, m, g) := by
  obtain ⟨t, rfl, e, ty⟩ := t
  intro n ⟨h, hs, q2⟩
  obtain ⟨n', p1, l1, s1, k1, en, z, q⟩ := zinv t rfl rfl rfl q2
  obtain ⟨fs, v, h1, h2, h3⟩ := xgetf (X := zXt nf xs) e z
  cases h3
  obtain ⟨x, rfl⟩ := xvk1 ((hs.1 _ _ _ _ _ h1 h2).trans ty)
  refine ⟨n', en, h, hs, ?_⟩
  have : m a k = x := by
    have q := hs.2.1
    dsimp only at q
    rw [← q]
    show xi (rd h a k) = x
    unfold rd
    rw [h1]
    show xi fs[k]? = x
    rw [h2]
    rfl
  dsimp only
  rw [this]
  exact q
theorem s_getl {j a ci k : Nat} (t : xtf tab c pc pc' (.getfield j) j ci k 2) : XS nf xs d c ini nL rt tab G r h' (pc, ls, .ref a :: st, m, g) (pc', ls, .long (g a k) :: st, m, g) := by
  obtain ⟨t, rfl, e, ty⟩ := t
  intro n ⟨h, hs, q2⟩
  obtain ⟨n', p1, l1, s1, k1, en, z, q⟩ := zinv t rfl rfl rfl q2
  obtain ⟨fs, v, h1, h2, h3⟩ := xgetf (X := zXt nf xs) e z
  cases h3
  obtain ⟨x, rfl⟩ := xvk2 ((hs.1 _ _ _ _ _ h1 h2).trans ty)
  refine ⟨n', en, h, hs, ?_⟩
  have : g a k = x := by
    have q := hs.2.2.1
    dsimp only at q
    rw [← q]
    show xl (rd h a k) = x
    unfold rd
    rw [h1]
    show xl fs[k]? = x
    rw [h2]
    rfl
  dsimp only
  rw [this]
  exact q
theorem s_getr {j a b ci k : Nat} (t : xtf tab c pc pc' (.getfield j) j ci k 3) (hb : G.1 a k = some b) : XS nf xs d c ini nL rt tab G r h' (pc, ls, .ref a :: st, m, g) (pc', ls, .ref b :: st, m, g) := by
  obtain ⟨t, rfl, e, ty⟩ := t
  intro n ⟨h, hs, q2⟩
  obtain ⟨n', p1, l1, s1, k1, en, z, q⟩ := zinv t rfl rfl rfl q2
  obtain ⟨fs, v, h1, h2, h3⟩ := xgetf (X := zXt nf xs) e z
  cases h3
  refine ⟨n', en, h, hs, ?_⟩
  have : v = .ref b := by
    have q := hs.2.2.2.1
    rw [← q] at hb
    have hb : xr (rd h a k) = some b := hb
    unfold rd at hb
    rw [h1] at hb
    have hb : xr fs[k]? = some b := hb
    rw [h2] at hb
    cases v <;> first | (cases hb; rfl) | cases hb
  dsimp only
  rw [← this]
  exact q
theorem s_putf {j a ci k : Nat} {x : Int32} (t : xtf tab c pc pc' (.putfield j) j ci k 1) : XS nf xs d c ini nL rt tab G r h' (pc, ls, .int x :: .ref a :: st, m, g) (pc', ls, st, xu m a k x, g) := by
  obtain ⟨t, rfl, e, ty⟩ := t
  intro n ⟨h, hs, q2⟩
  obtain ⟨n', p1, l1, s1, k1, en, z, q⟩ := zinv t rfl rfl rfl q2
  have e' : zfld (zXt nf xs) c j = some (ci, k) := e
  simp only [zstep, zstI, zstL, zstH, e'] at z
  split at z
  · next q1 q2 hh =>
    cases q2
    split at z
    · next qq =>
      obtain ⟨q3, q4, q5⟩ := qq
      subst q3
      cases z
      exact ⟨n', en, _, xset_obj hs hh q4 ty, q⟩
    · cases z
  · cases z
theorem xidx {i : Int32} {n : Nat} (h : zidx i n = true) : i.toNatClampNeg < n ∧ 0 ≤ i.toInt := by
  unfold zidx at h
  simp only [Bool.and_eq_true, Bool.not_eq_true', decide_eq_false_iff_not, decide_eq_true_eq] at h
  refine ⟨h.2, ?_⟩
  have h1 := h.1
  rw [Int32.lt_iff_toInt_lt] at h1
  exact Int.not_lt.mp h1
theorem s_iaload {a t0 L : Nat} {i : Int32} (t : xt tab pc pc' .iaload) (ha : G.2 a = (t0, 1, L)) : XS nf xs d c ini nL rt tab G r h' (pc, ls, .int i :: .ref a :: st, m, g) (pc', ls, .int (m a i.toNatClampNeg) :: st, m, g) := by
  obtain ⟨t, rfl⟩ := t
  intro n ⟨h, hs, q2⟩
  obtain ⟨n', p1, l1, s1, k1, en, z, q⟩ := zinv t rfl rfl rfl q2
  simp only [zstep, zstI, zstL, zstH] at z
  split at z
  · next l hh =>
    split at z
    · next qi =>
      cases z
      refine ⟨n', en, h, hs, ?_⟩
      have : m a i.toNatClampNeg = l.getD i.toNatClampNeg 0 := by
        have q := hs.2.1
        dsimp only at q
        rw [← q]
        show xi (rd h a i.toNatClampNeg) = _
        unfold rd
        rw [hh]
        show xi (l[i.toNatClampNeg]?.map Value.int) = _
        rw [List.getD_eq_getElem?_getD, List.getElem?_eq_getElem (xidx qi).1]
        rfl
      dsimp only
      rw [this]
      exact q
    · cases z
  · cases z
theorem s_iastore {a : Nat} {i x : Int32} (t : xt tab pc pc' .iastore) : XS nf xs d c ini nL rt tab G r h' (pc, ls, .int x :: .int i :: .ref a :: st, m, g) (pc', ls, st, xu m a i.toNatClampNeg x, g) := by
  obtain ⟨t, rfl⟩ := t
  intro n ⟨h, hs, q2⟩
  obtain ⟨n', p1, l1, s1, k1, en, z, q⟩ := zinv t rfl rfl rfl q2
  simp only [zstep, zstI, zstL, zstH] at z
  split at z
  · next l hh =>
    split at z
    · next qi =>
      cases z
      exact ⟨n', en, _, xset_arr hs hh (xidx qi).1, q⟩
    · cases z
  · cases z
theorem s_laload {a : Nat} {i : Int32} (t : xt tab pc pc' .laload) : XS nf xs d c ini nL rt tab G r h' (pc, ls, .int i :: .ref a :: st, m, g) (pc', ls, .long (g a i.toNatClampNeg) :: st, m, g) := by
  obtain ⟨t, rfl⟩ := t
  intro n ⟨h, hs, q2⟩
  obtain ⟨n', p1, l1, s1, k1, en, z, q⟩ := zinv t rfl rfl rfl q2
  simp only [zstep, zstI, zstL, zstH] at z
  split at z
  · next l hh =>
    split at z
    · next qi =>
      cases z
      refine ⟨n', en, h, hs, ?_⟩
      have : g a i.toNatClampNeg = l.getD i.toNatClampNeg 0 := by
        have q := hs.2.2.1
        dsimp only at q
        rw [← q]
        show xl (rd h a i.toNatClampNeg) = _
        unfold rd
        rw [hh]
        show xl (l[i.toNatClampNeg]?.map Value.long) = _
        rw [List.getD_eq_getElem?_getD, List.getElem?_eq_getElem (xidx qi).1]
        rfl
      dsimp only
      rw [this]
      exact q
    · cases z
  · cases z
theorem s_lastore {a : Nat} {i : Int32} {x : Int64} (t : xt tab pc pc' .lastore) : XS nf xs d c ini nL rt tab G r h' (pc, ls, .long x :: .int i :: .ref a :: st, m, g) (pc', ls, st, m, xu g a i.toNatClampNeg x) := by
  obtain ⟨t, rfl⟩ := t
  intro n ⟨h, hs, q2⟩
  obtain ⟨n', p1, l1, s1, k1, en, z, q⟩ := zinv t rfl rfl rfl q2
  simp only [zstep, zstI, zstL, zstH] at z
  split at z
  · next l hh =>
    split at z
    · next qi =>
      cases z
      exact ⟨n', en, _, xset_larr hs hh (xidx qi).1, q⟩
    · cases z
  · cases z
theorem s_alen {a t0 kd L : Nat} (t : xt tab pc pc' .arraylength) (ha : G.2 a = (t0, kd, L)) : XS nf xs d c ini nL rt tab G r h' (pc, ls, .ref a :: st, m, g) (pc', ls, .int (Int32.ofNat L) :: st, m, g) := by
  obtain ⟨t, rfl⟩ := t
  intro n ⟨h, hs, q2⟩
  obtain ⟨n', p1, l1, s1, k1, en, z, q⟩ := zinv t rfl rfl rfl q2
  have hL : xsh h[a]? = (t0, kd, L) := by rw [← ha, ← hs.2.2.2.2]; rfl
  simp only [zstep, zstI, zstL, zstH] at z
  split at z <;> (try (cases z)) <;> (next l hh => (rw [hh] at hL; cases hL; exact ⟨n', en, h, hs, q⟩))
/-- an index lies in its row -/
theorem RR.idx {a t0 kd L : Nat} {i : Int32} (hr : RR nf xs d c ini nL rt tab G r h' N (pc, ls, .int i :: .ref a :: st, m, g)) (t : xt tab pc pc' .iaload) (ha : G.2 a = (t0, kd, L)) : 0 ≤ i.toInt ∧ i.toNatClampNeg < L := by
  obtain ⟨t, rfl⟩ := t
  obtain ⟨n, -, h, hs, q2⟩ := hr
  obtain ⟨n', p1, l1, s1, k1, en, z, q⟩ := zinv t rfl rfl rfl q2
  have hL : xsh h[a]? = (t0, kd, L) := by rw [← ha, ← hs.2.2.2.2]; rfl
  simp only [zstep, zstI, zstL, zstH] at z
  split at z
  · next l hh =>
    split at z
    · next qi =>
      rw [hh] at hL
      cases hL
      exact ⟨(xidx qi).2, (xidx qi).1⟩
    · cases z
  · cases z
/-- of things outside -/
theorem s_getfX {j e : Nat} {v : Value} (t : xt tab pc pc' (.getfield j)) (hv : zxgT c j e = some v) : XS nf xs d c ini nL rt tab G r h' (pc, ls, .retAddr e :: st, m, g) (pc', ls, v :: st, m, g) := by
  obtain ⟨t, rfl⟩ := t
  exact xpure t rfl rfl (fun _ => rfl) (fun h s q => by
    have e' : zxget (zXt nf xs) c j e = some v := hv
    simp only [zstep, zstI, zstL, zstH, e'] at q
    cases q
    rfl)
theorem s_ialoadX {e : Nat} {i : Int32} {l : List Int32} (t : xt tab pc pc' .iaload) (hl : zxaT xs e = some (false, l)) : XS nf xs d c ini nL rt tab G r h' (pc, ls, .int i :: .retAddr e :: st, m, g) (pc', ls, .int (l.getD i.toNatClampNeg 0) :: st, m, g) := by
  obtain ⟨t, rfl⟩ := t
  exact xpure t rfl rfl (fun _ => rfl) (fun h s q => by
    have e' : zxarr (zXt nf xs) e = some (false, l) := hl
    simp only [zstep, zstI, zstL, zstH, e'] at q
    split at q
    · cases q; rfl
    · cases q)
theorem s_baloadX {e : Nat} {i : Int32} {l : List Int32} (t : xt tab pc pc' .baload) (hl : zxaT xs e = some (true, l)) : XS nf xs d c ini nL rt tab G r h' (pc, ls, .int i :: .retAddr e :: st, m, g) (pc', ls, .int (l.getD i.toNatClampNeg 0) :: st, m, g) := by
  obtain ⟨t, rfl⟩ := t
  exact xpure t rfl rfl (fun _ => rfl) (fun h s q => by
    have e' : zxarr (zXt nf xs) e = some (true, l) := hl
    simp only [zstep, zstI, zstL, zstH, e'] at q
    split at q
    · cases q; rfl
    · cases q)
theorem s_alenX {e : Nat} {b : Bool} {l : List Int32} (t : xt tab pc pc' .arraylength) (hl : zxaT xs e = some (b, l)) : XS nf xs d c ini nL rt tab G r h' (pc, ls, .retAddr e :: st, m, g) (pc', ls, .int (Int32.ofNat l.length) :: st, m, g) := by
  obtain ⟨t, rfl⟩ := t
  exact xpure t rfl rfl (fun _ => rfl) (fun h s q => by
    have e' : zxarr (zXt nf xs) e = some (b, l) := hl
    simp only [zstep, zstI, zstL, zstH, e'] at q
    cases q
    rfl)
end XI
end
section
/-! Branches, calls, ends. -/
section XI
variable {nf : Bool} {xs : List Int32} {d c : Nat} {ini : Bool} {nL : Nat} {rt : Option FieldType} {tab : Nat → Option (Instr × Nat)} {G : xG} {r : Option Value} {h' : zH} {pc pc' len q : Nat} {ls ls' : zL} {st : List Value} {m : xM} {g : xL} {N : Nat} {off : Int} {x y : Int32}
theorem xbr {X : zX} {i : Instr} {b : Bool} {h : zH} {st1 : List Value} {s : Nat × zL × List Value × zH} (e : zstI X i pc ls st h = zbr b pc off ls st1 h) (e0 : (pc : Int) + off = (q : Int)) (z : zstep X nL ini c i pc ls st h = some s) : s = (if b = true then q else pc + 3, ls, st1, h) := by
  have hz : zbr b pc off ls st1 h = some (if b = true then q else pc + 3, ls, st1, h) := by
    unfold zbr
    rw [e0, if_pos (by omega)]
    split <;> rfl
  unfold zstep at z
  rw [e, hz] at z
  cases z
  rfl
theorem RR.br {cnd : Jvm.ClassFile.Cond} (hr : RR nf xs d c ini nL rt tab G r h' N (pc, ls, .int y :: .int x :: st, m, g)) (t : xtb tab pc pc' q (.if_icmp cnd off) off) : (zicmp cnd x y = true ∧ RR nf xs d c ini nL rt tab G r h' N (q, ls, st, m, g)) ∨ (zicmp cnd x y = false ∧ RR nf xs d c ini nL rt tab G r h' N (pc', ls, st, m, g)) := by
  obtain ⟨t, rfl, e⟩ := t
  obtain ⟨n, hn, h, hs, q2⟩ := hr
  obtain ⟨n', p1, l1, s1, k1, en, z, q⟩ := zinv t rfl rfl rfl q2
  have z := xbr (X := zXt nf xs) (st := .int y :: .int x :: st) rfl e z
  cases hb : zicmp cnd x y with
  | true =>
    rw [hb] at z
    cases z
    exact Or.inl ⟨rfl, n', by omega, h, hs, q⟩
  | false =>
    rw [hb] at z
    cases z
    exact Or.inr ⟨rfl, n', by omega, h, hs, q⟩
theorem RR.bz {cnd : Jvm.ClassFile.Cond} (hr : RR nf xs d c ini nL rt tab G r h' N (pc, ls, .int x :: st, m, g)) (t : xtb tab pc pc' q (.ifCond cnd off) off) : (zicmp cnd x 0 = true ∧ RR nf xs d c ini nL rt tab G r h' N (q, ls, st, m, g)) ∨ (zicmp cnd x 0 = false ∧ RR nf xs d c ini nL rt tab G r h' N (pc', ls, st, m, g)) := by
  obtain ⟨t, rfl, e⟩ := t
  obtain ⟨n, hn, h, hs, q2⟩ := hr
  obtain ⟨n', p1, l1, s1, k1, en, z, q⟩ := zinv t rfl rfl rfl q2
  have z := xbr (X := zXt nf xs) (st := .int x :: st) rfl e z
  cases hb : zicmp cnd x 0 with
  | true =>
    rw [hb] at z
    cases z
    exact Or.inl ⟨rfl, n', by omega, h, hs, q⟩
  | false =>
    rw [hb] at z
    cases z
    exact Or.inr ⟨rfl, n', by omega, h, hs, q⟩
theorem xc_lt : zicmp .lt x y = true → x.toInt < y.toInt := fun h => Int32.lt_iff_toInt_lt.mp (of_decide_eq_true h)
theorem xc_lt' : zicmp .lt x y = false → y.toInt ≤ x.toInt := fun h => Int.not_lt.mp (fun q => of_decide_eq_false h (Int32.lt_iff_toInt_lt.mpr q))
theorem xc_ge : zicmp .ge x y = true → y.toInt ≤ x.toInt := fun h => Int32.le_iff_toInt_le.mp (of_decide_eq_true h)
theorem xc_ge' : zicmp .ge x y = false → x.toInt < y.toInt := fun h => Int.not_le.mp (fun q => of_decide_eq_false h (Int32.le_iff_toInt_le.mpr q))
theorem xc_gt : zicmp .gt x y = true → y.toInt < x.toInt := fun h => Int32.lt_iff_toInt_lt.mp (of_decide_eq_true h)
theorem xc_gt' : zicmp .gt x y = false → x.toInt ≤ y.toInt := fun h => Int.not_lt.mp (fun q => of_decide_eq_false h (Int32.lt_iff_toInt_lt.mpr q))
theorem xc_le : zicmp .le x y = true → x.toInt ≤ y.toInt := fun h => Int32.le_iff_toInt_le.mp (of_decide_eq_true h)
theorem xc_le' : zicmp .le x y = false → y.toInt < x.toInt := fun h => Int.not_le.mp (fun q => of_decide_eq_false h (Int32.le_iff_toInt_le.mpr q))
theorem xc_eq : zicmp .eq x y = true → x = y := fun h => of_decide_eq_true h
theorem xc_eq' : zicmp .eq x y = false → ¬ x = y := fun h => of_decide_eq_false h
theorem xc_ne : zicmp .ne x y = true → ¬ x = y := fun h => of_decide_eq_false (by have h : (!decide (x = y)) = true := h; simpa using h)
theorem xc_ne' : zicmp .ne x y = false → x = y := fun h => of_decide_eq_true (by have h : (!decide (x = y)) = false := h; simpa using h)
theorem x0 : (0 : Int32).toInt = 0 := rfl
theorem RR.bLt (hr : RR nf xs d c ini nL rt tab G r h' N (pc, ls, .int y :: .int x :: st, m, g)) (t : xtb tab pc pc' q (.if_icmp .lt off) off) : (x.toInt < y.toInt ∧ RR nf xs d c ini nL rt tab G r h' N (q, ls, st, m, g)) ∨ (y.toInt ≤ x.toInt ∧ RR nf xs d c ini nL rt tab G r h' N (pc', ls, st, m, g)) := (hr.br t).imp (fun a => ⟨xc_lt a.1, a.2⟩) (fun a => ⟨xc_lt' a.1, a.2⟩)
theorem RR.bGe (hr : RR nf xs d c ini nL rt tab G r h' N (pc, ls, .int y :: .int x :: st, m, g)) (t : xtb tab pc pc' q (.if_icmp .ge off) off) : (y.toInt ≤ x.toInt ∧ RR nf xs d c ini nL rt tab G r h' N (q, ls, st, m, g)) ∨ (x.toInt < y.toInt ∧ RR nf xs d c ini nL rt tab G r h' N (pc', ls, st, m, g)) := (hr.br t).imp (fun a => ⟨xc_ge a.1, a.2⟩) (fun a => ⟨xc_ge' a.1, a.2⟩)
theorem RR.bGt (hr : RR nf xs d c ini nL rt tab G r h' N (pc, ls, .int y :: .int x :: st, m, g)) (t : xtb tab pc pc' q (.if_icmp .gt off) off) : (y.toInt < x.toInt ∧ RR nf xs d c ini nL rt tab G r h' N (q, ls, st, m, g)) ∨ (x.toInt ≤ y.toInt ∧ RR nf xs d c ini nL rt tab G r h' N (pc', ls, st, m, g)) := (hr.br t).imp (fun a => ⟨xc_gt a.1, a.2⟩) (fun a => ⟨xc_gt' a.1, a.2⟩)
theorem RR.bLe (hr : RR nf xs d c ini nL rt tab G r h' N (pc, ls, .int y :: .int x :: st, m, g)) (t : xtb tab pc pc' q (.if_icmp .le off) off) : (x.toInt ≤ y.toInt ∧ RR nf xs d c ini nL rt tab G r h' N (q, ls, st, m, g)) ∨ (y.toInt < x.toInt ∧ RR nf xs d c ini nL rt tab G r h' N (pc', ls, st, m, g)) := (hr.br t).imp (fun a => ⟨xc_le a.1, a.2⟩) (fun a => ⟨xc_le' a.1, a.2⟩)
theorem RR.bEq (hr : RR nf xs d c ini nL rt tab G r h' N (pc, ls, .int y :: .int x :: st, m, g)) (t : xtb tab pc pc' q (.if_icmp .eq off) off) : (x = y ∧ RR nf xs d c ini nL rt tab G r h' N (q, ls, st, m, g)) ∨ (¬ x = y ∧ RR nf xs d c ini nL rt tab G r h' N (pc', ls, st, m, g)) := (hr.br t).imp (fun a => ⟨xc_eq a.1, a.2⟩) (fun a => ⟨xc_eq' a.1, a.2⟩)
theorem RR.bNe (hr : RR nf xs d c ini nL rt tab G r h' N (pc, ls, .int y :: .int x :: st, m, g)) (t : xtb tab pc pc' q (.if_icmp .ne off) off) : (¬ x = y ∧ RR nf xs d c ini nL rt tab G r h' N (q, ls, st, m, g)) ∨ (x = y ∧ RR nf xs d c ini nL rt tab G r h' N (pc', ls, st, m, g)) := (hr.br t).imp (fun a => ⟨xc_ne a.1, a.2⟩) (fun a => ⟨xc_ne' a.1, a.2⟩)
theorem RR.zLt (hr : RR nf xs d c ini nL rt tab G r h' N (pc, ls, .int x :: st, m, g)) (t : xtb tab pc pc' q (.ifCond .lt off) off) : (x.toInt < 0 ∧ RR nf xs d c ini nL rt tab G r h' N (q, ls, st, m, g)) ∨ (0 ≤ x.toInt ∧ RR nf xs d c ini nL rt tab G r h' N (pc', ls, st, m, g)) := (hr.bz t).imp (fun a => ⟨x0 ▸ xc_lt (x := x) (y := 0) a.1, a.2⟩) (fun a => ⟨x0 ▸ xc_lt' (x := x) (y := 0) a.1, a.2⟩)
theorem RR.zGe (hr : RR nf xs d c ini nL rt tab G r h' N (pc, ls, .int x :: st, m, g)) (t : xtb tab pc pc' q (.ifCond .ge off) off) : (0 ≤ x.toInt ∧ RR nf xs d c ini nL rt tab G r h' N (q, ls, st, m, g)) ∨ (x.toInt < 0 ∧ RR nf xs d c ini nL rt tab G r h' N (pc', ls, st, m, g)) := (hr.bz t).imp (fun a => ⟨x0 ▸ xc_ge (x := x) (y := 0) a.1, a.2⟩) (fun a => ⟨x0 ▸ xc_ge' (x := x) (y := 0) a.1, a.2⟩)
theorem RR.zGt (hr : RR nf xs d c ini nL rt tab G r h' N (pc, ls, .int x :: st, m, g)) (t : xtb tab pc pc' q (.ifCond .gt off) off) : (0 < x.toInt ∧ RR nf xs d c ini nL rt tab G r h' N (q, ls, st, m, g)) ∨ (x.toInt ≤ 0 ∧ RR nf xs d c ini nL rt tab G r h' N (pc', ls, st, m, g)) := (hr.bz t).imp (fun a => ⟨x0 ▸ xc_gt (x := x) (y := 0) a.1, a.2⟩) (fun a => ⟨x0 ▸ xc_gt' (x := x) (y := 0) a.1, a.2⟩)
theorem RR.zLe (hr : RR nf xs d c ini nL rt tab G r h' N (pc, ls, .int x :: st, m, g)) (t : xtb tab pc pc' q (.ifCond .le off) off) : (x.toInt ≤ 0 ∧ RR nf xs d c ini nL rt tab G r h' N (q, ls, st, m, g)) ∨ (0 < x.toInt ∧ RR nf xs d c ini nL rt tab G r h' N (pc', ls, st, m, g)) := (hr.bz t).imp (fun a => ⟨x0 ▸ xc_le (x := x) (y := 0) a.1, a.2⟩) (fun a => ⟨x0 ▸ xc_le' (x := x) (y := 0) a.1, a.2⟩)
theorem RR.zEq (hr : RR nf xs d c ini nL rt tab G r h' N (pc, ls, .int x :: st, m, g)) (t : xtb tab pc pc' q (.ifCond .eq off) off) : (x = 0 ∧ RR nf xs d c ini nL rt tab G r h' N (q, ls, st, m, g)) ∨ (¬ x = 0 ∧ RR nf xs d c ini nL rt tab G r h' N (pc', ls, st, m, g)) := (hr.bz t).imp (fun a => ⟨xc_eq a.1, a.2⟩) (fun a => ⟨xc_eq' a.1, a.2⟩)
theorem RR.zNe (hr : RR nf xs d c ini nL rt tab G r h' N (pc, ls, .int x :: st, m, g)) (t : xtb tab pc pc' q (.ifCond .ne off) off) : (¬ x = 0 ∧ RR nf xs d c ini nL rt tab G r h' N (q, ls, st, m, g)) ∨ (x = 0 ∧ RR nf xs d c ini nL rt tab G r h' N (pc', ls, st, m, g)) := (hr.bz t).imp (fun a => ⟨xc_ne a.1, a.2⟩) (fun a => ⟨xc_ne' a.1, a.2⟩)
theorem s_lookup {df : Int} {ps : Array (Int × Int)} (t : tab pc = some (.lookupswitch df ps, len)) (e : (pc : Int) + Op.lookupswitch.offset ps.toList df x.toInt = (q : Int)) : XS nf xs d c ini nL rt tab G r h' (pc, ls, .int x :: st, m, g) (q, ls, st, m, g) := by
  exact xpure t rfl rfl (fun _ => rfl) (fun h s z => by
    unfold zstep zstI at z
    dsimp only at z
    split at z
    · next hz =>
      split at hz
      · unfold zjump at hz
        rw [e, if_pos (by omega)] at hz
        cases hz
        cases z
        rfl
      · cases hz
    · next hz =>
      cases z)
theorem s_tswitch {df lo hi : Int} {offs : Array Int} (t : tab pc = some (.tableswitch df lo hi offs, len)) (h0 : lo ≤ x.toInt) (h1 : x.toInt ≤ hi) (e : offs[(x.toInt - lo).toNat]? = some off) (e2 : (pc : Int) + off = (q : Int)) : XS nf xs d c ini nL rt tab G r h' (pc, ls, .int x :: st, m, g) (q, ls, st, m, g) := by
  exact xpure t rfl rfl (fun _ => rfl) (fun h s z => by
    unfold zstep zstI at z
    dsimp only at z
    rw [if_neg (by omega), e] at z
    dsimp only at z
    unfold zjump at z
    rw [e2, if_pos (by omega)] at z
    cases z
    rfl)
theorem s_tswitchD {df lo hi : Int} {offs : Array Int} (t : tab pc = some (.tableswitch df lo hi offs, len)) (h0 : x.toInt < lo ∨ hi < x.toInt) (e2 : (pc : Int) + df = (q : Int)) : XS nf xs d c ini nL rt tab G r h' (pc, ls, .int x :: st, m, g) (q, ls, st, m, g) := by
  exact xpure t rfl rfl (fun _ => rfl) (fun h s z => by
    unfold zstep zstI at z
    dsimp only at z
    rw [if_pos h0] at z
    unfold zjump at z
    rw [e2, if_pos (by omega)] at z
    cases z
    rfl)
/-- what a method does -/
def CT (nf : Bool) (xs : List Int32) (d mi : Nat) (as : List Value) (m : xM) (g : xL) (G : xG) (P : Option Value → xM → xL → Prop) : Prop := ∀ (h : zH) (r : Option Value) (h' : zH), HS h m g G → zEv (zXt nf xs) zIT zmcl zMt d mi as h r h' → ∃ (m' : xM) (g' : xL), HS h' m' g' G ∧ P r m' g'
theorem zinvC {i : Instr} {n : Nat} {h : zH} (t : tab pc = some (i, len)) (h1 : zret rt i st = none) (h2 : zobjI zIT c i st = none) (h3 : zstep (zXt nf xs) nL ini c i pc ls st h = none) (q : zRun (zXt nf xs) zIT zmcl (zEv (zXt nf xs) zIT zmcl zMt d) c ini nL rt tab n pc ls st h r h') : ∃ (n' mi : Nat) (as rest : List Value) (r1 : Option Value) (k1 : zH), n = n' + 1 ∧ zcall (zXt nf xs) zIT zmcl c i st h = some (mi, as, rest) ∧ zEv (zXt nf xs) zIT zmcl zMt d mi as h r1 k1 ∧ zRun (zXt nf xs) zIT zmcl (zEv (zXt nf xs) zIT zmcl zMt d) c ini nL rt tab n' (pc + 3) ls (r1.toList ++ rest) k1 r h' := by
  cases n with
  | zero => exact q.elim
  | succ n =>
    obtain ⟨i', len', t', q⟩ := q
    rw [t] at t'
    cases t'
    rcases q with ⟨q, -⟩ | ⟨pc1, ls1, st1, k1, q1, q2⟩ | ⟨rest, q, -⟩ | ⟨mi, as, rest, r1, k1, q, q1, q2⟩
    · rw [h1] at q; cases q
    · rw [h3] at q1; cases q1
    · rw [h2] at q; cases q
    · exact ⟨n, mi, as, rest, r1, k1, rfl, q, q1, q2⟩
theorem RR.callv {j mi n b : Nat} {vs rest : List Value} {P : Option Value → xM → xL → Prop} (hr : RR nf xs d c ini nL rt tab G r h' N (pc, ls, st, m, g)) (t : xtc tab c pc pc' (.invokevirtual j) j 1 mi n) (e1 : st.drop n = .ref b :: rest) (e2 : (st.take n).reverse = vs) (hc : CT nf xs d mi (.ref b :: vs) m g G P) : ∃ (r1 : Option Value) (m1 : xM) (g1 : xL), P r1 m1 g1 ∧ RR nf xs d c ini nL rt tab G r h' N (pc', ls, r1.toList ++ rest, m1, g1) := by
  obtain ⟨t, rfl, e⟩ := t
  obtain ⟨n0, hn, h, hs, q2⟩ := hr
  obtain ⟨n', mi', as, rest', r1, k1, en, z, q3, q⟩ := zinvC t rfl rfl rfl q2
  simp only [zcall, e, e1, e2] at z
  split at z
  · split at z
    · cases z
      obtain ⟨m1, g1, k2, k3⟩ := hc h r1 k1 hs q3
      exact ⟨r1, m1, g1, k3, n', by omega, k1, k2, q⟩
    · cases z
  · cases z
theorem RR.callX {j mi n b : Nat} {vs rest : List Value} {P : Option Value → xM → xL → Prop} (hr : RR nf xs d c ini nL rt tab G r h' N (pc, ls, st, m, g)) (t : xtc tab c pc pc' (.invokevirtual j) j 1 mi n) (e1 : st.drop n = .retAddr b :: rest) (e2 : (st.take n).reverse = vs) (hc : CT nf xs d mi (.retAddr b :: vs) m g G P) : ∃ (r1 : Option Value) (m1 : xM) (g1 : xL), P r1 m1 g1 ∧ RR nf xs d c ini nL rt tab G r h' N (pc', ls, r1.toList ++ rest, m1, g1) := by
  obtain ⟨t, rfl, e⟩ := t
  obtain ⟨n0, hn, h, hs, q2⟩ := hr
  obtain ⟨n', mi', as, rest', r1, k1, en, z, q3, q⟩ := zinvC t rfl rfl rfl q2
  simp only [zcall, e, e1, e2] at z
  split at z
  · cases z
    obtain ⟨m1, g1, k2, k3⟩ := hc h r1 k1 hs q3
    exact ⟨r1, m1, g1, k3, n', by omega, k1, k2, q⟩
  · cases z
theorem xno_static {j mi n kd : Nat} (e : zIT c j = some (kd, mi, n)) (hk : kd = 2) : zobjI zIT c (.invokestatic j) st = none := by
  subst hk
  simp only [zobjI, e]
theorem RR.calls {j mi n : Nat} {vs rest : List Value} {P : Option Value → xM → xL → Prop} (hr : RR nf xs d c ini nL rt tab G r h' N (pc, ls, st, m, g)) (t : xtc tab c pc pc' (.invokestatic j) j 2 mi n) (e1 : st.drop n = rest) (e2 : (st.take n).reverse = vs) (hc : CT nf xs d mi vs m g G P) : ∃ (r1 : Option Value) (m1 : xM) (g1 : xL), P r1 m1 g1 ∧ RR nf xs d c ini nL rt tab G r h' N (pc', ls, r1.toList ++ rest, m1, g1) := by
  obtain ⟨t, rfl, e⟩ := t
  obtain ⟨n0, hn, h, hs, q2⟩ := hr
  obtain ⟨n', mi', as, rest', r1, k1, en, z, q3, q⟩ := zinvC t rfl (xno_static e rfl) rfl q2
  simp only [zcall, e, e1, e2] at z
  split at z
  · cases z
    obtain ⟨m1, g1, k2, k3⟩ := hc h r1 k1 hs q3
    exact ⟨r1, m1, g1, k3, n', by omega, k1, k2, q⟩
  · cases z
theorem zinvR {i : Instr} {n : Nat} {h : zH} (t : tab pc = some (i, len)) (h2 : zobjI zIT c i st = none) (h3 : zcall (zXt nf xs) zIT zmcl c i st h = none) (h4 : zstep (zXt nf xs) nL ini c i pc ls st h = none) (q : zRun (zXt nf xs) zIT zmcl (zEv (zXt nf xs) zIT zmcl zMt d) c ini nL rt tab n pc ls st h r h') : zret rt i st = some r ∧ h' = h := by
  cases n with
  | zero => exact q.elim
  | succ n =>
    obtain ⟨i', len', t', q⟩ := q
    rw [t] at t'
    cases t'
    rcases q with q | ⟨pc1, ls1, st1, k1, q1, q2⟩ | ⟨rest, q, -⟩ | ⟨mi, as, rest, r1, k1, q, q1, q2⟩
    · exact q
    · rw [h4] at q1; cases q1
    · rw [h2] at q; cases q
    · rw [h3] at q; cases q
theorem zret_i {v : Option Value} (z : zret rt .ireturn [.int x] = some v) : v = some (.int x) := by
  cases rt with
  | none => cases z
  | some ty =>
    have z : (if narrow ty (.int x) = .int x then some (some (.int x)) else none) = some v := z
    split at z
    · cases z; rfl
    · cases z
theorem zret_v {v : Option Value} (z : zret rt .return_ [] = some v) : v = none := by
  cases rt with
  | none => cases z; rfl
  | some ty => cases z
theorem zret_a {v : Option Value} {a : Nat} (z : zret rt .areturn [.ref a] = some v) : v = some (.ref a) := by
  cases rt with
  | none => cases z
  | some ty => cases ty <;> first | (cases z; rfl) | cases z
theorem RR.iret (hr : RR nf xs d c ini nL rt tab G r h' N (pc, ls, [.int x], m, g)) (t : xt tab pc pc' .ireturn) : r = some (.int x) ∧ HS h' m g G := by
  obtain ⟨t, -⟩ := t
  obtain ⟨n, hn, h, hs, q2⟩ := hr
  obtain ⟨z, rfl⟩ := zinvR t rfl rfl rfl q2
  exact ⟨zret_i z, hs⟩
theorem RR.ret (hr : RR nf xs d c ini nL rt tab G r h' N (pc, ls, [], m, g)) (t : xt tab pc pc' .return_) : r = none ∧ HS h' m g G := by
  obtain ⟨t, -⟩ := t
  obtain ⟨n, hn, h, hs, q2⟩ := hr
  obtain ⟨z, rfl⟩ := zinvR t rfl rfl rfl q2
  exact ⟨zret_v z, hs⟩
theorem RR.aret {a : Nat} (hr : RR nf xs d c ini nL rt tab G r h' N (pc, ls, [.ref a], m, g)) (t : xt tab pc pc' .areturn) : r = some (.ref a) ∧ HS h' m g G := by
  obtain ⟨t, -⟩ := t
  obtain ⟨n, hn, h, hs, q2⟩ := hr
  obtain ⟨z, rfl⟩ := zinvR t rfl rfl rfl q2
  exact ⟨zret_a z, hs⟩
theorem CT.of {mi : Nat} {as : List Value} {P : Option Value → xM → xL → Prop} (mt : zMt mi = some (c, ini, nL, rt, tab)) (hb : ∀ (d' : Nat) (r : Option Value) (h' : zH) (N : Nat), d = d' + 1 → RR nf xs d' c ini nL rt tab G r h' N (0, lv_args 0 as, [], m, g) → ∃ (m' : xM) (g' : xL), HS h' m' g' G ∧ P r m' g') : CT nf xs d mi as m g G P := by
  intro h r h' hs q
  cases d with
  | zero => exact q.elim
  | succ d =>
    obtain ⟨c1, ini1, nL1, rt1, tab1, n, e, -, q⟩ := q
    rw [mt] at e
    cases e
    exact hb d r h' (n + 1) rfl ⟨n, by omega, h, hs, q⟩
theorem CT.mono {mi : Nat} {as : List Value} {P Q : Option Value → xM → xL → Prop} (hc : CT nf xs d mi as m g G P) (hq : ∀ r m' g', P r m' g' → Q r m' g') : CT nf xs d mi as m g G Q := by
  intro h r h' hs q
  obtain ⟨m', g', k1, k2⟩ := hc h r h' hs q
  exact ⟨m', g', k1, hq _ _ _ k2⟩
end XI
end
section
/-! Constants, Math, calls whose end is known outright. -/
section XI
variable {nf : Bool} {xs : List Int32} {d c : Nat} {ini : Bool} {nL : Nat} {rt : Option FieldType} {tab : Nat → Option (Instr × Nat)} {G : xG} {r : Option Value} {h' : zH} {pc pc' len q : Nat} {ls ls' : zL} {st : List Value} {m m1 : xM} {g g1 : xL} {N : Nat} {off : Int} {x y : Int32}
def xtk (tab : Nat → Option (Instr × Nat)) (pc pc' : Nat) (x : Int32) : Prop := (∃ n : Int, xt tab pc pc' (.iconst n) ∧ Int32.ofInt n = x) ∨ (∃ n : Int, xt tab pc pc' (.bipush n) ∧ (Int8.ofInt n).toInt32 = x) ∨ (∃ n : Int, xt tab pc pc' (.sipush n) ∧ (Int16.ofInt n).toInt32 = x)
theorem s_k (t : xtk tab pc pc' x) : XS nf xs d c ini nL rt tab G r h' (pc, ls, st, m, g) (pc', ls, .int x :: st, m, g) := by
  rcases t with ⟨n, t, rfl⟩ | ⟨n, t, rfl⟩ | ⟨n, t, rfl⟩
  · exact s_iconst t
  · exact s_bipush t
  · exact s_sipush t
theorem s_i2l (t : xt tab pc pc' .i2l) : XS nf xs d c ini nL rt tab G r h' (pc, ls, .int x :: st, m, g) (pc', ls, .long x.toInt64 :: st, m, g) := by
  obtain ⟨t, rfl⟩ := t
  exact xpure t rfl rfl (fun _ => rfl) (fun h s q => by cases q; rfl)
theorem s_l2i {x : Int64} (t : xt tab pc pc' .l2i) : XS nf xs d c ini nL rt tab G r h' (pc, ls, .long x :: st, m, g) (pc', ls, .int x.toInt32 :: st, m, g) := by
  obtain ⟨t, rfl⟩ := t
  exact xpure t rfl rfl (fun _ => rfl) (fun h s q => by cases q; rfl)
theorem zinvO {i : Instr} {n : Nat} {h : zH} (t : tab pc = some (i, len)) (h1 : zret rt i st = none) (h2 : zcall (zXt nf xs) zIT zmcl c i st h = none) (h3 : zstep (zXt nf xs) nL ini c i pc ls st h = none) (q : zRun (zXt nf xs) zIT zmcl (zEv (zXt nf xs) zIT zmcl zMt d) c ini nL rt tab n pc ls st h r h') : ∃ (n' : Nat) (rest : List Value), n = n' + 1 ∧ zobjI zIT c i st = some rest ∧ zRun (zXt nf xs) zIT zmcl (zEv (zXt nf xs) zIT zmcl zMt d) c ini nL rt tab n' (pc + 3) ls rest h r h' := by
  cases n with
  | zero => exact q.elim
  | succ n =>
    obtain ⟨i', len', t', q⟩ := q
    rw [t] at t'
    cases t'
    rcases q with ⟨q, -⟩ | ⟨pc1, ls1, st1, k1, q1, q2⟩ | ⟨rest, q, q1⟩ | ⟨mi, as, rest, r1, k1, q, q1, q2⟩
    · rw [h1] at q; cases q
    · rw [h3] at q1; cases q1
    · exact ⟨n, rest, rfl, q, q1⟩
    · rw [h2] at q; cases q
theorem s_math5 {j a b : Nat} (t : xtc tab c pc pc' (.invokestatic j) j 5 a b) : XS nf xs d c ini nL rt tab G r h' (pc, ls, .int y :: .int x :: st, m, g) (pc', ls, .int (if x < y then y else x) :: st, m, g) := by
  obtain ⟨t, rfl, e⟩ := t
  intro n ⟨h, hs, q2⟩
  obtain ⟨n', rest, en, z, q⟩ := zinvO t rfl (by simp only [zcall, e]) rfl q2
  simp only [zobjI, e] at z
  split at z
  · cases z; exact ⟨n', en, h, hs, q⟩
  · cases z
theorem s_math6 {j a b : Nat} (t : xtc tab c pc pc' (.invokestatic j) j 6 a b) : XS nf xs d c ini nL rt tab G r h' (pc, ls, .int y :: .int x :: st, m, g) (pc', ls, .int (if y < x then y else x) :: st, m, g) := by
  obtain ⟨t, rfl, e⟩ := t
  intro n ⟨h, hs, q2⟩
  obtain ⟨n', rest, en, z, q⟩ := zinvO t rfl (by simp only [zcall, e]) rfl q2
  simp only [zobjI, e] at z
  split at z
  · cases z; exact ⟨n', en, h, hs, q⟩
  · cases z
/-- an end that is known outright -/
def PE (v : Option Value) (m1 : xM) (g1 : xL) : Option Value → xM → xL → Prop := fun r m' g' => r = v ∧ m' = m1 ∧ g' = g1
theorem RR.cvI {j mi n b : Nat} {vs rest : List Value} {v : Value} (hr : RR nf xs d c ini nL rt tab G r h' N (pc, ls, st, m, g)) (t : xtc tab c pc pc' (.invokevirtual j) j 1 mi n) (e1 : st.drop n = .ref b :: rest) (e2 : (st.take n).reverse = vs) (hc : CT nf xs d mi (.ref b :: vs) m g G (PE (some v) m1 g1)) : RR nf xs d c ini nL rt tab G r h' N (pc', ls, v :: rest, m1, g1) := by
  obtain ⟨_, _, _, ⟨rfl, rfl, rfl⟩, q⟩ := hr.callv t e1 e2 hc
  exact q
theorem RR.cvN {j mi n b : Nat} {vs rest : List Value} (hr : RR nf xs d c ini nL rt tab G r h' N (pc, ls, st, m, g)) (t : xtc tab c pc pc' (.invokevirtual j) j 1 mi n) (e1 : st.drop n = .ref b :: rest) (e2 : (st.take n).reverse = vs) (hc : CT nf xs d mi (.ref b :: vs) m g G (PE none m1 g1)) : RR nf xs d c ini nL rt tab G r h' N (pc', ls, rest, m1, g1) := by
  obtain ⟨_, _, _, ⟨rfl, rfl, rfl⟩, q⟩ := hr.callv t e1 e2 hc
  exact q
theorem RR.cXI {j mi n b : Nat} {vs rest : List Value} {v : Value} (hr : RR nf xs d c ini nL rt tab G r h' N (pc, ls, st, m, g)) (t : xtc tab c pc pc' (.invokevirtual j) j 1 mi n) (e1 : st.drop n = .retAddr b :: rest) (e2 : (st.take n).reverse = vs) (hc : CT nf xs d mi (.retAddr b :: vs) m g G (PE (some v) m1 g1)) : RR nf xs d c ini nL rt tab G r h' N (pc', ls, v :: rest, m1, g1) := by
  obtain ⟨_, _, _, ⟨rfl, rfl, rfl⟩, q⟩ := hr.callX t e1 e2 hc
  exact q
theorem RR.csI {j mi n : Nat} {vs rest : List Value} {v : Value} (hr : RR nf xs d c ini nL rt tab G r h' N (pc, ls, st, m, g)) (t : xtc tab c pc pc' (.invokestatic j) j 2 mi n) (e1 : st.drop n = rest) (e2 : (st.take n).reverse = vs) (hc : CT nf xs d mi vs m g G (PE (some v) m1 g1)) : RR nf xs d c ini nL rt tab G r h' N (pc', ls, v :: rest, m1, g1) := by
  obtain ⟨_, _, _, ⟨rfl, rfl, rfl⟩, q⟩ := hr.calls t e1 e2 hc
  exact q
theorem RR.csN {j mi n : Nat} {vs rest : List Value} (hr : RR nf xs d c ini nL rt tab G r h' N (pc, ls, st, m, g)) (t : xtc tab c pc pc' (.invokestatic j) j 2 mi n) (e1 : st.drop n = rest) (e2 : (st.take n).reverse = vs) (hc : CT nf xs d mi vs m g G (PE none m1 g1)) : RR nf xs d c ini nL rt tab G r h' N (pc', ls, rest, m1, g1) := by
  obtain ⟨_, _, _, ⟨rfl, rfl, rfl⟩, q⟩ := hr.calls t e1 e2 hc
  exact q

end XI
end
section
theorem xn_int {p : Nat} (h : p < 2147483648) : (Int32.ofNat p).toInt = (p : Int) := Int32.toInt_ofNat_of_lt h
theorem xn_nat {p : Nat} (h : p < 2147483648) : (Int32.ofNat p).toNatClampNeg = p := by
  rw [Int32.toNatClampNeg, xn_int h]; rfl
theorem xn_add {p k : Nat} : Int32.ofNat p + Int32.ofNat k = Int32.ofNat (p + k) := (Int32.ofNat_add p k).symm
theorem xn_1 {p : Nat} : Int32.ofNat p + 1 = Int32.ofNat (p + 1) := (Int32.ofNat_add p 1).symm
theorem xn_of {x : Int32} (h : 0 ≤ x.toInt) : x = Int32.ofNat x.toNatClampNeg := by
  apply Int32.toInt_inj.mp
  have h2 := Int32.toInt_lt x
  rw [xn_int (by rw [Int32.toNatClampNeg]; omega), Int32.toNatClampNeg]
  omega
theorem xu_same {α : Type} {m : Nat → Nat → α} {a k : Nat} {x : α} : xu m a k x a k = x := by unfold xu; rw [if_pos ⟨rfl, rfl⟩]
theorem xu_oth {α : Type} {m : Nat → Nat → α} {a k b j : Nat} {x : α} (h : ¬ (b = a ∧ j = k)) : xu m a k x b j = m b j := by unfold xu; rw [if_neg h]
theorem xu_xu {α : Type} {m : Nat → Nat → α} {a k : Nat} {x y : α} : xu (xu m a k x) a k y = xu m a k y := by
  funext b j
  unfold xu
  split <;> rfl
theorem xu_id {α : Type} {m : Nat → Nat → α} {a k : Nat} {x : α} (h : m a k = x) : xu m a k x = m := by
  funext b j
  unfold xu
  split
  · next q => rw [q.1, q.2, h]
  · rfl
theorem xu_comm {α : Type} {m : Nat → Nat → α} {a k b j : Nat} {x y : α} (h : ¬ (b = a ∧ j = k)) : xu (xu m a k x) b j y = xu (xu m b j y) a k x := by
  funext c i
  unfold xu
  by_cases h1 : c = b ∧ i = j
  · by_cases h2 : c = a ∧ i = k
    · exact absurd ⟨h1.1.symm.trans h2.1, h1.2.symm.trans h2.2⟩ h
    · rw [if_pos h1, if_neg h2, if_pos h1]
  · rw [if_neg h1, if_neg h1]
/-- along a row as long as what stands there is such -/
def itr {σ : Type} (q : Int32 → Bool) (f : σ → Int32 → σ) (b : Nat → Int32) (n : Nat) : Nat → Nat → σ → Nat × σ
  | 0, p, s => (p, s)
  | k + 1, p, s => bif (Nat.blt p n && q (b p)) then itr q f b n k (p + 1) (f s (b p)) else (p, s)
def scn {σ : Type} (q : Int32 → Bool) (f : σ → Int32 → σ) (b : Nat → Int32) (n p : Nat) (s : σ) : Nat × σ := itr q f b n (n - p) p s
theorem scn_t {σ : Type} {q : Int32 → Bool} {f : σ → Int32 → σ} {b : Nat → Int32} {n p : Nat} {s : σ} (h : p < n) (hq : q (b p) = true) : scn q f b n p s = scn q f b n (p + 1) (f s (b p)) := by
  unfold scn
  rw [show n - p = (n - (p + 1)) + 1 by omega]
  have : Nat.blt p n = true := Nat.ble_eq_true_of_le h
  show (bif (Nat.blt p n && q (b p)) then _ else _) = _
  rw [this, hq]
  rfl
theorem scn_f {σ : Type} {q : Int32 → Bool} {f : σ → Int32 → σ} {b : Nat → Int32} {n p : Nat} {s : σ} (h : p < n → q (b p) = false) : scn q f b n p s = (p, s) := by
  unfold scn
  by_cases hp : p < n
  · rw [show n - p = (n - (p + 1)) + 1 by omega]
    show (bif (Nat.blt p n && q (b p)) then _ else _) = _
    rw [h hp, Bool.and_false]
    rfl
  · rw [show n - p = 0 by omega]
    rfl
theorem scn_le {σ : Type} {q : Int32 → Bool} {f : σ → Int32 → σ} {b : Nat → Int32} {n : Nat} : ∀ (k p : Nat) (s : σ), n - p = k → p ≤ n → p ≤ (scn q f b n p s).1 ∧ (scn q f b n p s).1 ≤ n ∧ ((scn q f b n p s).1 < n → q (b (scn q f b n p s).1) = false) ∧ (∀ j : Nat, p ≤ j → j < (scn q f b n p s).1 → q (b j) = true) := by
  intro k
  induction k with
  | zero =>
    intro p s hk hp
    rw [scn_f (fun h => by omega)]
    exact ⟨Nat.le_refl _, hp, fun h => absurd h (by dsimp only; omega), fun j h1 h2 => absurd h2 (by dsimp only; omega)⟩
  | succ k ih =>
    intro p s hk hp
    cases hq : q (b p) with
    | true =>
      rw [scn_t (by omega) hq]
      obtain ⟨h1, h2, h3, h4⟩ := ih (p + 1) (f s (b p)) (by omega) (by omega)
      refine ⟨by omega, h2, h3, fun j j1 j2 => ?_⟩
      rcases Nat.lt_or_ge p j with q1 | q1
      · exact h4 j q1 j2
      · rw [show j = p by omega]; exact hq
    | false =>
      rw [scn_f (fun _ => hq)]
      exact ⟨Nat.le_refl _, hp, fun _ => hq, fun j h1 h2 => absurd h2 (by dsimp only; omega)⟩
def bI (b : Bool) : Int32 := bif b then 1 else 0
def blk (x : Int32) : Bool := decide (x = 10) || decide (x = 32)
def ltr (x : Int32) : Bool := decide (97 ≤ x.toInt) && decide (x.toInt ≤ 122)
def dgt (x : Int32) : Bool := decide (48 ≤ x.toInt) && decide (x.toInt ≤ 57)
theorem ltr_t {x : Int32} (h : 97 ≤ x.toInt ∧ x.toInt ≤ 122) : ltr x = true := by unfold ltr; rw [decide_eq_true h.1, decide_eq_true h.2]; rfl
theorem ltr_f {x : Int32} (h : ¬ (97 ≤ x.toInt ∧ x.toInt ≤ 122)) : ltr x = false := by
  unfold ltr
  by_cases h1 : 97 ≤ x.toInt
  · rw [decide_eq_false (p := x.toInt ≤ 122) (fun q => h ⟨h1, q⟩), Bool.and_false]
  · rw [decide_eq_false h1, Bool.false_and]
theorem ltr_i {x : Int32} (h : ltr x = true) : 97 ≤ x.toInt ∧ x.toInt ≤ 122 := Decidable.byContradiction (fun q => by rw [ltr_f q] at h; cases h)
theorem dgt_t {x : Int32} (h : 48 ≤ x.toInt ∧ x.toInt ≤ 57) : dgt x = true := by unfold dgt; rw [decide_eq_true h.1, decide_eq_true h.2]; rfl
theorem dgt_f {x : Int32} (h : ¬ (48 ≤ x.toInt ∧ x.toInt ≤ 57)) : dgt x = false := by
  unfold dgt
  by_cases h1 : 48 ≤ x.toInt
  · rw [decide_eq_false (p := x.toInt ≤ 57) (fun q => h ⟨h1, q⟩), Bool.and_false]
  · rw [decide_eq_false h1, Bool.false_and]
theorem dgt_i {x : Int32} (h : dgt x = true) : 48 ≤ x.toInt ∧ x.toInt ≤ 57 := Decidable.byContradiction (fun q => by rw [dgt_f q] at h; cases h)
theorem blk_t {x : Int32} (h : x = 10 ∨ x = 32) : blk x = true := by
  rcases h with rfl | rfl <;> decide
theorem blk_f {x : Int32} (h1 : ¬ x = 10) (h2 : ¬ x = 32) : blk x = false := by unfold blk; rw [decide_eq_false h1, decide_eq_false h2]; rfl
theorem bI_0 {b : Bool} (h : bI b = 0) : b = false := by cases b; rfl; exact absurd h (by decide)
theorem bI_1 {b : Bool} (h : ¬ bI b = 0) : b = true := by cases b; exact absurd rfl h; rfl
end
section
/-! The class Scanner: its instructions. -/
theorem t73_0 : xt zt73 0 1 (.aload_n 0) := ⟨rfl, rfl⟩
theorem t73_1 : xt zt73 1 2 (.aload_n 1) := ⟨rfl, rfl⟩
theorem t73_2 : xtf zt73 6 2 5 (.putfield 15) 15 6 1 3 := ⟨rfl, rfl, rfl, rfl⟩
theorem t73_5 : xt zt73 5 6 (.aload_n 0) := ⟨rfl, rfl⟩
theorem t73_6 : xtk zt73 6 7 (0) := Or.inl ⟨0, ⟨rfl, rfl⟩, by decide⟩
theorem t73_7 : xt zt73 7 8 (.iload_n 2) := ⟨rfl, rfl⟩
theorem t73_8 : xt zt73 8 9 (.aload_n 1) := ⟨rfl, rfl⟩
theorem t73_9 : xt zt73 9 10 .arraylength := ⟨rfl, rfl⟩
theorem t73_10 : xtc zt73 6 10 13 (.invokestatic 45) 45 6 0 0 := ⟨rfl, rfl, rfl⟩
theorem t73_13 : xtc zt73 6 13 16 (.invokestatic 51) 51 5 0 0 := ⟨rfl, rfl, rfl⟩
theorem t73_16 : xtf zt73 6 16 19 (.putfield 18) 18 6 2 1 := ⟨rfl, rfl, rfl, rfl⟩
theorem t73_19 : xt zt73 19 20 (.aload_n 0) := ⟨rfl, rfl⟩
theorem t73_20 : xtk zt73 20 21 (0) := Or.inl ⟨0, ⟨rfl, rfl⟩, by decide⟩
theorem t73_21 : xtf zt73 6 21 24 (.putfield 22) 22 6 3 1 := ⟨rfl, rfl, rfl, rfl⟩
theorem t73_24 : xt zt73 24 25 (.aload_n 0) := ⟨rfl, rfl⟩
theorem t73_25 : xtc zt73 6 25 28 (.invokevirtual 54) 54 1 77 0 := ⟨rfl, rfl, rfl⟩
theorem t73_28 : xt zt73 28 29 .return_ := ⟨rfl, rfl⟩
theorem t74_0 : xt zt74 0 1 (.aload_n 0) := ⟨rfl, rfl⟩
theorem t74_1 : xtf zt74 6 1 4 (.getfield 22) 22 6 3 1 := ⟨rfl, rfl, rfl, rfl⟩
theorem t74_4 : xtb zt74 4 7 42 (.ifCond .lt 38) (38) := ⟨rfl, rfl, rfl⟩
theorem t74_7 : xt zt74 7 8 (.aload_n 0) := ⟨rfl, rfl⟩
theorem t74_8 : xtf zt74 6 8 11 (.getfield 22) 22 6 3 1 := ⟨rfl, rfl, rfl, rfl⟩
theorem t74_11 : xt zt74 11 12 (.aload_n 0) := ⟨rfl, rfl⟩
theorem t74_12 : xtf zt74 6 12 15 (.getfield 18) 18 6 2 1 := ⟨rfl, rfl, rfl, rfl⟩
theorem t74_15 : xtb zt74 15 18 42 (.if_icmp .ge 27) (27) := ⟨rfl, rfl, rfl⟩
theorem t74_18 : xt zt74 18 19 (.aload_n 0) := ⟨rfl, rfl⟩
theorem t74_19 : xtf zt74 6 19 22 (.getfield 22) 22 6 3 1 := ⟨rfl, rfl, rfl, rfl⟩
theorem t74_22 : xt zt74 22 23 (.aload_n 0) := ⟨rfl, rfl⟩
theorem t74_23 : xtf zt74 6 23 26 (.getfield 15) 15 6 1 3 := ⟨rfl, rfl, rfl, rfl⟩
theorem t74_26 : xt zt74 26 27 .arraylength := ⟨rfl, rfl⟩
theorem t74_27 : xtb zt74 27 30 42 (.if_icmp .ge 15) (15) := ⟨rfl, rfl, rfl⟩
theorem t74_30 : xt zt74 30 31 (.aload_n 0) := ⟨rfl, rfl⟩
theorem t74_31 : xtf zt74 6 31 34 (.getfield 15) 15 6 1 3 := ⟨rfl, rfl, rfl, rfl⟩
theorem t74_34 : xt zt74 34 35 (.aload_n 0) := ⟨rfl, rfl⟩
theorem t74_35 : xtf zt74 6 35 38 (.getfield 22) 22 6 3 1 := ⟨rfl, rfl, rfl, rfl⟩
theorem t74_38 : xt zt74 38 39 .iaload := ⟨rfl, rfl⟩
theorem t74_39 : xtb zt74 39 42 43 (.goto 4) (4) := ⟨rfl, rfl, rfl⟩
theorem t74_42 : xtk zt74 42 43 (-1) := Or.inl ⟨-1, ⟨rfl, rfl⟩, by decide⟩
theorem t74_43 : xt zt74 43 44 .ireturn := ⟨rfl, rfl⟩
theorem t75_0 : xt zt75 0 1 (.iload_n 0) := ⟨rfl, rfl⟩
theorem t75_1 : xtk zt75 1 3 (97) := Or.inr (Or.inl ⟨97, ⟨rfl, rfl⟩, by decide⟩)
theorem t75_3 : xtb zt75 3 6 16 (.if_icmp .lt 13) (13) := ⟨rfl, rfl, rfl⟩
theorem t75_6 : xt zt75 6 7 (.iload_n 0) := ⟨rfl, rfl⟩
theorem t75_7 : xtk zt75 7 9 (122) := Or.inr (Or.inl ⟨122, ⟨rfl, rfl⟩, by decide⟩)
theorem t75_9 : xtb zt75 9 12 16 (.if_icmp .gt 7) (7) := ⟨rfl, rfl, rfl⟩
theorem t75_12 : xtk zt75 12 13 (1) := Or.inl ⟨1, ⟨rfl, rfl⟩, by decide⟩
theorem t75_13 : xtb zt75 13 16 17 (.goto 4) (4) := ⟨rfl, rfl, rfl⟩
theorem t75_16 : xtk zt75 16 17 (0) := Or.inl ⟨0, ⟨rfl, rfl⟩, by decide⟩
theorem t75_17 : xt zt75 17 18 .ireturn := ⟨rfl, rfl⟩
theorem t76_0 : xt zt76 0 1 (.iload_n 0) := ⟨rfl, rfl⟩
theorem t76_1 : xtk zt76 1 3 (48) := Or.inr (Or.inl ⟨48, ⟨rfl, rfl⟩, by decide⟩)
theorem t76_3 : xtb zt76 3 6 16 (.if_icmp .lt 13) (13) := ⟨rfl, rfl, rfl⟩
theorem t76_6 : xt zt76 6 7 (.iload_n 0) := ⟨rfl, rfl⟩
theorem t76_7 : xtk zt76 7 9 (57) := Or.inr (Or.inl ⟨57, ⟨rfl, rfl⟩, by decide⟩)
theorem t76_9 : xtb zt76 9 12 16 (.if_icmp .gt 7) (7) := ⟨rfl, rfl, rfl⟩
theorem t76_12 : xtk zt76 12 13 (1) := Or.inl ⟨1, ⟨rfl, rfl⟩, by decide⟩
theorem t76_13 : xtb zt76 13 16 17 (.goto 4) (4) := ⟨rfl, rfl, rfl⟩
theorem t76_16 : xtk zt76 16 17 (0) := Or.inl ⟨0, ⟨rfl, rfl⟩, by decide⟩
theorem t76_17 : xt zt76 17 18 .ireturn := ⟨rfl, rfl⟩
theorem t77_0 : xt zt77 0 1 (.aload_n 0) := ⟨rfl, rfl⟩
theorem t77_1 : xtf zt77 6 1 4 (.getfield 22) 22 6 3 1 := ⟨rfl, rfl, rfl, rfl⟩
theorem t77_4 : xt zt77 4 5 (.aload_n 0) := ⟨rfl, rfl⟩
theorem t77_5 : xtf zt77 6 5 8 (.getfield 18) 18 6 2 1 := ⟨rfl, rfl, rfl, rfl⟩
theorem t77_8 : xtb zt77 8 11 42 (.if_icmp .ge 34) (34) := ⟨rfl, rfl, rfl⟩
theorem t77_11 : xt zt77 11 12 (.aload_n 0) := ⟨rfl, rfl⟩
theorem t77_12 : xtc zt77 6 12 15 (.invokevirtual 57) 57 1 74 0 := ⟨rfl, rfl, rfl⟩
theorem t77_15 : xtk zt77 15 17 (10) := Or.inr (Or.inl ⟨10, ⟨rfl, rfl⟩, by decide⟩)
theorem t77_17 : xtb zt77 17 20 29 (.if_icmp .eq 12) (12) := ⟨rfl, rfl, rfl⟩
theorem t77_20 : xt zt77 20 21 (.aload_n 0) := ⟨rfl, rfl⟩
theorem t77_21 : xtc zt77 6 21 24 (.invokevirtual 57) 57 1 74 0 := ⟨rfl, rfl, rfl⟩
theorem t77_24 : xtk zt77 24 26 (32) := Or.inr (Or.inl ⟨32, ⟨rfl, rfl⟩, by decide⟩)
theorem t77_26 : xtb zt77 26 29 42 (.if_icmp .ne 16) (16) := ⟨rfl, rfl, rfl⟩
theorem t77_29 : xt zt77 29 30 (.aload_n 0) := ⟨rfl, rfl⟩
theorem t77_30 : xt zt77 30 31 .dup := ⟨rfl, rfl⟩
theorem t77_31 : xtf zt77 6 31 34 (.getfield 22) 22 6 3 1 := ⟨rfl, rfl, rfl, rfl⟩
theorem t77_34 : xtk zt77 34 35 (1) := Or.inl ⟨1, ⟨rfl, rfl⟩, by decide⟩
theorem t77_35 : xt zt77 35 36 .iadd := ⟨rfl, rfl⟩
theorem t77_36 : xtf zt77 6 36 39 (.putfield 22) 22 6 3 1 := ⟨rfl, rfl, rfl, rfl⟩
theorem t77_39 : xtb zt77 39 42 0 (.goto (-39)) (-39) := ⟨rfl, rfl, rfl⟩
theorem t77_42 : xt zt77 42 43 (.aload_n 0) := ⟨rfl, rfl⟩
theorem t77_43 : xt zt77 43 44 (.aload_n 0) := ⟨rfl, rfl⟩
theorem t77_44 : xtf zt77 6 44 47 (.getfield 22) 22 6 3 1 := ⟨rfl, rfl, rfl, rfl⟩
theorem t77_47 : xtf zt77 6 47 50 (.putfield 31) 31 6 6 1 := ⟨rfl, rfl, rfl, rfl⟩
theorem t77_50 : xt zt77 50 51 (.aload_n 0) := ⟨rfl, rfl⟩
theorem t77_51 : xtk zt77 51 52 (0) := Or.inl ⟨0, ⟨rfl, rfl⟩, by decide⟩
theorem t77_52 : xtf zt77 6 52 55 (.putfield 28) 28 6 5 1 := ⟨rfl, rfl, rfl, rfl⟩
theorem t77_55 : xt zt77 55 56 (.aload_n 0) := ⟨rfl, rfl⟩
theorem t77_56 : xtc zt77 6 56 59 (.invokevirtual 57) 57 1 74 0 := ⟨rfl, rfl, rfl⟩
theorem t77_59 : xt zt77 59 60 (.istore_n 1) := ⟨rfl, rfl⟩
theorem t77_60 : xt zt77 60 61 (.iload_n 1) := ⟨rfl, rfl⟩
theorem t77_61 : xtk zt77 61 62 (-1) := Or.inl ⟨-1, ⟨rfl, rfl⟩, by decide⟩
theorem t77_62 : xtb zt77 62 65 73 (.if_icmp .ne 11) (11) := ⟨rfl, rfl, rfl⟩
theorem t77_65 : xt zt77 65 66 (.aload_n 0) := ⟨rfl, rfl⟩
theorem t77_66 : xtk zt77 66 67 (0) := Or.inl ⟨0, ⟨rfl, rfl⟩, by decide⟩
theorem t77_67 : xtf zt77 6 67 70 (.putfield 25) 25 6 4 1 := ⟨rfl, rfl, rfl, rfl⟩
theorem t77_70 : xtb zt77 70 73 120 (.goto 50) (50) := ⟨rfl, rfl, rfl⟩
theorem t77_73 : xt zt77 73 74 (.iload_n 1) := ⟨rfl, rfl⟩
theorem t77_74 : xtc zt77 6 74 77 (.invokestatic 60) 60 2 75 1 := ⟨rfl, rfl, rfl⟩
theorem t77_77 : xtb zt77 77 80 87 (.ifCond .eq 10) (10) := ⟨rfl, rfl, rfl⟩
theorem t77_80 : xt zt77 80 81 (.aload_n 0) := ⟨rfl, rfl⟩
theorem t77_81 : xtc zt77 6 81 84 (.invokevirtual 64) 64 1 78 0 := ⟨rfl, rfl, rfl⟩
theorem t77_84 : xtb zt77 84 87 120 (.goto 36) (36) := ⟨rfl, rfl, rfl⟩
theorem t77_87 : xt zt77 87 88 (.iload_n 1) := ⟨rfl, rfl⟩
theorem t77_88 : xtc zt77 6 88 91 (.invokestatic 67) 67 2 76 1 := ⟨rfl, rfl, rfl⟩
theorem t77_91 : xtb zt77 91 94 101 (.ifCond .eq 10) (10) := ⟨rfl, rfl, rfl⟩
theorem t77_94 : xt zt77 94 95 (.aload_n 0) := ⟨rfl, rfl⟩
theorem t77_95 : xtc zt77 6 95 98 (.invokevirtual 70) 70 1 79 0 := ⟨rfl, rfl, rfl⟩
theorem t77_98 : xtb zt77 98 101 120 (.goto 22) (22) := ⟨rfl, rfl, rfl⟩
theorem t77_101 : xt zt77 101 102 (.aload_n 0) := ⟨rfl, rfl⟩
theorem t77_102 : xt zt77 102 103 .dup := ⟨rfl, rfl⟩
theorem t77_103 : xtf zt77 6 103 106 (.getfield 22) 22 6 3 1 := ⟨rfl, rfl, rfl, rfl⟩
theorem t77_106 : xtk zt77 106 107 (1) := Or.inl ⟨1, ⟨rfl, rfl⟩, by decide⟩
theorem t77_107 : xt zt77 107 108 .iadd := ⟨rfl, rfl⟩
theorem t77_108 : xtf zt77 6 108 111 (.putfield 22) 22 6 3 1 := ⟨rfl, rfl, rfl, rfl⟩
theorem t77_111 : xt zt77 111 112 (.aload_n 0) := ⟨rfl, rfl⟩
theorem t77_112 : xt zt77 112 113 (.aload_n 0) := ⟨rfl, rfl⟩
theorem t77_113 : xt zt77 113 114 (.iload_n 1) := ⟨rfl, rfl⟩
theorem t77_114 : xtc zt77 6 114 117 (.invokevirtual 73) 73 1 80 1 := ⟨rfl, rfl, rfl⟩
theorem t77_117 : xtf zt77 6 117 120 (.putfield 25) 25 6 4 1 := ⟨rfl, rfl, rfl, rfl⟩
theorem t77_120 : xt zt77 120 121 .return_ := ⟨rfl, rfl⟩
theorem t78_0 : xtk zt78 0 1 (0) := Or.inl ⟨0, ⟨rfl, rfl⟩, by decide⟩
theorem t78_1 : xt zt78 1 2 (.istore_n 1) := ⟨rfl, rfl⟩
theorem t78_2 : xtk zt78 2 3 (0) := Or.inl ⟨0, ⟨rfl, rfl⟩, by decide⟩
theorem t78_3 : xt zt78 3 4 (.istore_n 2) := ⟨rfl, rfl⟩
theorem t78_4 : xt zt78 4 5 (.aload_n 0) := ⟨rfl, rfl⟩
theorem t78_5 : xtf zt78 6 5 8 (.getfield 22) 22 6 3 1 := ⟨rfl, rfl, rfl, rfl⟩
theorem t78_8 : xt zt78 8 9 (.aload_n 0) := ⟨rfl, rfl⟩
theorem t78_9 : xtf zt78 6 9 12 (.getfield 18) 18 6 2 1 := ⟨rfl, rfl, rfl, rfl⟩
theorem t78_12 : xtb zt78 12 15 61 (.if_icmp .ge 49) (49) := ⟨rfl, rfl, rfl⟩
theorem t78_15 : xt zt78 15 16 (.aload_n 0) := ⟨rfl, rfl⟩
theorem t78_16 : xtc zt78 6 16 19 (.invokevirtual 57) 57 1 74 0 := ⟨rfl, rfl, rfl⟩
theorem t78_19 : xtc zt78 6 19 22 (.invokestatic 60) 60 2 75 1 := ⟨rfl, rfl, rfl⟩
theorem t78_22 : xtb zt78 22 25 61 (.ifCond .eq 39) (39) := ⟨rfl, rfl, rfl⟩
theorem t78_25 : xt zt78 25 26 (.iload_n 1) := ⟨rfl, rfl⟩
theorem t78_26 : xtk zt78 26 28 (6) := Or.inr (Or.inl ⟨6, ⟨rfl, rfl⟩, by decide⟩)
theorem t78_28 : xtb zt78 28 31 45 (.if_icmp .ge 17) (17) := ⟨rfl, rfl, rfl⟩
theorem t78_31 : xt zt78 31 32 (.iload_n 2) := ⟨rfl, rfl⟩
theorem t78_32 : xtk zt78 32 33 (5) := Or.inl ⟨5, ⟨rfl, rfl⟩, by decide⟩
theorem t78_33 : xt zt78 33 34 .ishl := ⟨rfl, rfl⟩
theorem t78_34 : xt zt78 34 35 (.aload_n 0) := ⟨rfl, rfl⟩
theorem t78_35 : xtc zt78 6 35 38 (.invokevirtual 57) 57 1 74 0 := ⟨rfl, rfl, rfl⟩
theorem t78_38 : xtk zt78 38 40 (97) := Or.inr (Or.inl ⟨97, ⟨rfl, rfl⟩, by decide⟩)
theorem t78_40 : xt zt78 40 41 .isub := ⟨rfl, rfl⟩
theorem t78_41 : xtk zt78 41 42 (1) := Or.inl ⟨1, ⟨rfl, rfl⟩, by decide⟩
theorem t78_42 : xt zt78 42 43 .iadd := ⟨rfl, rfl⟩
theorem t78_43 : xt zt78 43 44 .ior := ⟨rfl, rfl⟩
theorem t78_44 : xt zt78 44 45 (.istore_n 2) := ⟨rfl, rfl⟩
theorem t78_45 : xt zt78 45 48 (.iinc 1 1) := ⟨rfl, rfl⟩
theorem t78_48 : xt zt78 48 49 (.aload_n 0) := ⟨rfl, rfl⟩
theorem t78_49 : xt zt78 49 50 .dup := ⟨rfl, rfl⟩
theorem t78_50 : xtf zt78 6 50 53 (.getfield 22) 22 6 3 1 := ⟨rfl, rfl, rfl, rfl⟩
theorem t78_53 : xtk zt78 53 54 (1) := Or.inl ⟨1, ⟨rfl, rfl⟩, by decide⟩
theorem t78_54 : xt zt78 54 55 .iadd := ⟨rfl, rfl⟩
theorem t78_55 : xtf zt78 6 55 58 (.putfield 22) 22 6 3 1 := ⟨rfl, rfl, rfl, rfl⟩
theorem t78_58 : xtb zt78 58 61 4 (.goto (-54)) (-54) := ⟨rfl, rfl, rfl⟩
theorem t78_61 : xt zt78 61 62 (.iload_n 1) := ⟨rfl, rfl⟩
theorem t78_62 : xtk zt78 62 64 (6) := Or.inr (Or.inl ⟨6, ⟨rfl, rfl⟩, by decide⟩)
theorem t78_64 : xtb zt78 64 67 73 (.if_icmp .le 9) (9) := ⟨rfl, rfl, rfl⟩
theorem t78_67 : xt zt78 67 68 (.aload_n 0) := ⟨rfl, rfl⟩
theorem t78_68 : xtk zt78 68 69 (1) := Or.inl ⟨1, ⟨rfl, rfl⟩, by decide⟩
theorem t78_69 : xtf zt78 6 69 72 (.putfield 25) 25 6 4 1 := ⟨rfl, rfl, rfl, rfl⟩
theorem t78_72 : xt zt78 72 73 .return_ := ⟨rfl, rfl⟩
theorem t78_73 : xt zt78 73 74 (.aload_n 0) := ⟨rfl, rfl⟩
theorem t78_74 : xt zt78 74 75 (.iload_n 2) := ⟨rfl, rfl⟩
theorem t78_75 : xtk zt78 75 76 (5) := Or.inl ⟨5, ⟨rfl, rfl⟩, by decide⟩
theorem t78_76 : xtk zt78 76 78 (6) := Or.inr (Or.inl ⟨6, ⟨rfl, rfl⟩, by decide⟩)
theorem t78_78 : xt zt78 78 79 (.iload_n 1) := ⟨rfl, rfl⟩
theorem t78_79 : xt zt78 79 80 .isub := ⟨rfl, rfl⟩
theorem t78_80 : xt zt78 80 81 .imul := ⟨rfl, rfl⟩
theorem t78_81 : xt zt78 81 82 .ishl := ⟨rfl, rfl⟩
theorem t78_82 : xtf zt78 6 82 85 (.putfield 28) 28 6 5 1 := ⟨rfl, rfl, rfl, rfl⟩
theorem t78_85 : xt zt78 85 86 (.aload_n 0) := ⟨rfl, rfl⟩
theorem t78_86 : xtk zt78 86 87 (3) := Or.inl ⟨3, ⟨rfl, rfl⟩, by decide⟩
theorem t78_87 : xtf zt78 6 87 90 (.putfield 25) 25 6 4 1 := ⟨rfl, rfl, rfl, rfl⟩
theorem t78_90 : xtk zt78 90 91 (0) := Or.inl ⟨0, ⟨rfl, rfl⟩, by decide⟩
theorem t78_91 : xt zt78 91 92 (.istore_n 3) := ⟨rfl, rfl⟩
theorem t78_92 : xt zt78 92 93 (.iload_n 3) := ⟨rfl, rfl⟩
theorem t78_93 : xt zt78 93 94 (.aload_n 0) := ⟨rfl, rfl⟩
theorem t78_94 : xtf zt78 6 94 97 (.getfield 11) 11 6 0 3 := ⟨rfl, rfl, rfl, rfl⟩
theorem t78_97 : xt zt78 97 98 .arraylength := ⟨rfl, rfl⟩
theorem t78_98 : xtb zt78 98 101 128 (.if_icmp .ge 30) (30) := ⟨rfl, rfl, rfl⟩
theorem t78_101 : xt zt78 101 102 (.aload_n 0) := ⟨rfl, rfl⟩
theorem t78_102 : xtf zt78 6 102 105 (.getfield 11) 11 6 0 3 := ⟨rfl, rfl, rfl, rfl⟩
theorem t78_105 : xt zt78 105 106 (.iload_n 3) := ⟨rfl, rfl⟩
theorem t78_106 : xt zt78 106 107 .iaload := ⟨rfl, rfl⟩
theorem t78_107 : xt zt78 107 108 (.aload_n 0) := ⟨rfl, rfl⟩
theorem t78_108 : xtf zt78 6 108 111 (.getfield 28) 28 6 5 1 := ⟨rfl, rfl, rfl, rfl⟩
theorem t78_111 : xtb zt78 111 114 122 (.if_icmp .ne 11) (11) := ⟨rfl, rfl, rfl⟩
theorem t78_114 : xt zt78 114 115 (.aload_n 0) := ⟨rfl, rfl⟩
theorem t78_115 : xtk zt78 115 117 (32) := Or.inr (Or.inl ⟨32, ⟨rfl, rfl⟩, by decide⟩)
theorem t78_117 : xt zt78 117 118 (.iload_n 3) := ⟨rfl, rfl⟩
theorem t78_118 : xt zt78 118 119 .iadd := ⟨rfl, rfl⟩
theorem t78_119 : xtf zt78 6 119 122 (.putfield 25) 25 6 4 1 := ⟨rfl, rfl, rfl, rfl⟩
theorem t78_122 : xt zt78 122 125 (.iinc 3 1) := ⟨rfl, rfl⟩
theorem t78_125 : xtb zt78 125 128 92 (.goto (-33)) (-33) := ⟨rfl, rfl, rfl⟩
theorem t78_128 : xt zt78 128 129 .return_ := ⟨rfl, rfl⟩
theorem t79_0 : xt zt79 0 1 (.aload_n 0) := ⟨rfl, rfl⟩
theorem t79_1 : xtk zt79 1 2 (2) := Or.inl ⟨2, ⟨rfl, rfl⟩, by decide⟩
theorem t79_2 : xtf zt79 6 2 5 (.putfield 25) 25 6 4 1 := ⟨rfl, rfl, rfl, rfl⟩
theorem t79_5 : xt zt79 5 6 (.aload_n 0) := ⟨rfl, rfl⟩
theorem t79_6 : xtf zt79 6 6 9 (.getfield 22) 22 6 3 1 := ⟨rfl, rfl, rfl, rfl⟩
theorem t79_9 : xt zt79 9 10 (.aload_n 0) := ⟨rfl, rfl⟩
theorem t79_10 : xtf zt79 6 10 13 (.getfield 18) 18 6 2 1 := ⟨rfl, rfl, rfl, rfl⟩
theorem t79_13 : xtb zt79 13 16 67 (.if_icmp .ge 54) (54) := ⟨rfl, rfl, rfl⟩
theorem t79_16 : xt zt79 16 17 (.aload_n 0) := ⟨rfl, rfl⟩
theorem t79_17 : xtc zt79 6 17 20 (.invokevirtual 57) 57 1 74 0 := ⟨rfl, rfl, rfl⟩
theorem t79_20 : xtc zt79 6 20 23 (.invokestatic 67) 67 2 76 1 := ⟨rfl, rfl, rfl⟩
theorem t79_23 : xtb zt79 23 26 67 (.ifCond .eq 44) (44) := ⟨rfl, rfl, rfl⟩
theorem t79_26 : xt zt79 26 27 (.aload_n 0) := ⟨rfl, rfl⟩
theorem t79_27 : xtf zt79 6 27 30 (.getfield 28) 28 6 5 1 := ⟨rfl, rfl, rfl, rfl⟩
theorem t79_30 : xt zt79 30 32 (.ldc 77) := ⟨rfl, rfl⟩
theorem t79_32 : xtb zt79 32 35 54 (.if_icmp .ge 22) (22) := ⟨rfl, rfl, rfl⟩
theorem t79_35 : xt zt79 35 36 (.aload_n 0) := ⟨rfl, rfl⟩
theorem t79_36 : xt zt79 36 37 (.aload_n 0) := ⟨rfl, rfl⟩
theorem t79_37 : xtf zt79 6 37 40 (.getfield 28) 28 6 5 1 := ⟨rfl, rfl, rfl, rfl⟩
theorem t79_40 : xtk zt79 40 42 (10) := Or.inr (Or.inl ⟨10, ⟨rfl, rfl⟩, by decide⟩)
theorem t79_42 : xt zt79 42 43 .imul := ⟨rfl, rfl⟩
theorem t79_43 : xt zt79 43 44 (.aload_n 0) := ⟨rfl, rfl⟩
theorem t79_44 : xtc zt79 6 44 47 (.invokevirtual 57) 57 1 74 0 := ⟨rfl, rfl, rfl⟩
theorem t79_47 : xtk zt79 47 49 (48) := Or.inr (Or.inl ⟨48, ⟨rfl, rfl⟩, by decide⟩)
theorem t79_49 : xt zt79 49 50 .isub := ⟨rfl, rfl⟩
theorem t79_50 : xt zt79 50 51 .iadd := ⟨rfl, rfl⟩
theorem t79_51 : xtf zt79 6 51 54 (.putfield 28) 28 6 5 1 := ⟨rfl, rfl, rfl, rfl⟩
theorem t79_54 : xt zt79 54 55 (.aload_n 0) := ⟨rfl, rfl⟩
theorem t79_55 : xt zt79 55 56 .dup := ⟨rfl, rfl⟩
theorem t79_56 : xtf zt79 6 56 59 (.getfield 22) 22 6 3 1 := ⟨rfl, rfl, rfl, rfl⟩
theorem t79_59 : xtk zt79 59 60 (1) := Or.inl ⟨1, ⟨rfl, rfl⟩, by decide⟩
theorem t79_60 : xt zt79 60 61 .iadd := ⟨rfl, rfl⟩
theorem t79_61 : xtf zt79 6 61 64 (.putfield 22) 22 6 3 1 := ⟨rfl, rfl, rfl, rfl⟩
theorem t79_64 : xtb zt79 64 67 5 (.goto (-59)) (-59) := ⟨rfl, rfl, rfl⟩
theorem t79_67 : xt zt79 67 68 .return_ := ⟨rfl, rfl⟩
theorem t80_0 : xt zt80 0 1 (.iload_n 1) := ⟨rfl, rfl⟩
theorem t80_1 : zt80 1 = some (.tableswitch 175 40 62 #[109, 111, 120, 114, 175, 117, 175, 123, 175, 175, 175, 175, 175, 175, 175, 175, 175, 175, 175, 107, 129, 126, 158], 107) := rfl
theorem t80_108 : xtk zt80 108 109 (4) := Or.inl ⟨4, ⟨rfl, rfl⟩, by decide⟩
theorem t80_109 : xt zt80 109 110 .ireturn := ⟨rfl, rfl⟩
theorem t80_110 : xtk zt80 110 111 (5) := Or.inl ⟨5, ⟨rfl, rfl⟩, by decide⟩
theorem t80_111 : xt zt80 111 112 .ireturn := ⟨rfl, rfl⟩
theorem t80_112 : xtk zt80 112 114 (6) := Or.inr (Or.inl ⟨6, ⟨rfl, rfl⟩, by decide⟩)
theorem t80_114 : xt zt80 114 115 .ireturn := ⟨rfl, rfl⟩
theorem t80_115 : xtk zt80 115 117 (10) := Or.inr (Or.inl ⟨10, ⟨rfl, rfl⟩, by decide⟩)
theorem t80_117 : xt zt80 117 118 .ireturn := ⟨rfl, rfl⟩
theorem t80_118 : xtk zt80 118 120 (11) := Or.inr (Or.inl ⟨11, ⟨rfl, rfl⟩, by decide⟩)
theorem t80_120 : xt zt80 120 121 .ireturn := ⟨rfl, rfl⟩
theorem t80_121 : xtk zt80 121 123 (12) := Or.inr (Or.inl ⟨12, ⟨rfl, rfl⟩, by decide⟩)
theorem t80_123 : xt zt80 123 124 .ireturn := ⟨rfl, rfl⟩
theorem t80_124 : xtk zt80 124 126 (13) := Or.inr (Or.inl ⟨13, ⟨rfl, rfl⟩, by decide⟩)
theorem t80_126 : xt zt80 126 127 .ireturn := ⟨rfl, rfl⟩
theorem t80_127 : xtk zt80 127 129 (16) := Or.inr (Or.inl ⟨16, ⟨rfl, rfl⟩, by decide⟩)
theorem t80_129 : xt zt80 129 130 .ireturn := ⟨rfl, rfl⟩
theorem t80_130 : xt zt80 130 131 (.aload_n 0) := ⟨rfl, rfl⟩
theorem t80_131 : xtk zt80 131 133 (61) := Or.inr (Or.inl ⟨61, ⟨rfl, rfl⟩, by decide⟩)
theorem t80_133 : xtc zt80 6 133 136 (.invokevirtual 78) 78 1 81 1 := ⟨rfl, rfl, rfl⟩
theorem t80_136 : xtb zt80 136 139 142 (.ifCond .eq 6) (6) := ⟨rfl, rfl, rfl⟩
theorem t80_139 : xtk zt80 139 141 (15) := Or.inr (Or.inl ⟨15, ⟨rfl, rfl⟩, by decide⟩)
theorem t80_141 : xt zt80 141 142 .ireturn := ⟨rfl, rfl⟩
theorem t80_142 : xt zt80 142 143 (.aload_n 0) := ⟨rfl, rfl⟩
theorem t80_143 : xtk zt80 143 145 (62) := Or.inr (Or.inl ⟨62, ⟨rfl, rfl⟩, by decide⟩)
theorem t80_145 : xtc zt80 6 145 148 (.invokevirtual 78) 78 1 81 1 := ⟨rfl, rfl, rfl⟩
theorem t80_148 : xtb zt80 148 151 156 (.ifCond .eq 8) (8) := ⟨rfl, rfl, rfl⟩
theorem t80_151 : xtk zt80 151 153 (17) := Or.inr (Or.inl ⟨17, ⟨rfl, rfl⟩, by decide⟩)
theorem t80_153 : xtb zt80 153 156 158 (.goto 5) (5) := ⟨rfl, rfl, rfl⟩
theorem t80_156 : xtk zt80 156 158 (14) := Or.inr (Or.inl ⟨14, ⟨rfl, rfl⟩, by decide⟩)
theorem t80_158 : xt zt80 158 159 .ireturn := ⟨rfl, rfl⟩
theorem t80_159 : xt zt80 159 160 (.aload_n 0) := ⟨rfl, rfl⟩
theorem t80_160 : xtk zt80 160 162 (61) := Or.inr (Or.inl ⟨61, ⟨rfl, rfl⟩, by decide⟩)
theorem t80_162 : xtc zt80 6 162 165 (.invokevirtual 78) 78 1 81 1 := ⟨rfl, rfl, rfl⟩
theorem t80_165 : xtb zt80 165 168 173 (.ifCond .eq 8) (8) := ⟨rfl, rfl, rfl⟩
theorem t80_168 : xtk zt80 168 170 (18) := Or.inr (Or.inl ⟨18, ⟨rfl, rfl⟩, by decide⟩)
theorem t80_170 : xtb zt80 170 173 175 (.goto 5) (5) := ⟨rfl, rfl, rfl⟩
theorem t80_173 : xtk zt80 173 175 (19) := Or.inr (Or.inl ⟨19, ⟨rfl, rfl⟩, by decide⟩)
theorem t80_175 : xt zt80 175 176 .ireturn := ⟨rfl, rfl⟩
theorem t80_176 : xtk zt80 176 177 (1) := Or.inl ⟨1, ⟨rfl, rfl⟩, by decide⟩
theorem t80_177 : xt zt80 177 178 .ireturn := ⟨rfl, rfl⟩
theorem t81_0 : xt zt81 0 1 (.aload_n 0) := ⟨rfl, rfl⟩
theorem t81_1 : xtf zt81 6 1 4 (.getfield 22) 22 6 3 1 := ⟨rfl, rfl, rfl, rfl⟩
theorem t81_4 : xtb zt81 4 7 47 (.ifCond .lt 43) (43) := ⟨rfl, rfl, rfl⟩
theorem t81_7 : xt zt81 7 8 (.aload_n 0) := ⟨rfl, rfl⟩
theorem t81_8 : xtf zt81 6 8 11 (.getfield 22) 22 6 3 1 := ⟨rfl, rfl, rfl, rfl⟩
theorem t81_11 : xt zt81 11 12 (.aload_n 0) := ⟨rfl, rfl⟩
theorem t81_12 : xtf zt81 6 12 15 (.getfield 18) 18 6 2 1 := ⟨rfl, rfl, rfl, rfl⟩
theorem t81_15 : xtb zt81 15 18 47 (.if_icmp .ge 32) (32) := ⟨rfl, rfl, rfl⟩
theorem t81_18 : xt zt81 18 19 (.aload_n 0) := ⟨rfl, rfl⟩
theorem t81_19 : xtf zt81 6 19 22 (.getfield 22) 22 6 3 1 := ⟨rfl, rfl, rfl, rfl⟩
theorem t81_22 : xt zt81 22 23 (.aload_n 0) := ⟨rfl, rfl⟩
theorem t81_23 : xtf zt81 6 23 26 (.getfield 15) 15 6 1 3 := ⟨rfl, rfl, rfl, rfl⟩
theorem t81_26 : xt zt81 26 27 .arraylength := ⟨rfl, rfl⟩
theorem t81_27 : xtb zt81 27 30 47 (.if_icmp .ge 20) (20) := ⟨rfl, rfl, rfl⟩
theorem t81_30 : xt zt81 30 31 (.aload_n 0) := ⟨rfl, rfl⟩
theorem t81_31 : xtf zt81 6 31 34 (.getfield 15) 15 6 1 3 := ⟨rfl, rfl, rfl, rfl⟩
theorem t81_34 : xt zt81 34 35 (.aload_n 0) := ⟨rfl, rfl⟩
theorem t81_35 : xtf zt81 6 35 38 (.getfield 22) 22 6 3 1 := ⟨rfl, rfl, rfl, rfl⟩
theorem t81_38 : xt zt81 38 39 .iaload := ⟨rfl, rfl⟩
theorem t81_39 : xt zt81 39 40 (.iload_n 1) := ⟨rfl, rfl⟩
theorem t81_40 : xtb zt81 40 43 47 (.if_icmp .ne 7) (7) := ⟨rfl, rfl, rfl⟩
theorem t81_43 : xtk zt81 43 44 (1) := Or.inl ⟨1, ⟨rfl, rfl⟩, by decide⟩
theorem t81_44 : xtb zt81 44 47 48 (.goto 4) (4) := ⟨rfl, rfl, rfl⟩
theorem t81_47 : xtk zt81 47 48 (0) := Or.inl ⟨0, ⟨rfl, rfl⟩, by decide⟩
theorem t81_48 : xt zt81 48 49 (.istore_n 2) := ⟨rfl, rfl⟩
theorem t81_49 : xt zt81 49 50 (.iload_n 2) := ⟨rfl, rfl⟩
theorem t81_50 : xtb zt81 50 53 63 (.ifCond .eq 13) (13) := ⟨rfl, rfl, rfl⟩
theorem t81_53 : xt zt81 53 54 (.aload_n 0) := ⟨rfl, rfl⟩
theorem t81_54 : xt zt81 54 55 .dup := ⟨rfl, rfl⟩
theorem t81_55 : xtf zt81 6 55 58 (.getfield 22) 22 6 3 1 := ⟨rfl, rfl, rfl, rfl⟩
theorem t81_58 : xtk zt81 58 59 (1) := Or.inl ⟨1, ⟨rfl, rfl⟩, by decide⟩
theorem t81_59 : xt zt81 59 60 .iadd := ⟨rfl, rfl⟩
theorem t81_60 : xtf zt81 6 60 63 (.putfield 22) 22 6 3 1 := ⟨rfl, rfl, rfl, rfl⟩
theorem t81_63 : xt zt81 63 64 (.iload_n 2) := ⟨rfl, rfl⟩
theorem t81_64 : xt zt81 64 65 .ireturn := ⟨rfl, rfl⟩
end
section
/-! The class Scanner: what its small methods do. -/
def GS (G : xG) : Prop := G.1 3 0 = some 4 ∧ G.1 3 1 = some 1 ∧ G.2 1 = (0, 1, 700) ∧ G.2 4 = (0, 1, 22)
def pk (m : xM) : Int32 := if 0 ≤ (m 3 3).toInt ∧ (m 3 3).toInt < (m 3 2).toInt ∧ (m 3 3).toInt < 700 then m 1 (m 3 3).toNatClampNeg else -1
def tks (m : xM) (x : Int32) : Bool := decide (0 ≤ (m 3 3).toInt ∧ (m 3 3).toInt < (m 3 2).toInt ∧ (m 3 3).toInt < 700) && decide (m 1 (m 3 3).toNatClampNeg = x)
theorem ct_peek {nf : Bool} {xs : List Int32} {d : Nat} {m : xM} {g : xL} {G : xG} (hG : GS G) : CT nf xs d 74 [.ref 3] m g G (PE (some (.int (pk m))) m g) := by
  refine CT.of (c := 6) (ini := false) (nL := 1) (rt := some .int) (tab := zt74) rfl (fun d' r h' N hd hr => ?_)
  replace hr : RR nf xs d' 6 false 1 (some .int) zt74 G r h' N (0, [(0, .ref 3)], [], m, g) := hr
  have km1 : (-1 : Int32).toInt = -1 := rfl
  have k700 : (Int32.ofNat 700).toInt = 700 := rfl
  replace hr := hr.go (s_aload_n t74_0 rfl)
  replace hr := hr.go (s_getf t74_1)
  rcases hr.zLt t74_4 with ⟨c1, hr⟩ | ⟨c1, hr⟩
  · replace hr := hr.go (s_k t74_42)
    obtain ⟨rfl, hs⟩ := hr.iret t74_43
    exact ⟨_, _, hs, congrArg (fun z => some (Value.int z)) (by unfold pk; first | rw [if_pos (by omega)] | rw [if_neg (by omega)]), rfl, rfl⟩
  · replace hr := hr.go (s_aload_n t74_7 rfl)
    replace hr := hr.go (s_getf t74_8)
    replace hr := hr.go (s_aload_n t74_11 rfl)
    replace hr := hr.go (s_getf t74_12)
    rcases hr.bGe t74_15 with ⟨c2, hr⟩ | ⟨c2, hr⟩
    · replace hr := hr.go (s_k t74_42)
      obtain ⟨rfl, hs⟩ := hr.iret t74_43
      exact ⟨_, _, hs, congrArg (fun z => some (Value.int z)) (by unfold pk; first | rw [if_pos (by omega)] | rw [if_neg (by omega)]), rfl, rfl⟩
    · replace hr := hr.go (s_aload_n t74_18 rfl)
      replace hr := hr.go (s_getf t74_19)
      replace hr := hr.go (s_aload_n t74_22 rfl)
      replace hr := hr.go (s_getr t74_23 (hG.2.1))
      replace hr := hr.go (s_alen t74_26 (hG.2.2.1))
      rcases hr.bGe t74_27 with ⟨c3, hr⟩ | ⟨c3, hr⟩
      · replace hr := hr.go (s_k t74_42)
        obtain ⟨rfl, hs⟩ := hr.iret t74_43
        exact ⟨_, _, hs, congrArg (fun z => some (Value.int z)) (by unfold pk; first | rw [if_pos (by omega)] | rw [if_neg (by omega)]), rfl, rfl⟩
      · replace hr := hr.go (s_aload_n t74_30 rfl)
        replace hr := hr.go (s_getr t74_31 (hG.2.1))
        replace hr := hr.go (s_aload_n t74_34 rfl)
        replace hr := hr.go (s_getf t74_35)
        replace hr := hr.go (s_iaload t74_38 (hG.2.2.1))
        replace hr := hr.go (s_goto t74_39)
        obtain ⟨rfl, hs⟩ := hr.iret t74_43
        exact ⟨_, _, hs, congrArg (fun z => some (Value.int z)) (by unfold pk; first | rw [if_pos (by omega)] | rw [if_neg (by omega)]), rfl, rfl⟩

theorem ct_isLetter {nf : Bool} {xs : List Int32} {d : Nat} {m : xM} {g : xL} {G : xG} {x : Int32} : CT nf xs d 75 [.int x] m g G (PE (some (.int (bI (ltr x)))) m g) := by
  refine CT.of (c := 6) (ini := false) (nL := 1) (rt := some .boolean) (tab := zt75) rfl (fun d' r h' N hd hr => ?_)
  replace hr : RR nf xs d' 6 false 1 (some .boolean) zt75 G r h' N (0, [(0, .int x)], [], m, g) := hr
  have k1 : (1 : Int32).toInt = 1 := rfl
  have k97 : (97 : Int32).toInt = 97 := rfl
  have k122 : (122 : Int32).toInt = 122 := rfl
  replace hr := hr.go (s_iload_n t75_0 rfl)
  replace hr := hr.go (s_k t75_1)
  rcases hr.bLt t75_3 with ⟨c1, hr⟩ | ⟨c1, hr⟩
  · replace hr := hr.go (s_k t75_16)
    obtain ⟨rfl, hs⟩ := hr.iret t75_17
    exact ⟨_, _, hs, congrArg (fun z => some (Value.int z)) (by first | (rw [ltr_t (by omega)]; rfl) | (rw [ltr_f (by omega)]; rfl)), rfl, rfl⟩
  · replace hr := hr.go (s_iload_n t75_6 rfl)
    replace hr := hr.go (s_k t75_7)
    rcases hr.bGt t75_9 with ⟨c2, hr⟩ | ⟨c2, hr⟩
    · replace hr := hr.go (s_k t75_16)
      obtain ⟨rfl, hs⟩ := hr.iret t75_17
      exact ⟨_, _, hs, congrArg (fun z => some (Value.int z)) (by first | (rw [ltr_t (by omega)]; rfl) | (rw [ltr_f (by omega)]; rfl)), rfl, rfl⟩
    · replace hr := hr.go (s_k t75_12)
      replace hr := hr.go (s_goto t75_13)
      obtain ⟨rfl, hs⟩ := hr.iret t75_17
      exact ⟨_, _, hs, congrArg (fun z => some (Value.int z)) (by first | (rw [ltr_t (by omega)]; rfl) | (rw [ltr_f (by omega)]; rfl)), rfl, rfl⟩

theorem ct_isDigit {nf : Bool} {xs : List Int32} {d : Nat} {m : xM} {g : xL} {G : xG} {x : Int32} : CT nf xs d 76 [.int x] m g G (PE (some (.int (bI (dgt x)))) m g) := by
  refine CT.of (c := 6) (ini := false) (nL := 1) (rt := some .boolean) (tab := zt76) rfl (fun d' r h' N hd hr => ?_)
  replace hr : RR nf xs d' 6 false 1 (some .boolean) zt76 G r h' N (0, [(0, .int x)], [], m, g) := hr
  have k1 : (1 : Int32).toInt = 1 := rfl
  have k48 : (48 : Int32).toInt = 48 := rfl
  have k57 : (57 : Int32).toInt = 57 := rfl
  replace hr := hr.go (s_iload_n t76_0 rfl)
  replace hr := hr.go (s_k t76_1)
  rcases hr.bLt t76_3 with ⟨c1, hr⟩ | ⟨c1, hr⟩
  · replace hr := hr.go (s_k t76_16)
    obtain ⟨rfl, hs⟩ := hr.iret t76_17
    exact ⟨_, _, hs, congrArg (fun z => some (Value.int z)) (by first | (rw [dgt_t (by omega)]; rfl) | (rw [dgt_f (by omega)]; rfl)), rfl, rfl⟩
  · replace hr := hr.go (s_iload_n t76_6 rfl)
    replace hr := hr.go (s_k t76_7)
    rcases hr.bGt t76_9 with ⟨c2, hr⟩ | ⟨c2, hr⟩
    · replace hr := hr.go (s_k t76_16)
      obtain ⟨rfl, hs⟩ := hr.iret t76_17
      exact ⟨_, _, hs, congrArg (fun z => some (Value.int z)) (by first | (rw [dgt_t (by omega)]; rfl) | (rw [dgt_f (by omega)]; rfl)), rfl, rfl⟩
    · replace hr := hr.go (s_k t76_12)
      replace hr := hr.go (s_goto t76_13)
      obtain ⟨rfl, hs⟩ := hr.iret t76_17
      exact ⟨_, _, hs, congrArg (fun z => some (Value.int z)) (by first | (rw [dgt_t (by omega)]; rfl) | (rw [dgt_f (by omega)]; rfl)), rfl, rfl⟩

theorem tks_t {m : xM} {x : Int32} (h : 0 ≤ (m 3 3).toInt ∧ (m 3 3).toInt < (m 3 2).toInt ∧ (m 3 3).toInt < 700) (h2 : m 1 (m 3 3).toNatClampNeg = x) : tks m x = true := by unfold tks; rw [decide_eq_true h, decide_eq_true h2]; rfl
theorem tks_f1 {m : xM} {x : Int32} (h : ¬ (0 ≤ (m 3 3).toInt ∧ (m 3 3).toInt < (m 3 2).toInt ∧ (m 3 3).toInt < 700)) : tks m x = false := by unfold tks; rw [decide_eq_false h]; rfl
theorem tks_f2 {m : xM} {x : Int32} (h : ¬ m 1 (m 3 3).toNatClampNeg = x) : tks m x = false := by unfold tks; rw [decide_eq_false h, Bool.and_false]
theorem ct_takes {nf : Bool} {xs : List Int32} {d : Nat} {m : xM} {g : xL} {G : xG} {x : Int32} (hG : GS G) : CT nf xs d 81 [.ref 3, .int x] m g G (PE (some (.int (bI (tks m x)))) (bif tks m x then xu m 3 3 (m 3 3 + 1) else m) g) := by
  refine CT.of (c := 6) (ini := false) (nL := 3) (rt := some .boolean) (tab := zt81) rfl (fun d' r h' N hd hr => ?_)
  replace hr : RR nf xs d' 6 false 3 (some .boolean) zt81 G r h' N (0, [(0, .ref 3), (1, .int x)], [], m, g) := hr
  have k1 : (1 : Int32).toInt = 1 := rfl
  have k700 : (Int32.ofNat 700).toInt = 700 := rfl
  replace hr := hr.go (s_aload_n t81_0 rfl)
  replace hr := hr.go (s_getf t81_1)
  rcases hr.zLt t81_4 with ⟨c1, hr⟩ | ⟨c1, hr⟩
  · replace hr := hr.go (s_k t81_47)
    replace hr := hr.go (s_istore_n t81_48 rfl)
    replace hr := hr.go (s_iload_n t81_49 rfl)
    rcases hr.zEq t81_50 with ⟨c2, hr⟩ | ⟨c2, hr⟩
    · replace hr := hr.go (s_iload_n t81_63 rfl)
      obtain ⟨rfl, hs⟩ := hr.iret t81_64
      exact ⟨_, _, hs, by (first | rw [tks_f1 (by omega)] | rw [tks_f2 (by assumption)]); exact ⟨rfl, rfl, rfl⟩⟩
    · exact absurd c2 (by decide)
  · replace hr := hr.go (s_aload_n t81_7 rfl)
    replace hr := hr.go (s_getf t81_8)
    replace hr := hr.go (s_aload_n t81_11 rfl)
    replace hr := hr.go (s_getf t81_12)
    rcases hr.bGe t81_15 with ⟨c3, hr⟩ | ⟨c3, hr⟩
    · replace hr := hr.go (s_k t81_47)
      replace hr := hr.go (s_istore_n t81_48 rfl)
      replace hr := hr.go (s_iload_n t81_49 rfl)
      rcases hr.zEq t81_50 with ⟨c4, hr⟩ | ⟨c4, hr⟩
      · replace hr := hr.go (s_iload_n t81_63 rfl)
        obtain ⟨rfl, hs⟩ := hr.iret t81_64
        exact ⟨_, _, hs, by (first | rw [tks_f1 (by omega)] | rw [tks_f2 (by assumption)]); exact ⟨rfl, rfl, rfl⟩⟩
      · exact absurd c4 (by decide)
    · replace hr := hr.go (s_aload_n t81_18 rfl)
      replace hr := hr.go (s_getf t81_19)
      replace hr := hr.go (s_aload_n t81_22 rfl)
      replace hr := hr.go (s_getr t81_23 (hG.2.1))
      replace hr := hr.go (s_alen t81_26 (hG.2.2.1))
      rcases hr.bGe t81_27 with ⟨c5, hr⟩ | ⟨c5, hr⟩
      · replace hr := hr.go (s_k t81_47)
        replace hr := hr.go (s_istore_n t81_48 rfl)
        replace hr := hr.go (s_iload_n t81_49 rfl)
        rcases hr.zEq t81_50 with ⟨c6, hr⟩ | ⟨c6, hr⟩
        · replace hr := hr.go (s_iload_n t81_63 rfl)
          obtain ⟨rfl, hs⟩ := hr.iret t81_64
          exact ⟨_, _, hs, by (first | rw [tks_f1 (by omega)] | rw [tks_f2 (by assumption)]); exact ⟨rfl, rfl, rfl⟩⟩
        · exact absurd c6 (by decide)
      · replace hr := hr.go (s_aload_n t81_30 rfl)
        replace hr := hr.go (s_getr t81_31 (hG.2.1))
        replace hr := hr.go (s_aload_n t81_34 rfl)
        replace hr := hr.go (s_getf t81_35)
        replace hr := hr.go (s_iaload t81_38 (hG.2.2.1))
        replace hr := hr.go (s_iload_n t81_39 rfl)
        rcases hr.bNe t81_40 with ⟨c7, hr⟩ | ⟨c7, hr⟩
        · replace hr := hr.go (s_k t81_47)
          replace hr := hr.go (s_istore_n t81_48 rfl)
          replace hr := hr.go (s_iload_n t81_49 rfl)
          rcases hr.zEq t81_50 with ⟨c8, hr⟩ | ⟨c8, hr⟩
          · replace hr := hr.go (s_iload_n t81_63 rfl)
            obtain ⟨rfl, hs⟩ := hr.iret t81_64
            exact ⟨_, _, hs, by (first | rw [tks_f1 (by omega)] | rw [tks_f2 (by assumption)]); exact ⟨rfl, rfl, rfl⟩⟩
          · exact absurd c8 (by decide)
        · replace hr := hr.go (s_k t81_43)
          replace hr := hr.go (s_goto t81_44)
          replace hr := hr.go (s_istore_n t81_48 rfl)
          replace hr := hr.go (s_iload_n t81_49 rfl)
          rcases hr.zEq t81_50 with ⟨c9, hr⟩ | ⟨c9, hr⟩
          · exact absurd c9 (by decide)
          · replace hr := hr.go (s_aload_n t81_53 rfl)
            replace hr := hr.go (s_dup t81_54 rfl)
            replace hr := hr.go (s_getf t81_55)
            replace hr := hr.go (s_k t81_58)
            replace hr := hr.go (s_iadd t81_59)
            replace hr := hr.go (s_putf t81_60)
            replace hr := hr.go (s_iload_n t81_63 rfl)
            obtain ⟨rfl, hs⟩ := hr.iret t81_64
            exact ⟨_, _, hs, by (rw [tks_t (by omega) (by assumption)]); exact ⟨rfl, rfl, rfl⟩⟩
end
section
/-! The class Scanner: signs and numbers. -/
theorem xne {x y : Int32} (h : ¬ x = y) : ¬ x.toInt = y.toInt := fun q => h (Int32.toInt_inj.mp q)
theorem RR.mono {nf : Bool} {xs : List Int32} {d c : Nat} {ini : Bool} {nL : Nat} {rt : Option FieldType} {tab : Nat → Option (Instr × Nat)} {G : xG} {r : Option Value} {h' : zH} {N N' : Nat} {a : xS} (hr : RR nf xs d c ini nL rt tab G r h' N a) (h : N ≤ N') : RR nf xs d c ini nL rt tab G r h' N' a := by
  obtain ⟨n, h1, h2⟩ := hr
  exact ⟨n, by omega, h2⟩
theorem RR.to {nf : Bool} {xs : List Int32} {d c : Nat} {ini : Bool} {nL : Nat} {rt : Option FieldType} {tab : Nat → Option (Instr × Nat)} {G : xG} {r : Option Value} {h' : zH} {N pc : Nat} {ls : zL} {st : List Value} {m m2 : xM} {g : xL} (hr : RR nf xs d c ini nL rt tab G r h' N (pc, ls, st, m, g)) (h : m = m2) : RR nf xs d c ini nL rt tab G r h' N (pc, ls, st, m2, g) := h ▸ hr
theorem xu_row {α : Type} {m : Nat → Nat → α} {a k b : Nat} {x : α} (h : ¬ b = a) : xu m a k x b = m b := by
  funext j
  exact xu_oth (fun q => h q.1)
def sgk (x : Int32) (m : xM) : Int32 × xM :=
  if x = 59 then (4, m) else if x = 40 then (5, m) else if x = 41 then (6, m) else if x = 43 then (10, m) else if x = 45 then (11, m) else if x = 42 then (12, m) else if x = 47 then (13, m) else if x = 61 then (16, m)
  else if x = 60 then (bif tks m 61 then (15, xu m 3 3 (m 3 3 + 1)) else bif tks m 62 then (17, xu m 3 3 (m 3 3 + 1)) else (14, m))
  else if x = 62 then (bif tks m 61 then (18, xu m 3 3 (m 3 3 + 1)) else (19, m)) else (1, m)
/-- the byte that is next -/
theorem pk_at {m : xM} {b : Nat → Int32} {n p : Nat} (h1 : m 1 = b) (h3 : m 3 3 = Int32.ofNat p) (h2 : m 3 2 = Int32.ofNat n) (hp : p < n) (hn : n ≤ 700) : pk m = b p := by
  unfold pk
  rw [h3, h2, xn_int (by omega), xn_int (by omega), if_pos (by omega), xn_nat (by omega), h1]
theorem pk_end {m : xM} {n p : Nat} (h3 : m 3 3 = Int32.ofNat p) (h2 : m 3 2 = Int32.ofNat n) (hp : p = n) (hn : n ≤ 700) : pk m = -1 := by
  unfold pk
  rw [h3, h2, xn_int (by omega), xn_int (by omega), if_neg (by omega)]
def fN (v c : Int32) : Int32 := if v.toInt < 1000000 then v * 10 + (c - 48) else v

theorem ct_sign {nf : Bool} {xs : List Int32} {d : Nat} {m : xM} {g : xL} {G : xG} {x : Int32} (hG : GS G) : CT nf xs d 80 [.ref 3, .int x] m g G (PE (some (.int (sgk x m).1)) (sgk x m).2 g) := by
  refine CT.of (c := 6) (ini := false) (nL := 2) (rt := some .int) (tab := zt80) rfl (fun d' r h' N hd hr => ?_)
  replace hr : RR nf xs d' 6 false 2 (some .int) zt80 G r h' N (0, [(0, .ref 3), (1, .int x)], [], m, g) := hr
  have k1 : (1 : Int32).toInt = 1 := rfl
  have k4 : (4 : Int32).toInt = 4 := rfl
  have k5 : (5 : Int32).toInt = 5 := rfl
  have k6 : (6 : Int32).toInt = 6 := rfl
  have k10 : (10 : Int32).toInt = 10 := rfl
  have k11 : (11 : Int32).toInt = 11 := rfl
  have k12 : (12 : Int32).toInt = 12 := rfl
  have k13 : (13 : Int32).toInt = 13 := rfl
  have k14 : (14 : Int32).toInt = 14 := rfl
  have k15 : (15 : Int32).toInt = 15 := rfl
  have k16 : (16 : Int32).toInt = 16 := rfl
  have k17 : (17 : Int32).toInt = 17 := rfl
  have k18 : (18 : Int32).toInt = 18 := rfl
  have k19 : (19 : Int32).toInt = 19 := rfl
  have k40 : (40 : Int32).toInt = 40 := rfl
  have k41 : (41 : Int32).toInt = 41 := rfl
  have k42 : (42 : Int32).toInt = 42 := rfl
  have k43 : (43 : Int32).toInt = 43 := rfl
  have k44 : (44 : Int32).toInt = 44 := rfl
  have k45 : (45 : Int32).toInt = 45 := rfl
  have k46 : (46 : Int32).toInt = 46 := rfl
  have k47 : (47 : Int32).toInt = 47 := rfl
  have k48 : (48 : Int32).toInt = 48 := rfl
  have k49 : (49 : Int32).toInt = 49 := rfl
  have k50 : (50 : Int32).toInt = 50 := rfl
  have k51 : (51 : Int32).toInt = 51 := rfl
  have k52 : (52 : Int32).toInt = 52 := rfl
  have k53 : (53 : Int32).toInt = 53 := rfl
  have k54 : (54 : Int32).toInt = 54 := rfl
  have k55 : (55 : Int32).toInt = 55 := rfl
  have k56 : (56 : Int32).toInt = 56 := rfl
  have k57 : (57 : Int32).toInt = 57 := rfl
  have k58 : (58 : Int32).toInt = 58 := rfl
  have k59 : (59 : Int32).toInt = 59 := rfl
  have k60 : (60 : Int32).toInt = 60 := rfl
  have k61 : (61 : Int32).toInt = 61 := rfl
  have k62 : (62 : Int32).toInt = 62 := rfl
  replace hr := hr.go (s_iload_n t80_0 rfl)
  by_cases e1_40 : x = 40
  · subst e1_40
    replace hr := hr.go (s_tswitch (q := 110) t80_1 (by decide) (by decide) rfl rfl)
    replace hr := hr.go (s_k t80_110)
    obtain ⟨rfl, hs⟩ := hr.iret t80_111
    exact ⟨_, _, hs, rfl, rfl, rfl⟩
  by_cases e1_41 : x = 41
  · subst e1_41
    replace hr := hr.go (s_tswitch (q := 112) t80_1 (by decide) (by decide) rfl rfl)
    replace hr := hr.go (s_k t80_112)
    obtain ⟨rfl, hs⟩ := hr.iret t80_114
    exact ⟨_, _, hs, rfl, rfl, rfl⟩
  by_cases e1_42 : x = 42
  · subst e1_42
    replace hr := hr.go (s_tswitch (q := 121) t80_1 (by decide) (by decide) rfl rfl)
    replace hr := hr.go (s_k t80_121)
    obtain ⟨rfl, hs⟩ := hr.iret t80_123
    exact ⟨_, _, hs, rfl, rfl, rfl⟩
  by_cases e1_43 : x = 43
  · subst e1_43
    replace hr := hr.go (s_tswitch (q := 115) t80_1 (by decide) (by decide) rfl rfl)
    replace hr := hr.go (s_k t80_115)
    obtain ⟨rfl, hs⟩ := hr.iret t80_117
    exact ⟨_, _, hs, rfl, rfl, rfl⟩
  by_cases e1_44 : x = 44
  · subst e1_44
    replace hr := hr.go (s_tswitch (q := 176) t80_1 (by decide) (by decide) rfl rfl)
    replace hr := hr.go (s_k t80_176)
    obtain ⟨rfl, hs⟩ := hr.iret t80_177
    exact ⟨_, _, hs, rfl, rfl, rfl⟩
  by_cases e1_45 : x = 45
  · subst e1_45
    replace hr := hr.go (s_tswitch (q := 118) t80_1 (by decide) (by decide) rfl rfl)
    replace hr := hr.go (s_k t80_118)
    obtain ⟨rfl, hs⟩ := hr.iret t80_120
    exact ⟨_, _, hs, rfl, rfl, rfl⟩
  by_cases e1_46 : x = 46
  · subst e1_46
    replace hr := hr.go (s_tswitch (q := 176) t80_1 (by decide) (by decide) rfl rfl)
    replace hr := hr.go (s_k t80_176)
    obtain ⟨rfl, hs⟩ := hr.iret t80_177
    exact ⟨_, _, hs, rfl, rfl, rfl⟩
  by_cases e1_47 : x = 47
  · subst e1_47
    replace hr := hr.go (s_tswitch (q := 124) t80_1 (by decide) (by decide) rfl rfl)
    replace hr := hr.go (s_k t80_124)
    obtain ⟨rfl, hs⟩ := hr.iret t80_126
    exact ⟨_, _, hs, rfl, rfl, rfl⟩
  by_cases e1_48 : x = 48
  · subst e1_48
    replace hr := hr.go (s_tswitch (q := 176) t80_1 (by decide) (by decide) rfl rfl)
    replace hr := hr.go (s_k t80_176)
    obtain ⟨rfl, hs⟩ := hr.iret t80_177
    exact ⟨_, _, hs, rfl, rfl, rfl⟩
  by_cases e1_49 : x = 49
  · subst e1_49
    replace hr := hr.go (s_tswitch (q := 176) t80_1 (by decide) (by decide) rfl rfl)
    replace hr := hr.go (s_k t80_176)
    obtain ⟨rfl, hs⟩ := hr.iret t80_177
    exact ⟨_, _, hs, rfl, rfl, rfl⟩
  by_cases e1_50 : x = 50
  · subst e1_50
    replace hr := hr.go (s_tswitch (q := 176) t80_1 (by decide) (by decide) rfl rfl)
    replace hr := hr.go (s_k t80_176)
    obtain ⟨rfl, hs⟩ := hr.iret t80_177
    exact ⟨_, _, hs, rfl, rfl, rfl⟩
  by_cases e1_51 : x = 51
  · subst e1_51
    replace hr := hr.go (s_tswitch (q := 176) t80_1 (by decide) (by decide) rfl rfl)
    replace hr := hr.go (s_k t80_176)
    obtain ⟨rfl, hs⟩ := hr.iret t80_177
    exact ⟨_, _, hs, rfl, rfl, rfl⟩
  by_cases e1_52 : x = 52
  · subst e1_52
    replace hr := hr.go (s_tswitch (q := 176) t80_1 (by decide) (by decide) rfl rfl)
    replace hr := hr.go (s_k t80_176)
    obtain ⟨rfl, hs⟩ := hr.iret t80_177
    exact ⟨_, _, hs, rfl, rfl, rfl⟩
  by_cases e1_53 : x = 53
  · subst e1_53
    replace hr := hr.go (s_tswitch (q := 176) t80_1 (by decide) (by decide) rfl rfl)
    replace hr := hr.go (s_k t80_176)
    obtain ⟨rfl, hs⟩ := hr.iret t80_177
    exact ⟨_, _, hs, rfl, rfl, rfl⟩
  by_cases e1_54 : x = 54
  · subst e1_54
    replace hr := hr.go (s_tswitch (q := 176) t80_1 (by decide) (by decide) rfl rfl)
    replace hr := hr.go (s_k t80_176)
    obtain ⟨rfl, hs⟩ := hr.iret t80_177
    exact ⟨_, _, hs, rfl, rfl, rfl⟩
  by_cases e1_55 : x = 55
  · subst e1_55
    replace hr := hr.go (s_tswitch (q := 176) t80_1 (by decide) (by decide) rfl rfl)
    replace hr := hr.go (s_k t80_176)
    obtain ⟨rfl, hs⟩ := hr.iret t80_177
    exact ⟨_, _, hs, rfl, rfl, rfl⟩
  by_cases e1_56 : x = 56
  · subst e1_56
    replace hr := hr.go (s_tswitch (q := 176) t80_1 (by decide) (by decide) rfl rfl)
    replace hr := hr.go (s_k t80_176)
    obtain ⟨rfl, hs⟩ := hr.iret t80_177
    exact ⟨_, _, hs, rfl, rfl, rfl⟩
  by_cases e1_57 : x = 57
  · subst e1_57
    replace hr := hr.go (s_tswitch (q := 176) t80_1 (by decide) (by decide) rfl rfl)
    replace hr := hr.go (s_k t80_176)
    obtain ⟨rfl, hs⟩ := hr.iret t80_177
    exact ⟨_, _, hs, rfl, rfl, rfl⟩
  by_cases e1_58 : x = 58
  · subst e1_58
    replace hr := hr.go (s_tswitch (q := 176) t80_1 (by decide) (by decide) rfl rfl)
    replace hr := hr.go (s_k t80_176)
    obtain ⟨rfl, hs⟩ := hr.iret t80_177
    exact ⟨_, _, hs, rfl, rfl, rfl⟩
  by_cases e1_59 : x = 59
  · subst e1_59
    replace hr := hr.go (s_tswitch (q := 108) t80_1 (by decide) (by decide) rfl rfl)
    replace hr := hr.go (s_k t80_108)
    obtain ⟨rfl, hs⟩ := hr.iret t80_109
    exact ⟨_, _, hs, rfl, rfl, rfl⟩
  by_cases e1_60 : x = 60
  · subst e1_60
    replace hr := hr.go (s_tswitch (q := 130) t80_1 (by decide) (by decide) rfl rfl)
    replace hr := hr.go (s_aload_n t80_130 rfl)
    replace hr := hr.go (s_k t80_131)
    replace hr := hr.cvI t80_133 rfl rfl (ct_takes hG)
    rcases hr.zEq t80_136 with ⟨c1, hr⟩ | ⟨c1, hr⟩
    · rw [bI_0 c1, cond_false] at hr
      replace hr := hr.go (s_aload_n t80_142 rfl)
      replace hr := hr.go (s_k t80_143)
      replace hr := hr.cvI t80_145 rfl rfl (ct_takes hG)
      rcases hr.zEq t80_148 with ⟨c2, hr⟩ | ⟨c2, hr⟩
      · rw [bI_0 c2, cond_false] at hr
        replace hr := hr.go (s_k t80_156)
        obtain ⟨rfl, hs⟩ := hr.iret t80_158
        exact ⟨_, _, hs, by unfold sgk PE; rw [bI_0 c1, bI_0 c2]; exact ⟨rfl, rfl, rfl⟩⟩
      · rw [bI_1 c2, cond_true] at hr
        replace hr := hr.go (s_k t80_151)
        replace hr := hr.go (s_goto t80_153)
        obtain ⟨rfl, hs⟩ := hr.iret t80_158
        exact ⟨_, _, hs, by unfold sgk PE; rw [bI_0 c1, bI_1 c2]; exact ⟨rfl, rfl, rfl⟩⟩
    · rw [bI_1 c1, cond_true] at hr
      replace hr := hr.go (s_k t80_139)
      obtain ⟨rfl, hs⟩ := hr.iret t80_141
      exact ⟨_, _, hs, by unfold sgk PE; rw [bI_1 c1]; exact ⟨rfl, rfl, rfl⟩⟩
  by_cases e1_61 : x = 61
  · subst e1_61
    replace hr := hr.go (s_tswitch (q := 127) t80_1 (by decide) (by decide) rfl rfl)
    replace hr := hr.go (s_k t80_127)
    obtain ⟨rfl, hs⟩ := hr.iret t80_129
    exact ⟨_, _, hs, rfl, rfl, rfl⟩
  by_cases e1_62 : x = 62
  · subst e1_62
    replace hr := hr.go (s_tswitch (q := 159) t80_1 (by decide) (by decide) rfl rfl)
    replace hr := hr.go (s_aload_n t80_159 rfl)
    replace hr := hr.go (s_k t80_160)
    replace hr := hr.cvI t80_162 rfl rfl (ct_takes hG)
    rcases hr.zEq t80_165 with ⟨c3, hr⟩ | ⟨c3, hr⟩
    · rw [bI_0 c3, cond_false] at hr
      replace hr := hr.go (s_k t80_173)
      obtain ⟨rfl, hs⟩ := hr.iret t80_175
      exact ⟨_, _, hs, by unfold sgk PE; rw [bI_0 c3]; exact ⟨rfl, rfl, rfl⟩⟩
    · rw [bI_1 c3, cond_true] at hr
      replace hr := hr.go (s_k t80_168)
      replace hr := hr.go (s_goto t80_170)
      obtain ⟨rfl, hs⟩ := hr.iret t80_175
      exact ⟨_, _, hs, by unfold sgk PE; rw [bI_1 c3]; exact ⟨rfl, rfl, rfl⟩⟩
  replace hr := hr.go (s_tswitchD (q := 176) t80_1 (by have := xne e1_40; have := xne e1_41; have := xne e1_42; have := xne e1_43; have := xne e1_44; have := xne e1_45; have := xne e1_46; have := xne e1_47; have := xne e1_48; have := xne e1_49; have := xne e1_50; have := xne e1_51; have := xne e1_52; have := xne e1_53; have := xne e1_54; have := xne e1_55; have := xne e1_56; have := xne e1_57; have := xne e1_58; have := xne e1_59; have := xne e1_60; have := xne e1_61; have := xne e1_62; omega) rfl)
  replace hr := hr.go (s_k t80_176)
  obtain ⟨rfl, hs⟩ := hr.iret t80_177
  exact ⟨_, _, hs, by unfold sgk PE; (repeat rw [if_neg (by assumption)]); exact ⟨rfl, rfl, rfl⟩⟩
end
section
/-! The class Scanner: numbers. -/
theorem lp79 {nf : Bool} {xs : List Int32} {d : Nat} {g : xL} {G : xG} {r : Option Value} {h' : zH} {b : Nat → Int32} {n : Nat} (hG : GS G) (hn : n ≤ 700) : ∀ (N : Nat) (p : Nat) (m : xM) (v : Int32), m 1 = b → m 3 3 = Int32.ofNat p → m 3 2 = Int32.ofNat n → m 3 5 = v → p ≤ n → RR nf xs d 6 false 1 (none) zt79 G r h' N (5, [(0, .ref 3)], [], m, g) → RR nf xs d 6 false 1 (none) zt79 G r h' N (67, [(0, .ref 3)], [], xu (xu m 3 5 (scn dgt fN b n p v).2) 3 3 (Int32.ofNat (scn dgt fN b n p v).1), g) := by
  have k1 : (1 : Int32).toInt = 1 := rfl
  have k2 : (2 : Int32).toInt = 2 := rfl
  have k10 : (10 : Int32).toInt = 10 := rfl
  have k48 : (48 : Int32).toInt = 48 := rfl
  intro N
  induction N with
  | zero => intro p m v h1 h2 h3 h4 h5 hr; exact hr.no.elim
  | succ N ih =>
    intro p m v h1 h2 h3 h4 h5 hr
    have k1M : (1000000 : Int32).toInt = 1000000 := rfl
    replace hr := hr.go1 (s_aload_n t79_5 rfl)
    replace hr := hr.go (s_getf t79_6)
    replace hr := hr.go (s_aload_n t79_9 rfl)
    replace hr := hr.go (s_getf t79_10)
    rcases hr.bGe t79_13 with ⟨c1, hr⟩ | ⟨c1, hr⟩
    · refine (hr.mono (by omega)).to ?_
      rw [scn_f (fun q => by rw [h2, h3, xn_int (by omega), xn_int (by omega)] at c1; omega)]
      dsimp only
      rw [xu_id (a := 3) (k := 5) h4, xu_id h2]
    · have hp : p < n := by rw [h2, h3, xn_int (by omega), xn_int (by omega)] at c1; omega
      have hpk : pk m = b p := pk_at h1 h2 h3 hp hn
      replace hr := hr.go (s_aload_n t79_16 rfl)
      replace hr := hr.cvI t79_17 rfl rfl (ct_peek hG)
      rw [hpk] at hr
      replace hr := hr.csI t79_20 rfl rfl (ct_isDigit)
      rcases hr.zEq t79_23 with ⟨c2, hr⟩ | ⟨c2, hr⟩
      · refine (hr.mono (by omega)).to ?_
        rw [scn_f (fun _ => bI_0 c2)]
        dsimp only
        rw [xu_id (a := 3) (k := 5) h4, xu_id h2]
      · replace hr := hr.go (s_aload_n t79_26 rfl)
        replace hr := hr.go (s_getf t79_27)
        replace hr := hr.go (s_ldc t79_30 rfl)
        rcases hr.bGe t79_32 with ⟨c3, hr⟩ | ⟨c3, hr⟩
        · replace hr := hr.go (s_aload_n t79_54 rfl)
          replace hr := hr.go (s_dup t79_55 rfl)
          replace hr := hr.go (s_getf t79_56)
          replace hr := hr.go (s_k t79_59)
          replace hr := hr.go (s_iadd t79_60)
          replace hr := hr.go (s_putf t79_61)
          replace hr := hr.go (s_goto t79_64)
          refine ((ih (p + 1) _ (fN v (b p)) ?_ ?_ ?_ ?_ hp hr).mono (by omega)).to ?_
          · rw [xu_row (by decide)]; first | (rw [xu_row (by decide)]; exact h1) | exact h1
          · rw [xu_same]; first | (rw [xu_oth (by decide), h2, xn_1]) | (rw [h2, xn_1])
          · rw [xu_oth (by decide)]; first | (rw [xu_oth (by decide), h3]) | (rw [h3])
          · rw [xu_oth (by decide)]; unfold fN; first | (rw [xu_same, if_pos (by rw [← h4]; omega), h4]) | (rw [if_neg (by rw [← h4]; omega), h4])
          · rw [scn_t hp (bI_1 c2)]
            funext a k
            simp only [xu]
            (repeat' split) <;> first | rfl | omega
        · replace hr := hr.go (s_aload_n t79_35 rfl)
          replace hr := hr.go (s_aload_n t79_36 rfl)
          replace hr := hr.go (s_getf t79_37)
          replace hr := hr.go (s_k t79_40)
          replace hr := hr.go (s_imul t79_42)
          replace hr := hr.go (s_aload_n t79_43 rfl)
          replace hr := hr.cvI t79_44 rfl rfl (ct_peek hG)
          rw [hpk] at hr
          replace hr := hr.go (s_k t79_47)
          replace hr := hr.go (s_isub t79_49)
          replace hr := hr.go (s_iadd t79_50)
          replace hr := hr.go (s_putf t79_51)
          replace hr := hr.go (s_aload_n t79_54 rfl)
          replace hr := hr.go (s_dup t79_55 rfl)
          replace hr := hr.go (s_getf t79_56)
          replace hr := hr.go (s_k t79_59)
          replace hr := hr.go (s_iadd t79_60)
          replace hr := hr.go (s_putf t79_61)
          replace hr := hr.go (s_goto t79_64)
          refine ((ih (p + 1) _ (fN v (b p)) ?_ ?_ ?_ ?_ hp hr).mono (by omega)).to ?_
          · rw [xu_row (by decide)]; first | (rw [xu_row (by decide)]; exact h1) | exact h1
          · rw [xu_same]; first | (rw [xu_oth (by decide), h2, xn_1]) | (rw [h2, xn_1])
          · rw [xu_oth (by decide)]; first | (rw [xu_oth (by decide), h3]) | (rw [h3])
          · rw [xu_oth (by decide)]; unfold fN; first | (rw [xu_same, if_pos (by rw [← h4]; omega), h4]) | (rw [if_neg (by rw [← h4]; omega), h4])
          · rw [scn_t hp (bI_1 c2)]
            funext a k
            simp only [xu]
            (repeat' split) <;> first | rfl | omega

theorem ct_number {nf : Bool} {xs : List Int32} {d : Nat} {m : xM} {g : xL} {G : xG} {b : Nat → Int32} {n p : Nat} (hG : GS G) (hn : n ≤ 700) (h1 : m 1 = b) (h2 : m 3 3 = Int32.ofNat p) (h3 : m 3 2 = Int32.ofNat n) (hp : p ≤ n) : CT nf xs d 79 [.ref 3] m g G (PE none (xu (xu (xu m 3 4 2) 3 5 (scn dgt fN b n p (m 3 5)).2) 3 3 (Int32.ofNat (scn dgt fN b n p (m 3 5)).1)) g) := by
  refine CT.of (c := 6) (ini := false) (nL := 1) (rt := none) (tab := zt79) rfl (fun d' r h' N hd hr => ?_)
  replace hr : RR nf xs d' 6 false 1 none zt79 G r h' N (0, [(0, .ref 3)], [], m, g) := hr
  replace hr := hr.go (s_aload_n t79_0 rfl)
  replace hr := hr.go (s_k t79_1)
  replace hr := hr.go (s_putf t79_2)
  replace hr := lp79 (b := b) hG hn N p _ (m 3 5) (by rw [xu_row (by decide)]; exact h1) (by rw [xu_oth (by decide)]; exact h2) (by rw [xu_oth (by decide)]; exact h3) (by rw [xu_oth (by decide)]) hp hr
  obtain ⟨rfl, hs⟩ := hr.ret t79_67
  exact ⟨_, _, hs, rfl, rfl, rfl⟩
end
section
/-! The class Scanner: words. -/
def fW (s : Int32 × Int32) (c : Int32) : Int32 × Int32 := (s.1 + 1, if s.1.toInt < 6 then s.2 <<< (5 &&& 31) ||| (c - 97 + 1) else s.2)
def wlk (wd : Nat → Int32) (v : Int32) : Nat → Nat → Int32 → Int32
  | 0, _, k => k
  | f + 1, w, k => wlk wd v f (w + 1) (if wd w = v then 32 + Int32.ofNat w else k)

theorem lp78 {nf : Bool} {xs : List Int32} {d : Nat} {g : xL} {G : xG} {r : Option Value} {h' : zH} {b : Nat → Int32} {n : Nat} (hG : GS G) (hn : n ≤ 700) : ∀ (N : Nat) (p : Nat) (m : xM) (x y : Int32), m 1 = b → m 3 3 = Int32.ofNat p → m 3 2 = Int32.ofNat n → p ≤ n → RR nf xs d 6 false 4 (none) zt78 G r h' N (4, [(1, .int x), (2, .int y), (0, .ref 3)], [], m, g) → RR nf xs d 6 false 4 (none) zt78 G r h' N (61, [(1, .int (scn ltr fW b n p (x, y)).2.1), (2, .int (scn ltr fW b n p (x, y)).2.2), (0, .ref 3)], [], xu m 3 3 (Int32.ofNat (scn ltr fW b n p (x, y)).1), g) := by
  have k1 : (1 : Int32).toInt = 1 := rfl
  have k3 : (3 : Int32).toInt = 3 := rfl
  have k5 : (5 : Int32).toInt = 5 := rfl
  have k6 : (6 : Int32).toInt = 6 := rfl
  have k32 : (32 : Int32).toInt = 32 := rfl
  have k97 : (97 : Int32).toInt = 97 := rfl
  intro N
  induction N with
  | zero => intro p m x y h1 h2 h3 h4 hr; exact hr.no.elim
  | succ N ih =>
    intro p m x y h1 h2 h3 h4 hr
    replace hr := hr.go1 (s_aload_n t78_4 rfl)
    replace hr := hr.go (s_getf t78_5)
    replace hr := hr.go (s_aload_n t78_8 rfl)
    replace hr := hr.go (s_getf t78_9)
    rcases hr.bGe t78_12 with ⟨c1, hr⟩ | ⟨c1, hr⟩
    · rw [scn_f (fun q => by rw [h2, h3, xn_int (by omega), xn_int (by omega)] at c1; omega)]
      refine (hr.mono (by omega)).to ?_
      exact (xu_id h2).symm
    · have hp : p < n := by rw [h2, h3, xn_int (by omega), xn_int (by omega)] at c1; omega
      have hpk : pk m = b p := pk_at h1 h2 h3 hp hn
      replace hr := hr.go (s_aload_n t78_15 rfl)
      replace hr := hr.cvI t78_16 rfl rfl (ct_peek hG)
      rw [hpk] at hr
      replace hr := hr.csI t78_19 rfl rfl (ct_isLetter)
      rcases hr.zEq t78_22 with ⟨c2, hr⟩ | ⟨c2, hr⟩
      · rw [scn_f (fun _ => bI_0 c2)]
        refine (hr.mono (by omega)).to ?_
        exact (xu_id h2).symm
      · replace hr := hr.go (s_iload_n t78_25 rfl)
        replace hr := hr.go (s_k t78_26)
        rcases hr.bGe t78_28 with ⟨c3, hr⟩ | ⟨c3, hr⟩
        · skip
          replace hr := hr.go (s_iinc (ls' := [(1, _), (2, _), (0, _)]) t78_45 rfl rfl)
          replace hr := hr.go (s_aload_n t78_48 rfl)
          replace hr := hr.go (s_dup t78_49 rfl)
          replace hr := hr.go (s_getf t78_50)
          replace hr := hr.go (s_k t78_53)
          replace hr := hr.go (s_iadd t78_54)
          replace hr := hr.go (s_putf t78_55)
          replace hr := hr.go (s_goto t78_58)
          have hf : fW (x, y) (b p) = (x + 1, y) := by
            unfold fW
            rw [if_neg (by dsimp only; omega)]
          have e := scn_t (f := fW) (s := (x, y)) hp (bI_1 c2)
          rw [hf] at e
          rw [e]
          refine ((ih (p + 1) _ (x + 1) _ ?_ ?_ ?_ hp hr).mono (by omega)).to ?_
          · rw [xu_row (by decide)]; exact h1
          · rw [xu_same, h2, xn_1]
          · rw [xu_oth (by decide), h3]
          · exact xu_xu
        · have h6 := c3
          replace hr := hr.go (s_iload_n t78_31 rfl)
          replace hr := hr.go (s_k t78_32)
          replace hr := hr.go (s_ishl t78_33)
          replace hr := hr.go (s_aload_n t78_34 rfl)
          replace hr := hr.cvI t78_35 rfl rfl (ct_peek hG)
          rw [hpk] at hr
          replace hr := hr.go (s_k t78_38)
          replace hr := hr.go (s_isub t78_40)
          replace hr := hr.go (s_k t78_41)
          replace hr := hr.go (s_iadd t78_42)
          replace hr := hr.go (s_ior t78_43)
          replace hr := hr.go (s_istore_n (ls' := [(2, _), (1, _), (0, _)]) t78_44 rfl)
          skip
          replace hr := hr.go (s_iinc (ls' := [(1, _), (2, _), (0, _)]) t78_45 rfl rfl)
          replace hr := hr.go (s_aload_n t78_48 rfl)
          replace hr := hr.go (s_dup t78_49 rfl)
          replace hr := hr.go (s_getf t78_50)
          replace hr := hr.go (s_k t78_53)
          replace hr := hr.go (s_iadd t78_54)
          replace hr := hr.go (s_putf t78_55)
          replace hr := hr.go (s_goto t78_58)
          have hf : fW (x, y) (b p) = (x + 1, y <<< (5 &&& 31) ||| (b p - 97 + 1)) := by
            unfold fW
            rw [if_pos (by dsimp only; omega)]
          have e := scn_t (f := fW) (s := (x, y)) hp (bI_1 c2)
          rw [hf] at e
          rw [e]
          refine ((ih (p + 1) _ (x + 1) _ ?_ ?_ ?_ hp hr).mono (by omega)).to ?_
          · rw [xu_row (by decide)]; exact h1
          · rw [xu_same, h2, xn_1]
          · rw [xu_oth (by decide), h3]
          · exact xu_xu

theorem lw78 {nf : Bool} {xs : List Int32} {d : Nat} {g : xL} {G : xG} {r : Option Value} {h' : zH} {wd : Nat → Int32} {x y v : Int32} (hG : GS G) : ∀ (N : Nat) (w : Nat) (m : xM), m 4 = wd → m 3 5 = v → w ≤ 22 → RR nf xs d 6 false 4 (none) zt78 G r h' N (92, [(3, .int (Int32.ofNat w)), (1, .int x), (2, .int y), (0, .ref 3)], [], m, g) → RR nf xs d 6 false 4 (none) zt78 G r h' N (128, [(3, .int (Int32.ofNat 22)), (1, .int x), (2, .int y), (0, .ref 3)], [], xu m 3 4 (wlk wd v (22 - w) w (m 3 4)), g) := by
  have k1 : (1 : Int32).toInt = 1 := rfl
  have k3 : (3 : Int32).toInt = 3 := rfl
  have k5 : (5 : Int32).toInt = 5 := rfl
  have k6 : (6 : Int32).toInt = 6 := rfl
  have k32 : (32 : Int32).toInt = 32 := rfl
  have k97 : (97 : Int32).toInt = 97 := rfl
  intro N
  induction N with
  | zero => intro w m h1 h2 h3 hr; exact hr.no.elim
  | succ N ih =>
    intro w m h1 h2 h3 hr
    have k22 : (Int32.ofNat 22).toInt = 22 := rfl
    replace hr := hr.go1 (s_iload_n t78_92 rfl)
    replace hr := hr.go (s_aload_n t78_93 rfl)
    replace hr := hr.go (s_getr t78_94 (hG.1))
    replace hr := hr.go (s_alen t78_97 (hG.2.2.2))
    rcases hr.bGe t78_98 with ⟨c1, hr⟩ | ⟨c1, hr⟩
    · have hw : w = 22 := by rw [k22, xn_int (by omega)] at c1; omega
      subst hw
      refine (hr.mono (by omega)).to ?_
      exact (xu_id rfl).symm
    · have hw : w + 1 ≤ 22 := by rw [k22, xn_int (by omega)] at c1; omega
      replace hr := hr.go (s_aload_n t78_101 rfl)
      replace hr := hr.go (s_getr t78_102 (hG.1))
      replace hr := hr.go (s_iload_n t78_105 rfl)
      replace hr := hr.go (s_iaload t78_106 (hG.2.2.2))
      replace hr := hr.go (s_aload_n t78_107 rfl)
      replace hr := hr.go (s_getf t78_108)
      rcases hr.bNe t78_111 with ⟨c2, hr⟩ | ⟨c2, hr⟩
      · replace hr := hr.go (s_iinc (ls' := [(3, _), (1, _), (2, _), (0, _)]) t78_122 rfl rfl)
        replace hr := hr.go (s_goto t78_125)
        rw [show 22 - w = (22 - (w + 1)) + 1 by omega]
        show RR _ _ _ _ _ _ _ _ _ _ _ (N + 1) (_, _, _, xu m 3 4 (wlk wd v (22 - (w + 1)) (w + 1) (if wd w = v then 32 + Int32.ofNat w else m 3 4)), g)
        rw [if_neg (by rw [← h1, ← h2]; rw [xn_nat (by omega)] at c2; exact c2)]
        refine ((ih (w + 1) _ ?_ ?_ hw (xn_1 ▸ hr)).mono (by omega)).to ?_
        · exact h1
        · exact h2
        · rfl
      · replace hr := hr.go (s_aload_n t78_114 rfl)
        replace hr := hr.go (s_k t78_115)
        replace hr := hr.go (s_iload_n t78_117 rfl)
        replace hr := hr.go (s_iadd t78_118)
        replace hr := hr.go (s_putf t78_119)
        replace hr := hr.go (s_iinc (ls' := [(3, _), (1, _), (2, _), (0, _)]) t78_122 rfl rfl)
        replace hr := hr.go (s_goto t78_125)
        rw [show 22 - w = (22 - (w + 1)) + 1 by omega]
        show RR _ _ _ _ _ _ _ _ _ _ _ (N + 1) (_, _, _, xu m 3 4 (wlk wd v (22 - (w + 1)) (w + 1) (if wd w = v then 32 + Int32.ofNat w else m 3 4)), g)
        rw [if_pos (by rw [← h1, ← h2]; rw [xn_nat (by omega)] at c2; exact c2)]
        refine ((ih (w + 1) _ ?_ ?_ hw (xn_1 ▸ hr)).mono (by omega)).to ?_
        · rw [xu_row (by decide)]; exact h1
        · rw [xu_oth (by decide)]; exact h2
        · rw [xu_xu, xu_same]

theorem ct_word {nf : Bool} {xs : List Int32} {d : Nat} {m : xM} {g : xL} {G : xG} {b wd : Nat → Int32} {n p : Nat} (hG : GS G) (hn : n ≤ 700) (h1 : m 1 = b) (h2 : m 3 3 = Int32.ofNat p) (h3 : m 3 2 = Int32.ofNat n) (h4 : m 4 = wd) (hp : p < n) (hq : ltr (b p) = true) : CT nf xs d 78 [.ref 3] m g G (PE none (if 6 < (scn ltr fW b n p (0, 0)).2.1.toInt then xu (xu m 3 3 (Int32.ofNat (scn ltr fW b n p (0, 0)).1)) 3 4 1 else xu (xu (xu m 3 3 (Int32.ofNat (scn ltr fW b n p (0, 0)).1)) 3 5 ((scn ltr fW b n p (0, 0)).2.2 <<< ((5 * (6 - (scn ltr fW b n p (0, 0)).2.1)) &&& 31))) 3 4 (wlk wd ((scn ltr fW b n p (0, 0)).2.2 <<< ((5 * (6 - (scn ltr fW b n p (0, 0)).2.1)) &&& 31)) 22 0 3)) g) := by
  refine CT.of (c := 6) (ini := false) (nL := 4) (rt := none) (tab := zt78) rfl (fun d' r h' N hd hr => ?_)
  replace hr : RR nf xs d' 6 false 4 (none) zt78 G r h' N (0, [(0, .ref 3)], [], m, g) := hr
  have k1 : (1 : Int32).toInt = 1 := rfl
  have k3 : (3 : Int32).toInt = 3 := rfl
  have k5 : (5 : Int32).toInt = 5 := rfl
  have k6 : (6 : Int32).toInt = 6 := rfl
  have k32 : (32 : Int32).toInt = 32 := rfl
  have k97 : (97 : Int32).toInt = 97 := rfl
  have hpk : pk m = b p := pk_at h1 h2 h3 hp hn
  replace hr := hr.go (s_k t78_0)
  replace hr := hr.go (s_istore_n (ls' := [(1, _), (0, _)]) t78_1 rfl)
  replace hr := hr.go (s_k t78_2)
  replace hr := hr.go (s_istore_n (ls' := [(2, _), (1, _), (0, _)]) t78_3 rfl)
  replace hr := hr.go (s_aload_n t78_4 rfl)
  replace hr := hr.go (s_getf t78_5)
  replace hr := hr.go (s_aload_n t78_8 rfl)
  replace hr := hr.go (s_getf t78_9)
  rcases hr.bGe t78_12 with ⟨c1, hr⟩ | ⟨c1, hr⟩
  · rw [h2, h3, xn_int (by omega), xn_int (by omega)] at c1; omega
  · replace hr := hr.go (s_aload_n t78_15 rfl)
    replace hr := hr.cvI t78_16 rfl rfl (ct_peek hG)
    rw [hpk] at hr
    replace hr := hr.csI t78_19 rfl rfl (ct_isLetter)
    rcases hr.zEq t78_22 with ⟨c2, hr⟩ | ⟨c2, hr⟩
    · have c2 := bI_0 c2; rw [hq] at c2; cases c2
    · replace hr := hr.go (s_iload_n t78_25 rfl)
      replace hr := hr.go (s_k t78_26)
      rcases hr.bGe t78_28 with ⟨c3, hr⟩ | ⟨c3, hr⟩
      · exact absurd c3 (by decide)
      · replace hr := hr.go (s_iload_n t78_31 rfl)
        replace hr := hr.go (s_k t78_32)
        replace hr := hr.go (s_ishl t78_33)
        replace hr := hr.go (s_aload_n t78_34 rfl)
        replace hr := hr.cvI t78_35 rfl rfl (ct_peek hG)
        rw [hpk] at hr
        replace hr := hr.go (s_k t78_38)
        replace hr := hr.go (s_isub t78_40)
        replace hr := hr.go (s_k t78_41)
        replace hr := hr.go (s_iadd t78_42)
        replace hr := hr.go (s_ior t78_43)
        replace hr := hr.go (s_istore_n (ls' := [(2, _), (1, _), (0, _)]) t78_44 rfl)
        replace hr := hr.go (s_iinc (ls' := [(1, _), (2, _), (0, _)]) t78_45 rfl rfl)
        replace hr := hr.go (s_aload_n t78_48 rfl)
        replace hr := hr.go (s_dup t78_49 rfl)
        replace hr := hr.go (s_getf t78_50)
        replace hr := hr.go (s_k t78_53)
        replace hr := hr.go (s_iadd t78_54)
        replace hr := hr.go (s_putf t78_55)
        replace hr := hr.go (s_goto t78_58)
        have hf : fW (0, 0) (b p) = ((0 : Int32) + 1, (0 : Int32) <<< (5 &&& 31) ||| (b p - 97 + 1)) := rfl
        have e := scn_t (f := fW) (s := ((0 : Int32), (0 : Int32))) hp hq
        rw [hf] at e
        replace hr := lp78 (b := b) hG hn N (p + 1) _ (0 + 1) _ (by rw [xu_row (by decide)]; exact h1) (by rw [xu_same, h2, xn_1]) (by rw [xu_oth (by decide), h3]) hp hr
        rw [xu_xu, ← e] at hr
        generalize scn ltr fW b n p (0, 0) = S at hr ⊢
        replace hr := hr.go (s_iload_n t78_61 rfl)
        replace hr := hr.go (s_k t78_62)
        rcases hr.bLe t78_64 with ⟨c21, hr⟩ | ⟨c21, hr⟩
        · replace hr := hr.go (s_aload_n t78_73 rfl)
          replace hr := hr.go (s_iload_n t78_74 rfl)
          replace hr := hr.go (s_k t78_75)
          replace hr := hr.go (s_k t78_76)
          replace hr := hr.go (s_iload_n t78_78 rfl)
          replace hr := hr.go (s_isub t78_79)
          replace hr := hr.go (s_imul t78_80)
          replace hr := hr.go (s_ishl t78_81)
          replace hr := hr.go (s_putf t78_82)
          replace hr := hr.go (s_aload_n t78_85 rfl)
          replace hr := hr.go (s_k t78_86)
          replace hr := hr.go (s_putf t78_87)
          replace hr := hr.go (s_k t78_90)
          replace hr := hr.go (s_istore_n (ls' := [(3, _), (1, _), (2, _), (0, _)]) t78_91 rfl)
          replace hr := lw78 (wd := wd) hG N 0 _ (by rw [xu_row (by decide), xu_row (by decide), xu_row (by decide)]; exact h4) (by rw [xu_oth (by decide), xu_same]) (by omega) hr
          obtain ⟨rfl, hs⟩ := hr.ret t78_128
          exact ⟨_, _, hs, by rw [if_neg (by omega), xu_xu, xu_same]; exact ⟨rfl, rfl, rfl⟩⟩
        · replace hr := hr.go (s_aload_n t78_67 rfl)
          replace hr := hr.go (s_k t78_68)
          replace hr := hr.go (s_putf t78_69)
          obtain ⟨rfl, hs⟩ := hr.ret t78_72
          exact ⟨_, _, hs, by rw [if_pos (by omega)]; exact ⟨rfl, rfl, rfl⟩⟩
end
section
/-! The class Scanner: the next token. -/
def fU (u : Unit) (_ : Int32) : Unit := u
def sg (x y : Int32) : Int32 × Nat :=
  if x = 59 then (4, 1) else if x = 40 then (5, 1) else if x = 41 then (6, 1) else if x = 43 then (10, 1) else if x = 45 then (11, 1) else if x = 42 then (12, 1) else if x = 47 then (13, 1) else if x = 61 then (16, 1)
  else if x = 60 then (bif decide (y = 61) then (15, 2) else bif decide (y = 62) then (17, 2) else (14, 1))
  else if x = 62 then (bif decide (y = 61) then (18, 2) else (19, 1)) else (1, 1)
/-- the byte behind, or none -/
def nxb (b : Nat → Int32) (n s : Nat) : Int32 := if s + 1 < n then b (s + 1) else -1
theorem tks_y {M : xM} {b : Nat → Int32} {n s : Nat} {c : Int32} (h1 : M 1 = b) (h2 : M 3 3 = Int32.ofNat (s + 1)) (h3 : M 3 2 = Int32.ofNat n) (hs : s + 1 ≤ n) (hn : n ≤ 700) (hc : ¬ c = -1) : tks M c = decide (nxb b n s = c) := by
  unfold nxb
  rcases Nat.lt_or_ge (s + 1) n with h | h
  · rw [if_pos h]
    by_cases hb : b (s + 1) = c
    · rw [tks_t (by rw [h2, h3, xn_int (by omega), xn_int (by omega)]; omega) (by rw [h1, h2, xn_nat (by omega)]; exact hb), decide_eq_true hb]
    · rw [tks_f2 (by rw [h1, h2, xn_nat (by omega)]; exact hb), decide_eq_false hb]
  · rw [if_neg (by omega), tks_f1 (by rw [h2, h3, xn_int (by omega), xn_int (by omega)]; omega), decide_eq_false (fun q => hc q.symm)]
theorem sgk_sg {M : xM} {b : Nat → Int32} {n s : Nat} {x : Int32} (h1 : M 1 = b) (h2 : M 3 3 = Int32.ofNat (s + 1)) (h3 : M 3 2 = Int32.ofNat n) (hs : s + 1 ≤ n) (hn : n ≤ 700) : sgk x M = ((sg x (nxb b n s)).1, xu M 3 3 (Int32.ofNat (s + (sg x (nxb b n s)).2))) := by
  have e1 : xu M 3 3 (Int32.ofNat (s + 1)) = M := xu_id h2
  have e2 : xu M 3 3 (M 3 3 + 1) = xu M 3 3 (Int32.ofNat (s + 2)) := by rw [h2, xn_1]
  unfold sgk sg
  rw [tks_y h1 h2 h3 hs hn (by decide), tks_y h1 h2 h3 hs hn (by decide), e2]
  by_cases c1 : x = 59
  · rw [if_pos c1, if_pos c1, e1]
  rw [if_neg c1, if_neg c1]
  by_cases c1 : x = 40
  · rw [if_pos c1, if_pos c1, e1]
  rw [if_neg c1, if_neg c1]
  by_cases c1 : x = 41
  · rw [if_pos c1, if_pos c1, e1]
  rw [if_neg c1, if_neg c1]
  by_cases c1 : x = 43
  · rw [if_pos c1, if_pos c1, e1]
  rw [if_neg c1, if_neg c1]
  by_cases c1 : x = 45
  · rw [if_pos c1, if_pos c1, e1]
  rw [if_neg c1, if_neg c1]
  by_cases c1 : x = 42
  · rw [if_pos c1, if_pos c1, e1]
  rw [if_neg c1, if_neg c1]
  by_cases c1 : x = 47
  · rw [if_pos c1, if_pos c1, e1]
  rw [if_neg c1, if_neg c1]
  by_cases c1 : x = 61
  · rw [if_pos c1, if_pos c1, e1]
  rw [if_neg c1, if_neg c1]
  by_cases c1 : x = 60
  · rw [if_pos c1, if_pos c1]
    cases decide (nxb b n s = 61) with
    | true => rfl
    | false =>
      cases decide (nxb b n s = 62) with
      | true => rfl
      | false => dsimp only [cond_false]; rw [e1]
  rw [if_neg c1, if_neg c1]
  by_cases c1 : x = 62
  · rw [if_pos c1, if_pos c1]
    cases decide (nxb b n s = 61) with
    | true => rfl
    | false => dsimp only [cond_false]; rw [e1]
  rw [if_neg c1, if_neg c1, e1]
/-- a token: kind, value, place, where the next one may begin -/
def tokC (b wd : Nat → Int32) (n p : Nat) : Int32 × Int32 × Nat × Nat :=
  if n ≤ (scn blk fU b n p ()).1 then (0, 0, (scn blk fU b n p ()).1, (scn blk fU b n p ()).1)
  else if ltr (b (scn blk fU b n p ()).1) = true then
    (if 6 < (scn ltr fW b n (scn blk fU b n p ()).1 (0, 0)).2.1.toInt then (1, 0, (scn blk fU b n p ()).1, (scn ltr fW b n (scn blk fU b n p ()).1 (0, 0)).1)
     else (wlk wd ((scn ltr fW b n (scn blk fU b n p ()).1 (0, 0)).2.2 <<< ((5 * (6 - (scn ltr fW b n (scn blk fU b n p ()).1 (0, 0)).2.1)) &&& 31)) 22 0 3, (scn ltr fW b n (scn blk fU b n p ()).1 (0, 0)).2.2 <<< ((5 * (6 - (scn ltr fW b n (scn blk fU b n p ()).1 (0, 0)).2.1)) &&& 31), (scn blk fU b n p ()).1, (scn ltr fW b n (scn blk fU b n p ()).1 (0, 0)).1))
  else if dgt (b (scn blk fU b n p ()).1) = true then (2, (scn dgt fN b n (scn blk fU b n p ()).1 0).2, (scn blk fU b n p ()).1, (scn dgt fN b n (scn blk fU b n p ()).1 0).1)
  else ((sg (b (scn blk fU b n p ()).1) (nxb b n (scn blk fU b n p ()).1)).1, 0, (scn blk fU b n p ()).1, (scn blk fU b n p ()).1 + (sg (b (scn blk fU b n p ()).1) (nxb b n (scn blk fU b n p ()).1)).2)
def tkM (m : xM) (t : Int32 × Int32 × Nat × Nat) : xM := xu (xu (xu (xu m 3 6 (Int32.ofNat t.2.2.1)) 3 5 t.2.1) 3 4 t.1) 3 3 (Int32.ofNat t.2.2.2)
theorem xext {m1 m2 : xM} (h3 : m1 3 3 = m2 3 3) (h4 : m1 3 4 = m2 3 4) (h5 : m1 3 5 = m2 3 5) (h6 : m1 3 6 = m2 3 6) (ho : ∀ a k : Nat, ¬ (a = 3 ∧ 3 ≤ k ∧ k ≤ 6) → m1 a k = m2 a k) : m1 = m2 := by
  funext a k
  by_cases h : a = 3 ∧ 3 ≤ k ∧ k ≤ 6
  · obtain ⟨rfl, q1, q2⟩ := h
    rcases (show k = 3 ∨ k = 4 ∨ k = 5 ∨ k = 6 by omega) with rfl | rfl | rfl | rfl
    · exact h3
    · exact h4
    · exact h5
    · exact h6
  · exact ho a k h

theorem lp77 {nf : Bool} {xs : List Int32} {d : Nat} {g : xL} {G : xG} {r : Option Value} {h' : zH} {b : Nat → Int32} {n : Nat} (hG : GS G) (hn : n ≤ 700) : ∀ (N : Nat) (p : Nat) (m : xM), m 1 = b → m 3 3 = Int32.ofNat p → m 3 2 = Int32.ofNat n → p ≤ n → RR nf xs d 6 false 2 (none) zt77 G r h' N (0, [(0, .ref 3)], [], m, g) → RR nf xs d 6 false 2 (none) zt77 G r h' N (42, [(0, .ref 3)], [], xu m 3 3 (Int32.ofNat (scn blk fU b n p ()).1), g) := by
  have km1 : (-1 : Int32).toInt = -1 := rfl
  have k1 : (1 : Int32).toInt = 1 := rfl
  have k10 : (10 : Int32).toInt = 10 := rfl
  have k32 : (32 : Int32).toInt = 32 := rfl
  intro N
  induction N with
  | zero => intro p m h1 h2 h3 h4 hr; exact hr.no.elim
  | succ N ih =>
    intro p m h1 h2 h3 h4 hr
    replace hr := hr.go1 (s_aload_n t77_0 rfl)
    replace hr := hr.go (s_getf t77_1)
    replace hr := hr.go (s_aload_n t77_4 rfl)
    replace hr := hr.go (s_getf t77_5)
    rcases hr.bGe t77_8 with ⟨c1, hr⟩ | ⟨c1, hr⟩
    · rw [scn_f (fun q => by rw [h2, h3, xn_int (by omega), xn_int (by omega)] at c1; omega)]
      refine (hr.mono (by omega)).to ?_
      exact (xu_id h2).symm
    · have hp : p < n := by rw [h2, h3, xn_int (by omega), xn_int (by omega)] at c1; omega
      have hpk : pk m = b p := pk_at h1 h2 h3 hp hn
      replace hr := hr.go (s_aload_n t77_11 rfl)
      replace hr := hr.cvI t77_12 rfl rfl (ct_peek hG)
      rw [hpk] at hr
      replace hr := hr.go (s_k t77_15)
      rcases hr.bEq t77_17 with ⟨c2, hr⟩ | ⟨c2, hr⟩
      · replace hr := hr.go (s_aload_n t77_29 rfl)
        replace hr := hr.go (s_dup t77_30 rfl)
        replace hr := hr.go (s_getf t77_31)
        replace hr := hr.go (s_k t77_34)
        replace hr := hr.go (s_iadd t77_35)
        replace hr := hr.go (s_putf t77_36)
        replace hr := hr.go (s_goto t77_39)
        rw [scn_t hp (blk_t (Or.inl c2))]
        refine ((ih (p + 1) _ ?_ ?_ ?_ hp hr).mono (by omega)).to ?_
        · rw [xu_row (by decide)]; exact h1
        · rw [xu_same, h2, xn_1]
        · rw [xu_oth (by decide), h3]
        · exact xu_xu
      · replace hr := hr.go (s_aload_n t77_20 rfl)
        replace hr := hr.cvI t77_21 rfl rfl (ct_peek hG)
        rw [hpk] at hr
        replace hr := hr.go (s_k t77_24)
        rcases hr.bNe t77_26 with ⟨c3, hr⟩ | ⟨c3, hr⟩
        · rw [scn_f (fun _ => blk_f c2 c3)]
          refine (hr.mono (by omega)).to ?_
          exact (xu_id h2).symm
        · replace hr := hr.go (s_aload_n t77_29 rfl)
          replace hr := hr.go (s_dup t77_30 rfl)
          replace hr := hr.go (s_getf t77_31)
          replace hr := hr.go (s_k t77_34)
          replace hr := hr.go (s_iadd t77_35)
          replace hr := hr.go (s_putf t77_36)
          replace hr := hr.go (s_goto t77_39)
          rw [scn_t hp (blk_t (Or.inr c3))]
          refine ((ih (p + 1) _ ?_ ?_ ?_ hp hr).mono (by omega)).to ?_
          · rw [xu_row (by decide)]; exact h1
          · rw [xu_same, h2, xn_1]
          · rw [xu_oth (by decide), h3]
          · exact xu_xu

theorem ct_adv {nf : Bool} {xs : List Int32} {d : Nat} {m : xM} {g : xL} {G : xG} {b wd : Nat → Int32} {n p : Nat} (hG : GS G) (hn : n ≤ 700) (hb : ∀ i : Nat, i < n → 0 ≤ (b i).toInt) (h1 : m 1 = b) (h2 : m 3 3 = Int32.ofNat p) (h3 : m 3 2 = Int32.ofNat n) (h4 : m 4 = wd) (hp : p ≤ n) : CT nf xs d 77 [.ref 3] m g G (PE none (tkM m (tokC b wd n p)) g) := by
  refine CT.of (c := 6) (ini := false) (nL := 2) (rt := none) (tab := zt77) rfl (fun d' r h' N hd hr => ?_)
  replace hr : RR nf xs d' 6 false 2 (none) zt77 G r h' N (0, [(0, .ref 3)], [], m, g) := hr
  have km1 : (-1 : Int32).toInt = -1 := rfl
  have k1 : (1 : Int32).toInt = 1 := rfl
  have k10 : (10 : Int32).toInt = 10 := rfl
  have k32 : (32 : Int32).toInt = 32 := rfl
  replace hr := lp77 hG hn N p m h1 h2 h3 hp hr
  have hle := (scn_le (q := blk) (f := fU) (b := b) (n := n) _ p () rfl hp).2.1
  generalize hS : (scn blk fU b n p ()).1 = s at hr hle
  rcases (show s = n ∨ s < n by omega) with hsn | hsn
  · replace hr := hr.go (s_aload_n t77_42 rfl)
    replace hr := hr.go (s_aload_n t77_43 rfl)
    replace hr := hr.go (s_getf t77_44)
    rw [xu_same] at hr
    replace hr := hr.go (s_putf t77_47)
    replace hr := hr.go (s_aload_n t77_50 rfl)
    replace hr := hr.go (s_k t77_51)
    replace hr := hr.go (s_putf t77_52)
    replace hr := hr.go (s_aload_n t77_55 rfl)
    replace hr := hr.cvI t77_56 rfl rfl (ct_peek hG)
    rw [pk_end (m := (xu (xu (xu m 3 3 (Int32.ofNat s)) 3 6 (Int32.ofNat s)) 3 5 0)) (by rw [xu_oth (by decide), xu_oth (by decide), xu_same]) (by rw [xu_oth (by decide), xu_oth (by decide), xu_oth (by decide)]; exact h3) hsn hn] at hr
    replace hr := hr.go (s_istore_n (ls' := [(1, _), (0, _)]) t77_59 rfl)
    replace hr := hr.go (s_iload_n t77_60 rfl)
    replace hr := hr.go (s_k t77_61)
    rcases hr.bNe t77_62 with ⟨c1, hr⟩ | ⟨c1, hr⟩
    · exact absurd rfl c1
    · replace hr := hr.go (s_aload_n t77_65 rfl)
      replace hr := hr.go (s_k t77_66)
      replace hr := hr.go (s_putf t77_67)
      replace hr := hr.go (s_goto t77_70)
      obtain ⟨rfl, hs⟩ := hr.ret t77_120
      exact ⟨_, _, hs, rfl, (by unfold tokC; rw [hS, if_pos (by omega)]; exact xext rfl rfl rfl rfl (fun a k h => by unfold tkM; (try dsimp only); repeat rw [xu_oth (by omega)])), rfl⟩
  · replace hr := hr.go (s_aload_n t77_42 rfl)
    replace hr := hr.go (s_aload_n t77_43 rfl)
    replace hr := hr.go (s_getf t77_44)
    rw [xu_same] at hr
    replace hr := hr.go (s_putf t77_47)
    replace hr := hr.go (s_aload_n t77_50 rfl)
    replace hr := hr.go (s_k t77_51)
    replace hr := hr.go (s_putf t77_52)
    replace hr := hr.go (s_aload_n t77_55 rfl)
    replace hr := hr.cvI t77_56 rfl rfl (ct_peek hG)
    rw [pk_at (b := b) (m := (xu (xu (xu m 3 3 (Int32.ofNat s)) 3 6 (Int32.ofNat s)) 3 5 0)) (by rw [xu_row (by decide), xu_row (by decide), xu_row (by decide)]; exact h1) (by rw [xu_oth (by decide), xu_oth (by decide), xu_same]) (by rw [xu_oth (by decide), xu_oth (by decide), xu_oth (by decide)]; exact h3) hsn hn] at hr
    replace hr := hr.go (s_istore_n (ls' := [(1, _), (0, _)]) t77_59 rfl)
    replace hr := hr.go (s_iload_n t77_60 rfl)
    replace hr := hr.go (s_k t77_61)
    rcases hr.bNe t77_62 with ⟨c1, hr⟩ | ⟨c1, hr⟩
    · replace hr := hr.go (s_iload_n t77_73 rfl)
      replace hr := hr.csI t77_74 rfl rfl (ct_isLetter)
      rcases hr.zEq t77_77 with ⟨c2, hr⟩ | ⟨c2, hr⟩
      · replace hr := hr.go (s_iload_n t77_87 rfl)
        replace hr := hr.csI t77_88 rfl rfl (ct_isDigit)
        rcases hr.zEq t77_91 with ⟨c3, hr⟩ | ⟨c3, hr⟩
        · replace hr := hr.go (s_aload_n t77_101 rfl)
          replace hr := hr.go (s_dup t77_102 rfl)
          replace hr := hr.go (s_getf t77_103)
          replace hr := hr.go (s_k t77_106)
          replace hr := hr.go (s_iadd t77_107)
          replace hr := hr.go (s_putf t77_108)
          replace hr := hr.go (s_aload_n t77_111 rfl)
          replace hr := hr.go (s_aload_n t77_112 rfl)
          replace hr := hr.go (s_iload_n t77_113 rfl)
          replace hr := hr.cvI t77_114 rfl rfl (ct_sign hG)
          replace hr := hr.go (s_putf t77_117)
          obtain ⟨rfl, hs⟩ := hr.ret t77_120
          refine ⟨_, _, hs, rfl, ?_, rfl⟩
          unfold tokC
          rw [hS, if_neg (by omega), if_neg (by rw [bI_0 c2]; decide), if_neg (by rw [bI_0 c3]; decide)]
          rw [sgk_sg (b := b) (n := n) (s := s) (by rw [xu_row (by decide), xu_row (by decide), xu_row (by decide), xu_row (by decide)]; exact h1) (by rw [xu_same, xu_oth (by decide), xu_oth (by decide), xu_same, xn_1]) (by rw [xu_oth (by decide), xu_oth (by decide), xu_oth (by decide), xu_oth (by decide)]; exact h3) (by omega) hn]
          exact xext rfl rfl rfl rfl (fun a k h => by unfold tkM; (try dsimp only); repeat rw [xu_oth (by omega)])
        · replace hr := hr.go (s_aload_n t77_94 rfl)
          replace hr := hr.cvN t77_95 rfl rfl (ct_number (b := b) hG hn (by rw [xu_row (by decide), xu_row (by decide), xu_row (by decide)]; exact h1) (by rw [xu_oth (by decide), xu_oth (by decide), xu_same]) (by rw [xu_oth (by decide), xu_oth (by decide), xu_oth (by decide)]; exact h3) (by omega))
          replace hr := hr.go (s_goto t77_98)
          obtain ⟨rfl, hs⟩ := hr.ret t77_120
          refine ⟨_, _, hs, rfl, ?_, rfl⟩
          unfold tokC
          rw [hS, if_neg (by omega), if_neg (by rw [bI_0 c2]; decide), if_pos (bI_1 c3)]
          exact xext rfl rfl rfl rfl (fun a k h => by unfold tkM; (try dsimp only); repeat rw [xu_oth (by omega)])
      · replace hr := hr.go (s_aload_n t77_80 rfl)
        replace hr := hr.cvN t77_81 rfl rfl (ct_word (b := b) (wd := wd) hG hn (by rw [xu_row (by decide), xu_row (by decide), xu_row (by decide)]; exact h1) (by rw [xu_oth (by decide), xu_oth (by decide), xu_same]) (by rw [xu_oth (by decide), xu_oth (by decide), xu_oth (by decide)]; exact h3) (by rw [xu_row (by decide), xu_row (by decide), xu_row (by decide)]; exact h4) hsn (bI_1 c2))
        replace hr := hr.go (s_goto t77_84)
        obtain ⟨rfl, hs⟩ := hr.ret t77_120
        refine ⟨_, _, hs, rfl, ?_, rfl⟩
        unfold tokC
        rw [hS]
        by_cases h6 : 6 < (scn ltr fW b n s (0, 0)).2.1.toInt
        · rw [if_pos h6, if_neg (show ¬ n ≤ s by omega), if_pos (bI_1 c2), if_pos h6]
          exact xext rfl rfl rfl rfl (fun a k h => by unfold tkM; (try dsimp only); repeat rw [xu_oth (by omega)])
        · rw [if_neg h6, if_neg (show ¬ n ≤ s by omega), if_pos (bI_1 c2), if_neg h6]
          exact xext rfl rfl rfl rfl (fun a k h => by unfold tkM; (try dsimp only); repeat rw [xu_oth (by omega)])
    · exact absurd (hb s hsn) (by rw [c1]; decide)
end
section
/-! The letters of the text WORDS (java/lang/String). -/
section XI
variable {nf : Bool} {xs : List Int32} {d c : Nat} {ini : Bool} {nL : Nat} {rt : Option FieldType} {tab : Nat → Option (Instr × Nat)} {G : xG} {r : Option Value} {h' : zH} {pc pc' len q : Nat} {ls ls' : zL} {st : List Value} {m m1 : xM} {g g1 : xL} {N : Nat} {off : Int} {x y : Int32}
theorem s_aloadV {k : Fin 4} {v : Value} (t : xt tab pc pc' (.aload_n k)) (e : zget ls k = some v) (hv : xvk v = 3) : XS nf xs d c ini nL rt tab G r h' (pc, ls, st, m, g) (pc', ls, v :: st, m, g) := by
  obtain ⟨t, rfl⟩ := t
  exact xpure t rfl rfl (fun _ => rfl) (fun h s q => by
    simp only [zstep, zstI, zstL, e] at q
    cases v <;> first | (cases q; rfl) | (exact absurd hv (by simp [xvk])))
theorem RR.stuckS {j : Nat} (hr : RR nf xs d c ini nL rt tab G r h' N (pc, ls, st, m, g)) (t : tab pc = some (.invokestatic j, 3)) (e : zIT c j = none) : False := by
  obtain ⟨n, hn, h, hs, q2⟩ := hr
  obtain ⟨n', mi', as, rest', r1, k1, en, z, q3, q⟩ := zinvC t rfl (by simp only [zobjI, e]) rfl q2
  simp only [zcall, e] at z
  cases z
theorem s_i2c (t : xt tab pc pc' .i2c) : XS nf xs d c ini nL rt tab G r h' (pc, ls, .int x :: st, m, g) (pc', ls, .int (x.toUInt32 % 65536).toInt32 :: st, m, g) := by
  obtain ⟨t, rfl⟩ := t
  exact xpure t rfl rfl (fun _ => rfl) (fun h s q => by cases q; rfl)
end XI
theorem t274_0 : xt zt274 0 1 (.iload_n 0) := ⟨rfl, rfl⟩
theorem t274_1 : xtb zt274 1 4 9 (.ifCond .lt 8) (8) := ⟨rfl, rfl, rfl⟩
theorem t274_4 : xt zt274 4 5 (.iload_n 0) := ⟨rfl, rfl⟩
theorem t274_5 : xt zt274 5 6 (.iload_n 1) := ⟨rfl, rfl⟩
theorem t274_6 : xtb zt274 6 9 16 (.if_icmp .lt 10) (10) := ⟨rfl, rfl, rfl⟩
theorem t274_9 : xt zt274 9 10 (.aload_n 2) := ⟨rfl, rfl⟩
theorem t274_10 : xt zt274 10 11 (.iload_n 0) := ⟨rfl, rfl⟩
theorem t274_11 : xt zt274 11 12 (.iload_n 1) := ⟨rfl, rfl⟩
theorem t274_12 : zt274 12 = some (.invokestatic 95, 3) := rfl
theorem t274_16 : xt zt274 16 17 (.iload_n 0) := ⟨rfl, rfl⟩
theorem t274_17 : xt zt274 17 18 .ireturn := ⟨rfl, rfl⟩

theorem t264_0 : xt zt264 0 1 (.aload_n 0) := ⟨rfl, rfl⟩
theorem t264_1 : xt zt264 1 4 (.getfield 9) := ⟨rfl, rfl⟩
theorem t264_4 : xt zt264 4 5 .arraylength := ⟨rfl, rfl⟩
theorem t264_5 : xt zt264 5 6 (.aload_n 0) := ⟨rfl, rfl⟩
theorem t264_6 : xtc zt264 15 6 9 (.invokevirtual 335) 335 1 266 0 := ⟨rfl, rfl, rfl⟩
theorem t264_9 : xt zt264 9 10 .ishr := ⟨rfl, rfl⟩
theorem t264_10 : xt zt264 10 11 .ireturn := ⟨rfl, rfl⟩
theorem t265_0 : xt zt265 0 1 (.aload_n 0) := ⟨rfl, rfl⟩
theorem t265_1 : xtc zt265 15 1 4 (.invokevirtual 492) 492 1 267 0 := ⟨rfl, rfl, rfl⟩
theorem t265_4 : xtb zt265 4 7 16 (.ifCond .eq 12) (12) := ⟨rfl, rfl, rfl⟩
theorem t265_7 : xt zt265 7 8 (.aload_n 0) := ⟨rfl, rfl⟩
theorem t265_8 : xt zt265 8 11 (.getfield 9) := ⟨rfl, rfl⟩
theorem t265_11 : xt zt265 11 12 (.iload_n 1) := ⟨rfl, rfl⟩
theorem t265_12 : xtc zt265 15 12 15 (.invokestatic 495) 495 2 269 2 := ⟨rfl, rfl, rfl⟩
theorem t265_15 : xt zt265 15 16 .ireturn := ⟨rfl, rfl⟩
theorem t265_16 : xt zt265 16 17 (.aload_n 0) := ⟨rfl, rfl⟩
theorem t265_17 : xt zt265 17 20 (.getfield 9) := ⟨rfl, rfl⟩
theorem t265_20 : xt zt265 20 21 (.iload_n 1) := ⟨rfl, rfl⟩
theorem t265_21 : xtc zt265 15 21 24 (.invokestatic 498) 498 2 272 2 := ⟨rfl, rfl, rfl⟩
theorem t265_24 : xt zt265 24 25 .ireturn := ⟨rfl, rfl⟩
theorem t266_0 : xt zt266 0 3 (.getstatic 38) := ⟨rfl, rfl⟩
theorem t266_3 : xtb zt266 3 6 13 (.ifCond .eq 10) (10) := ⟨rfl, rfl, rfl⟩
theorem t266_6 : xt zt266 6 7 (.aload_n 0) := ⟨rfl, rfl⟩
theorem t266_7 : xt zt266 7 10 (.getfield 15) := ⟨rfl, rfl⟩
theorem t266_10 : xtb zt266 10 13 14 (.goto 4) (4) := ⟨rfl, rfl, rfl⟩
theorem t266_13 : xtk zt266 13 14 (1) := Or.inl ⟨1, ⟨rfl, rfl⟩, by decide⟩
theorem t266_14 : xt zt266 14 15 .ireturn := ⟨rfl, rfl⟩
theorem t267_0 : xt zt267 0 3 (.getstatic 38) := ⟨rfl, rfl⟩
theorem t267_3 : xtb zt267 3 6 17 (.ifCond .eq 14) (14) := ⟨rfl, rfl, rfl⟩
theorem t267_6 : xt zt267 6 7 (.aload_n 0) := ⟨rfl, rfl⟩
theorem t267_7 : xt zt267 7 10 (.getfield 15) := ⟨rfl, rfl⟩
theorem t267_10 : xtb zt267 10 13 17 (.ifCond .ne 7) (7) := ⟨rfl, rfl, rfl⟩
theorem t267_13 : xtk zt267 13 14 (1) := Or.inl ⟨1, ⟨rfl, rfl⟩, by decide⟩
theorem t267_14 : xtb zt267 14 17 18 (.goto 4) (4) := ⟨rfl, rfl, rfl⟩
theorem t267_17 : xtk zt267 17 18 (0) := Or.inl ⟨0, ⟨rfl, rfl⟩, by decide⟩
theorem t267_18 : xt zt267 18 19 .ireturn := ⟨rfl, rfl⟩
theorem t268_0 : xt zt268 0 1 (.iload_n 0) := ⟨rfl, rfl⟩
theorem t268_1 : xt zt268 1 2 (.iload_n 1) := ⟨rfl, rfl⟩
theorem t268_2 : xt zt268 2 5 (.getstatic 1053) := ⟨rfl, rfl⟩
theorem t268_5 : xtc zt268 15 5 8 (.invokestatic 1059) 1059 2 274 3 := ⟨rfl, rfl, rfl⟩
theorem t268_8 : xt zt268 8 9 .pop := ⟨rfl, rfl⟩
theorem t268_9 : xt zt268 9 10 .return_ := ⟨rfl, rfl⟩
theorem t269_0 : xt zt269 0 1 (.iload_n 1) := ⟨rfl, rfl⟩
theorem t269_1 : xt zt269 1 2 (.aload_n 0) := ⟨rfl, rfl⟩
theorem t269_2 : xt zt269 2 3 .arraylength := ⟨rfl, rfl⟩
theorem t269_3 : xtc zt269 16 3 6 (.invokestatic 9) 9 2 268 2 := ⟨rfl, rfl, rfl⟩
theorem t269_6 : xt zt269 6 7 (.aload_n 0) := ⟨rfl, rfl⟩
theorem t269_7 : xt zt269 7 8 (.iload_n 1) := ⟨rfl, rfl⟩
theorem t269_8 : xt zt269 8 9 .baload := ⟨rfl, rfl⟩
theorem t269_9 : xtk zt269 9 12 (255) := Or.inr (Or.inr ⟨255, ⟨rfl, rfl⟩, by decide⟩)
theorem t269_12 : xt zt269 12 13 .iand := ⟨rfl, rfl⟩
theorem t269_13 : xt zt269 13 14 .i2c := ⟨rfl, rfl⟩
theorem t269_14 : xt zt269 14 15 .ireturn := ⟨rfl, rfl⟩
theorem ct_chk3 {nf : Bool} {xs : List Int32} {d : Nat} {m : xM} {g : xL} {G : xG} {x y : Int32} {v : Value} (hv : xvk v = 3) : CT nf xs d 274 [.int x, .int y, v] m g G (PE (some (.int x)) m g) := by
  refine CT.of (c := 18) (ini := false) (nL := 3) (rt := some .int) (tab := zt274) rfl (fun d' r h' N hd hr => ?_)
  replace hr : RR nf xs d' 18 false 3 (some .int) zt274 G r h' N (0, [(0, .int x), (1, .int y), (2, v)], [], m, g) := hr
  replace hr := hr.go (s_iload_n t274_0 rfl)
  rcases hr.zLt t274_1 with ⟨c1, hr⟩ | ⟨c1, hr⟩
  · replace hr := hr.go (s_aloadV t274_9 rfl hv)
    replace hr := hr.go (s_iload_n t274_10 rfl)
    replace hr := hr.go (s_iload_n t274_11 rfl)
    exact (hr.stuckS t274_12 rfl).elim
  · replace hr := hr.go (s_iload_n t274_4 rfl)
    replace hr := hr.go (s_iload_n t274_5 rfl)
    rcases hr.bLt t274_6 with ⟨c2, hr⟩ | ⟨c2, hr⟩
    · replace hr := hr.go (s_iload_n t274_16 rfl)
      obtain ⟨rfl, hs⟩ := hr.iret t274_17
      exact ⟨_, _, hs, rfl, rfl, rfl⟩
    · replace hr := hr.go (s_aloadV t274_9 rfl hv)
      replace hr := hr.go (s_iload_n t274_10 rfl)
      replace hr := hr.go (s_iload_n t274_11 rfl)
      exact (hr.stuckS t274_12 rfl).elim
theorem ct_chk2 {nf : Bool} {xs : List Int32} {d : Nat} {m : xM} {g : xL} {G : xG} {x y : Int32} : CT nf xs d 268 [.int x, .int y] m g G (PE none m g) := by
  refine CT.of (c := 15) (ini := false) (nL := 2) (rt := none) (tab := zt268) rfl (fun d' r h' N hd hr => ?_)
  replace hr : RR nf xs d' 15 false 2 none zt268 G r h' N (0, [(0, .int x), (1, .int y)], [], m, g) := hr
  replace hr := hr.go (s_iload_n t268_0 rfl)
  replace hr := hr.go (s_iload_n t268_1 rfl)
  replace hr := hr.go (s_getstatic (v := bif nf then .null else .retAddr 5) t268_2 rfl)
  replace hr := hr.csI t268_5 rfl rfl (ct_chk3 (by cases nf <;> rfl))
  replace hr := hr.go (s_pop t268_8)
  obtain ⟨rfl, hs⟩ := hr.ret t268_9
  exact ⟨_, _, hs, rfl, rfl, rfl⟩
def chW (i : Nat) : Int32 := ((zwords.getD i 0 &&& 255).toUInt32 % 65536).toInt32
theorem ct_lch {nf : Bool} {xs : List Int32} {d : Nat} {m : xM} {g : xL} {G : xG} {x : Int32} : CT nf xs d 269 [.retAddr 3, .int x] m g G (PE (some (.int (chW x.toNatClampNeg))) m g) := by
  refine CT.of (c := 16) (ini := false) (nL := 2) (rt := some .char) (tab := zt269) rfl (fun d' r h' N hd hr => ?_)
  replace hr : RR nf xs d' 16 false 2 (some .char) zt269 G r h' N (0, [(0, .retAddr 3), (1, .int x)], [], m, g) := hr
  replace hr := hr.go (s_iload_n t269_0 rfl)
  replace hr := hr.go (s_aloadX_n t269_1 rfl)
  replace hr := hr.go (s_alenX t269_2 rfl)
  replace hr := hr.csN t269_3 rfl rfl ct_chk2
  replace hr := hr.go (s_aloadX_n t269_6 rfl)
  replace hr := hr.go (s_iload_n t269_7 rfl)
  replace hr := hr.go (s_baloadX t269_8 rfl)
  replace hr := hr.go (s_k t269_9)
  replace hr := hr.go (s_iand t269_12)
  replace hr := hr.go (s_i2c t269_13)
  obtain ⟨rfl, hs⟩ := hr.iret t269_14
  exact ⟨_, _, hs, rfl, rfl, rfl⟩
theorem ct_coder {nf : Bool} {xs : List Int32} {d : Nat} {m : xM} {g : xL} {G : xG} : CT nf xs d 266 [.retAddr 1] m g G (PE (some (.int 0)) m g) := by
  refine CT.of (c := 15) (ini := false) (nL := 1) (rt := some .byte) (tab := zt266) rfl (fun d' r h' N hd hr => ?_)
  replace hr : RR nf xs d' 15 false 1 (some .byte) zt266 G r h' N (0, [(0, .retAddr 1)], [], m, g) := hr
  replace hr := hr.go (s_getstatic (v := .int 1) t266_0 rfl)
  rcases hr.zEq t266_3 with ⟨c1, hr⟩ | ⟨c1, hr⟩
  · exact absurd c1 (by decide)
  · replace hr := hr.go (s_aloadX_n t266_6 rfl)
    replace hr := hr.go (s_getfX (v := .int 0) t266_7 rfl)
    replace hr := hr.go (s_goto t266_10)
    obtain ⟨rfl, hs⟩ := hr.iret t266_14
    exact ⟨_, _, hs, rfl, rfl, rfl⟩
theorem ct_latin {nf : Bool} {xs : List Int32} {d : Nat} {m : xM} {g : xL} {G : xG} : CT nf xs d 267 [.retAddr 1] m g G (PE (some (.int 1)) m g) := by
  refine CT.of (c := 15) (ini := false) (nL := 1) (rt := some .boolean) (tab := zt267) rfl (fun d' r h' N hd hr => ?_)
  replace hr : RR nf xs d' 15 false 1 (some .boolean) zt267 G r h' N (0, [(0, .retAddr 1)], [], m, g) := hr
  replace hr := hr.go (s_getstatic (v := .int 1) t267_0 rfl)
  rcases hr.zEq t267_3 with ⟨c1, hr⟩ | ⟨c1, hr⟩
  · exact absurd c1 (by decide)
  · replace hr := hr.go (s_aloadX_n t267_6 rfl)
    replace hr := hr.go (s_getfX (v := .int 0) t267_7 rfl)
    rcases hr.zNe t267_10 with ⟨c2, hr⟩ | ⟨c2, hr⟩
    · exact absurd rfl c2
    · replace hr := hr.go (s_k t267_13)
      replace hr := hr.go (s_goto t267_14)
      obtain ⟨rfl, hs⟩ := hr.iret t267_18
      exact ⟨_, _, hs, rfl, rfl, rfl⟩
theorem ct_len {nf : Bool} {xs : List Int32} {d : Nat} {m : xM} {g : xL} {G : xG} : CT nf xs d 264 [.retAddr 1] m g G (PE (some (.int (Int32.ofNat zwords.length >>> (0 &&& 31)))) m g) := by
  refine CT.of (c := 15) (ini := false) (nL := 1) (rt := some .int) (tab := zt264) rfl (fun d' r h' N hd hr => ?_)
  replace hr : RR nf xs d' 15 false 1 (some .int) zt264 G r h' N (0, [(0, .retAddr 1)], [], m, g) := hr
  replace hr := hr.go (s_aloadX_n t264_0 rfl)
  replace hr := hr.go (s_getfX (v := .retAddr 3) t264_1 rfl)
  replace hr := hr.go (s_alenX t264_4 rfl)
  replace hr := hr.go (s_aloadX_n t264_5 rfl)
  replace hr := hr.cXI t264_6 rfl rfl ct_coder
  replace hr := hr.go (s_ishr t264_9)
  obtain ⟨rfl, hs⟩ := hr.iret t264_10
  exact ⟨_, _, hs, rfl, rfl, rfl⟩
theorem ct_char {nf : Bool} {xs : List Int32} {d : Nat} {m : xM} {g : xL} {G : xG} {x : Int32} : CT nf xs d 265 [.retAddr 1, .int x] m g G (PE (some (.int (chW x.toNatClampNeg))) m g) := by
  refine CT.of (c := 15) (ini := false) (nL := 2) (rt := some .char) (tab := zt265) rfl (fun d' r h' N hd hr => ?_)
  replace hr : RR nf xs d' 15 false 2 (some .char) zt265 G r h' N (0, [(0, .retAddr 1), (1, .int x)], [], m, g) := hr
  replace hr := hr.go (s_aloadX_n t265_0 rfl)
  replace hr := hr.cXI t265_1 rfl rfl ct_latin
  rcases hr.zEq t265_4 with ⟨c1, hr⟩ | ⟨c1, hr⟩
  · exact absurd c1 (by decide)
  · replace hr := hr.go (s_aloadX_n t265_7 rfl)
    replace hr := hr.go (s_getfX (v := .retAddr 3) t265_8 rfl)
    replace hr := hr.go (s_iload_n t265_11 rfl)
    replace hr := hr.csI t265_12 rfl rfl ct_lch
    obtain ⟨rfl, hs⟩ := hr.iret t265_15
    exact ⟨_, _, hs, rfl, rfl, rfl⟩
end
