/-! Steps that look at cells; branches; calls; ends. -/
section XI
variable {nf : Bool} {xs : List Int32} {d c : Nat} {ini : Bool} {nL : Nat} {rt : Option FieldType} {tab : Nat → Option (Instr × Nat)} {G : xG} {r : Option Value} {h' : zH} {pc pc' len : Nat} {ls ls' : zL} {st : List Value} {m : xM} {g : xL} {N : Nat}
theorem xgetf {X : zX} {j a ci k : Nat} {h : zH} {s : Nat × zL × List Value × zH} (e : zfld X c j = some (ci, k)) (z : zstep X nL ini c (.getfield j) pc ls (.ref a :: st) h = some s) : ∃ (fs : List Value) (v : Value), h[a]? = some (ci, .inr (.inr (.inr fs))) ∧ fs[k]? = some v ∧ s = (pc + 3, ls, v :: st, h) := by
  simp only [zstep, zstI, zstL, zstH, e] at z
  split at z
  · next q1 q2 hh =>
    cases q2
    split at z
    · next v hv =>
      split at z
      · next q => subst q; cases z; exact ⟨_, v, hh, hv, rfl⟩
      · cases z
    · cases z
  · cases z
theorem s_getf {j a ci k : Nat} (t : xtf tab c pc pc' (.getfield j) j ci k 1) : XS nf xs d c ini nL rt tab G r h' (pc, ls, .ref a :: st, m, g) (pc', ls, .int (m a k) :: st, m, g) := by
  obtain ⟨t, rfl, e, ty⟩ := t
  intro n ⟨h, hs, q2⟩
  obtain ⟨n', p1, l1, s1, k1, en, z, q⟩ := zinv t rfl rfl rfl q2
  obtain ⟨fs, v, h1, h2, h3⟩ := xgetf (X := zXt nf xs) e z
  cases h3
  obtain ⟨x, rfl⟩ := xvk1 ((hs.1 _ _ _ _ _ h1 h2).trans ty)
  refine ⟨n', en, h, hs, ?_⟩
  have : m a k = x := by
    have q := hs.2.1
    dsimp only at q
    rw [← q]
    show xi (rd h a k) = x
    unfold rd
    rw [h1]
    show xi fs[k]? = x
    rw [h2]
    rfl
  dsimp only
  rw [this]
  exact q
theorem s_getl {j a ci k : Nat} (t : xtf tab c pc pc' (.getfield j) j ci k 2) : XS nf xs d c ini nL rt tab G r h' (pc, ls, .ref a :: st, m, g) (pc', ls, .long (g a k) :: st, m, g) := by
  obtain ⟨t, rfl, e, ty⟩ := t
  intro n ⟨h, hs, q2⟩
  obtain ⟨n', p1, l1, s1, k1, en, z, q⟩ := zinv t rfl rfl rfl q2
  obtain ⟨fs, v, h1, h2, h3⟩ := xgetf (X := zXt nf xs) e z
  cases h3
  obtain ⟨x, rfl⟩ := xvk2 ((hs.1 _ _ _ _ _ h1 h2).trans ty)
  refine ⟨n', en, h, hs, ?_⟩
  have : g a k = x := by
    have q := hs.2.2.1
    dsimp only at q
    rw [← q]
    show xl (rd h a k) = x
    unfold rd
    rw [h1]
    show xl fs[k]? = x
    rw [h2]
    rfl
  dsimp only
  rw [this]
  exact q
theorem s_getr {j a b ci k : Nat} (t : xtf tab c pc pc' (.getfield j) j ci k 3) (hb : G.1 a k = some b) : XS nf xs d c ini nL rt tab G r h' (pc, ls, .ref a :: st, m, g) (pc', ls, .ref b :: st, m, g) := by
  obtain ⟨t, rfl, e, ty⟩ := t
  intro n ⟨h, hs, q2⟩
  obtain ⟨n', p1, l1, s1, k1, en, z, q⟩ := zinv t rfl rfl rfl q2
  obtain ⟨fs, v, h1, h2, h3⟩ := xgetf (X := zXt nf xs) e z
  cases h3
  refine ⟨n', en, h, hs, ?_⟩
  have : v = .ref b := by
    have q := hs.2.2.2.1
    rw [← q] at hb
    have hb : xr (rd h a k) = some b := hb
    unfold rd at hb
    rw [h1] at hb
    have hb : xr fs[k]? = some b := hb
    rw [h2] at hb
    cases v <;> first | (cases hb; rfl) | cases hb
  dsimp only
  rw [← this]
  exact q
theorem s_putf {j a ci k : Nat} {x : Int32} (t : xtf tab c pc pc' (.putfield j) j ci k 1) : XS nf xs d c ini nL rt tab G r h' (pc, ls, .int x :: .ref a :: st, m, g) (pc', ls, st, xu m a k x, g) := by
  obtain ⟨t, rfl, e, ty⟩ := t
  intro n ⟨h, hs, q2⟩
  obtain ⟨n', p1, l1, s1, k1, en, z, q⟩ := zinv t rfl rfl rfl q2
  have e' : zfld (zXt nf xs) c j = some (ci, k) := e
  simp only [zstep, zstI, zstL, zstH, e'] at z
  split at z
  · next q1 q2 hh =>
    cases q2
    split at z
    · next qq =>
      obtain ⟨q3, q4, q5⟩ := qq
      subst q3
      cases z
      exact ⟨n', en, _, xset_obj hs hh q4 ty, q⟩
    · cases z
  · cases z
theorem xidx {i : Int32} {n : Nat} (h : zidx i n = true) : i.toNatClampNeg < n ∧ 0 ≤ i.toInt := by
  unfold zidx at h
  simp only [Bool.and_eq_true, Bool.not_eq_true', decide_eq_false_iff_not, decide_eq_true_eq] at h
  refine ⟨h.2, ?_⟩
  have h1 := h.1
  rw [Int32.lt_iff_toInt_lt] at h1
  exact Int.not_lt.mp h1
theorem s_iaload {a t0 L : Nat} {i : Int32} (t : xt tab pc pc' .iaload) (ha : G.2 a = (t0, 1, L)) : XS nf xs d c ini nL rt tab G r h' (pc, ls, .int i :: .ref a :: st, m, g) (pc', ls, .int (m a i.toNatClampNeg) :: st, m, g) := by
  obtain ⟨t, rfl⟩ := t
  intro n ⟨h, hs, q2⟩
  obtain ⟨n', p1, l1, s1, k1, en, z, q⟩ := zinv t rfl rfl rfl q2
  simp only [zstep, zstI, zstL, zstH] at z
  split at z
  · next l hh =>
    split at z
    · next qi =>
      cases z
      refine ⟨n', en, h, hs, ?_⟩
      have : m a i.toNatClampNeg = l.getD i.toNatClampNeg 0 := by
        have q := hs.2.1
        dsimp only at q
        rw [← q]
        show xi (rd h a i.toNatClampNeg) = _
        unfold rd
        rw [hh]
        show xi (l[i.toNatClampNeg]?.map Value.int) = _
        rw [List.getD_eq_getElem?_getD, List.getElem?_eq_getElem (xidx qi).1]
        rfl
      dsimp only
      rw [this]
      exact q
    · cases z
  · cases z
theorem s_iastore {a : Nat} {i x : Int32} (t : xt tab pc pc' .iastore) : XS nf xs d c ini nL rt tab G r h' (pc, ls, .int x :: .int i :: .ref a :: st, m, g) (pc', ls, st, xu m a i.toNatClampNeg x, g) := by
  obtain ⟨t, rfl⟩ := t
  intro n ⟨h, hs, q2⟩
  obtain ⟨n', p1, l1, s1, k1, en, z, q⟩ := zinv t rfl rfl rfl q2
  simp only [zstep, zstI, zstL, zstH] at z
  split at z
  · next l hh =>
    split at z
    · next qi =>
      cases z
      exact ⟨n', en, _, xset_arr hs hh (xidx qi).1, q⟩
    · cases z
  · cases z
theorem s_laload {a : Nat} {i : Int32} (t : xt tab pc pc' .laload) : XS nf xs d c ini nL rt tab G r h' (pc, ls, .int i :: .ref a :: st, m, g) (pc', ls, .long (g a i.toNatClampNeg) :: st, m, g) := by
  obtain ⟨t, rfl⟩ := t
  intro n ⟨h, hs, q2⟩
  obtain ⟨n', p1, l1, s1, k1, en, z, q⟩ := zinv t rfl rfl rfl q2
  simp only [zstep, zstI, zstL, zstH] at z
  split at z
  · next l hh =>
    split at z
    · next qi =>
      cases z
      refine ⟨n', en, h, hs, ?_⟩
      have : g a i.toNatClampNeg = l.getD i.toNatClampNeg 0 := by
        have q := hs.2.2.1
        dsimp only at q
        rw [← q]
        show xl (rd h a i.toNatClampNeg) = _
        unfold rd
        rw [hh]
        show xl (l[i.toNatClampNeg]?.map Value.long) = _
        rw [List.getD_eq_getElem?_getD, List.getElem?_eq_getElem (xidx qi).1]
        rfl
      dsimp only
      rw [this]
      exact q
    · cases z
  · cases z
theorem s_lastore {a : Nat} {i : Int32} {x : Int64} (t : xt tab pc pc' .lastore) : XS nf xs d c ini nL rt tab G r h' (pc, ls, .long x :: .int i :: .ref a :: st, m, g) (pc', ls, st, m, xu g a i.toNatClampNeg x) := by
  obtain ⟨t, rfl⟩ := t
  intro n ⟨h, hs, q2⟩
  obtain ⟨n', p1, l1, s1, k1, en, z, q⟩ := zinv t rfl rfl rfl q2
  simp only [zstep, zstI, zstL, zstH] at z
  split at z
  · next l hh =>
    split at z
    · next qi =>
      cases z
      exact ⟨n', en, _, xset_larr hs hh (xidx qi).1, q⟩
    · cases z
  · cases z
theorem s_alen {a t0 kd L : Nat} (t : xt tab pc pc' .arraylength) (ha : G.2 a = (t0, kd, L)) : XS nf xs d c ini nL rt tab G r h' (pc, ls, .ref a :: st, m, g) (pc', ls, .int (Int32.ofNat L) :: st, m, g) := by
  obtain ⟨t, rfl⟩ := t
  intro n ⟨h, hs, q2⟩
  obtain ⟨n', p1, l1, s1, k1, en, z, q⟩ := zinv t rfl rfl rfl q2
  have hL : xsh h[a]? = (t0, kd, L) := by rw [← ha, ← hs.2.2.2.2]; rfl
  simp only [zstep, zstI, zstL, zstH] at z
  split at z <;> (try (cases z)) <;> (next l hh => (rw [hh] at hL; cases hL; exact ⟨n', en, h, hs, q⟩))
/-- an index lies in its row -/
theorem RR.idx {a t0 kd L : Nat} {i : Int32} (hr : RR nf xs d c ini nL rt tab G r h' N (pc, ls, .int i :: .ref a :: st, m, g)) (t : xt tab pc pc' .iaload) (ha : G.2 a = (t0, kd, L)) : 0 ≤ i.toInt ∧ i.toNatClampNeg < L := by
  obtain ⟨t, rfl⟩ := t
  obtain ⟨n, -, h, hs, q2⟩ := hr
  obtain ⟨n', p1, l1, s1, k1, en, z, q⟩ := zinv t rfl rfl rfl q2
  have hL : xsh h[a]? = (t0, kd, L) := by rw [← ha, ← hs.2.2.2.2]; rfl
  simp only [zstep, zstI, zstL, zstH] at z
  split at z
  · next l hh =>
    split at z
    · next qi =>
      rw [hh] at hL
      cases hL
      exact ⟨(xidx qi).2, (xidx qi).1⟩
    · cases z
  · cases z
/-- of things outside -/
theorem s_getfX {j e : Nat} {v : Value} (t : xt tab pc pc' (.getfield j)) (hv : zxgT c j e = some v) : XS nf xs d c ini nL rt tab G r h' (pc, ls, .retAddr e :: st, m, g) (pc', ls, v :: st, m, g) := by
  obtain ⟨t, rfl⟩ := t
  exact xpure t rfl rfl (fun _ => rfl) (fun h s q => by
    have e' : zxget (zXt nf xs) c j e = some v := hv
    simp only [zstep, zstI, zstL, zstH, e'] at q
    cases q
    rfl)
theorem s_ialoadX {e : Nat} {i : Int32} {l : List Int32} (t : xt tab pc pc' .iaload) (hl : zxaT xs e = some (false, l)) : XS nf xs d c ini nL rt tab G r h' (pc, ls, .int i :: .retAddr e :: st, m, g) (pc', ls, .int (l.getD i.toNatClampNeg 0) :: st, m, g) := by
  obtain ⟨t, rfl⟩ := t
  exact xpure t rfl rfl (fun _ => rfl) (fun h s q => by
    have e' : zxarr (zXt nf xs) e = some (false, l) := hl
    simp only [zstep, zstI, zstL, zstH, e'] at q
    split at q
    · cases q; rfl
    · cases q)
theorem s_baloadX {e : Nat} {i : Int32} {l : List Int32} (t : xt tab pc pc' .baload) (hl : zxaT xs e = some (true, l)) : XS nf xs d c ini nL rt tab G r h' (pc, ls, .int i :: .retAddr e :: st, m, g) (pc', ls, .int (l.getD i.toNatClampNeg 0) :: st, m, g) := by
  obtain ⟨t, rfl⟩ := t
  exact xpure t rfl rfl (fun _ => rfl) (fun h s q => by
    have e' : zxarr (zXt nf xs) e = some (true, l) := hl
    simp only [zstep, zstI, zstL, zstH, e'] at q
    split at q
    · cases q; rfl
    · cases q)
theorem s_alenX {e : Nat} {b : Bool} {l : List Int32} (t : xt tab pc pc' .arraylength) (hl : zxaT xs e = some (b, l)) : XS nf xs d c ini nL rt tab G r h' (pc, ls, .retAddr e :: st, m, g) (pc', ls, .int (Int32.ofNat l.length) :: st, m, g) := by
  obtain ⟨t, rfl⟩ := t
  exact xpure t rfl rfl (fun _ => rfl) (fun h s q => by
    have e' : zxarr (zXt nf xs) e = some (b, l) := hl
    simp only [zstep, zstI, zstL, zstH, e'] at q
    cases q
    rfl)
end XI
