/-! Cells: one is changed, one comes. -/
def zsz (e : zE) : Nat := match e.2 with
  | .inl l => l.length
  | .inr (.inl l) => l.length
  | .inr (.inr (.inl l)) => l.length
  | .inr (.inr (.inr l)) => l.length
def zsl (h : zH) : Nat := (h.map zsz).sum
theorem zsl_set : ∀ {h : zH} {a : Nat} {e e' : zE}, h[a]? = some e → zsz e' = zsz e → zsl (h.set a e') = zsl h
  | [], _, _, _, h, _ => by simp at h
  | x :: h, 0, e, e', he, hz => by
    simp at he
    subst he
    simp [zsl, hz]
  | x :: h, a + 1, e, e', he, hz => by
    have h1 : h[a]? = some e := by simpa using he
    have h2 := zsl_set h1 hz
    simp only [zsl, List.set_cons_succ, List.map_cons, List.sum_cons] at h2 ⊢
    rw [h2]
theorem zsl_push (h : zH) (e : zE) : zsl (h ++ [e]) = zsl h + zsz e := by simp [zsl]
theorem zHR_set {B : Nat} {xa : Nat → Nat} {ca : Nat → ClassId} {D : va_G} {cl : List vw_C} {h : zH} {H H1 : Heap} {a : Nat} {e' : zE} (hR : zHR B xa ca D cl h H) (hz : H1.size = H.size) (oq : ∀ q : Nat, q ≠ B + a → H1[q]? = H[q]?) (hat : va_at D cl (B + a, zc B xa ca e') H1) : zHR B xa ca D cl (h.set a e') H1 := by
  refine ⟨by rw [hz, hR.1, List.length_set], fun k x hk hlt => ?_⟩
  by_cases hka : k = a
  · subst hka
    rw [List.getElem?_set] at hk
    split at hk
    · split at hk
      · cases hk
        exact hat
      · cases hk
    · next hne => exact absurd rfl hne
  · rw [List.getElem?_set_ne (Ne.symm hka)] at hk
    exact (hR.2 k x hk hlt).kept (oq _ (by show B + k ≠ B + a; omega))
theorem zHR_push {B : Nat} {xa : Nat → Nat} {ca : Nat → ClassId} {D : va_G} {cl : List vw_C} {h : zH} {H H1 : Heap} {e' : zE} (hR : zHR B xa ca D cl h H) (hz : H1.size = H.size + 1) (oq : ∀ q : Nat, q < H.size → H1[q]? = H[q]?) (hat : va_at D cl (H.size, zc B xa ca e') H1) : zHR B xa ca D cl (h ++ [e']) H1 := by
  have hsz := hR.1
  refine ⟨by rw [hz, hR.1, List.length_append]; rfl, fun k x hk hlt => ?_⟩
  by_cases hl : k < h.length
  · rw [List.getElem?_append_left hl] at hk
    exact (hR.2 k x hk hlt).kept (oq _ (by show B + k < H.size; omega))
  · rw [List.getElem?_append_right (by omega)] at hk
    have hz1 : k - h.length < 1 := (List.getElem?_eq_some_iff.mp hk).1
    rw [show k - h.length = 0 by omega] at hk
    cases hk
    have : B + k = H.size := by omega
    rw [this]
    exact hat
/-- cells of which nothing is known -/
def zjunk : zE := (1000, .inr (.inr (.inr [])))
theorem zHR_junk {B : Nat} {xa : Nat → Nat} {ca : Nat → ClassId} {D : va_G} {cl : List vw_C} {h : zH} {H H1 : Heap} (n : Nat) (hR : zHR B xa ca D cl h H) (hz : H1.size = H.size + n) (oq : ∀ q : Nat, q < H.size → H1[q]? = H[q]?) : zHR B xa ca D cl (h ++ List.replicate n zjunk) H1 := by
  have hsz := hR.1
  refine ⟨by rw [hz, hR.1, List.length_append, List.length_replicate]; omega, fun k x hk hlt => ?_⟩
  by_cases hl : k < h.length
  · rw [List.getElem?_append_left hl] at hk
    exact (hR.2 k x hk hlt).kept (oq _ (by show B + k < H.size; omega))
  · rw [List.getElem?_append_right (by omega)] at hk
    have hx := List.eq_of_mem_replicate (List.mem_of_getElem? hk)
    rw [hx] at hlt
    exact absurd hlt (by decide)
theorem zsl_junk (h : zH) (n : Nat) : zsl (h ++ List.replicate n zjunk) = zsl h := by
  simp [zsl, zsz, zjunk]
theorem zP1 {D : va_G} {cl : List vw_C} {q : Nat × va_E} {H : Heap} (h : va_at D cl q H) : va_P D cl [q] H := by
  intro k x hk
  have hz : k < 1 := (List.getElem?_eq_some_iff.mp hk).1
  rw [show k = 0 by omega] at hk
  cases hk
  exact h
theorem zidx_in {i : Int32} {n : Nat} (h : zidx i n = true) : vp_in i n := by
  unfold zidx at h
  simp only [Bool.and_eq_true, Bool.not_eq_true', decide_eq_false_iff_not, decide_eq_true_eq] at h
  exact fun q => q.elim h.1 (fun q => Nat.not_le.mpr h.2 q)
theorem zidx_lt {i : Int32} {n : Nat} (h : zidx i n = true) : i.toNatClampNeg < n := by
  unfold zidx at h
  simp only [Bool.and_eq_true, decide_eq_true_eq] at h
  exact h.2
theorem zupd_i {l : List Int32} {n : Nat} {x : Int32} (hn : n < l.length) : updV (fun j => .int (l.getD j 0)) n (.int x) = fun j => Value.int ((l.set n x).getD j 0) := by
  funext j
  unfold updV
  by_cases h : j = n
  · subst h
    simp [List.getD_eq_getElem?_getD, List.getElem?_set, hn]
  · simp [List.getD_eq_getElem?_getD, List.getElem?_set, h, Ne.symm h]
theorem zupd_l {l : List Int64} {n : Nat} {x : Int64} (hn : n < l.length) : updV (fun j => .long (l.getD j 0)) n (.long x) = fun j => Value.long ((l.set n x).getD j 0) := by
  funext j
  unfold updV
  by_cases h : j = n
  · subst h
    simp [List.getD_eq_getElem?_getD, List.getElem?_set, hn]
  · simp [List.getD_eq_getElem?_getD, List.getElem?_set, h, Ne.symm h]
theorem zupd_q {B : Nat} {l : List (Option Nat)} {n : Nat} {x : Nat} (hn : n < l.length) : updV (fun j => va_rf ((l.getD j none).map (fun q => B + q))) n (.ref (B + x)) = fun j => va_rf (((l.set n (some x)).getD j none).map (fun q => B + q)) := by
  funext j
  unfold updV
  by_cases h : j = n
  · subst h
    simp [List.getD_eq_getElem?_getD, List.getElem?_set, hn, va_rf]
  · simp [List.getD_eq_getElem?_getD, List.getElem?_set, h, Ne.symm h]
def zA (B : Nat) : Nat → Prop := fun q => B ≤ q
def ztys (ca : Nat → ClassId) (P : String) : List (ClassId × FieldType) := [(ca 0, .int), (ca 1, .long), (ca 2, .boolean), (ca 3, .object P)]
/-- what the words say of a method's class c0, named own -/
def zTab (Ts : List Cond) (cl : List vw_C) (P : String) (X : zX) (c0 : Nat) (own : String) : Prop :=
  (∀ (ci : Nat) (q : vw_C), cl[ci]? = some q → (∀ w ∈ u_ws q.1 q.2.1 q.2.2, w ∈ Ts) ∧ (∀ k, k < q.2.2 → parseFieldDescriptor (q.2.1 k).2.2.1 = some (zty X ci k)) ∧ (∀ a, a < q.2.2 → ∀ b, b < q.2.2 → a ≠ b → (q.2.1 a).2.1 ≠ (q.2.1 b).2.1) ∧ (∀ k, k < q.2.2 → (q.2.1 k).2.2.2 = zfin X ci k) ∧ (ci = c0 → ∀ k, k < q.2.2 → (q.2.1 k).1 = own)) ∧
  (∀ (j ci k : Nat), zfld X c0 j = some (ci, k) → ∃ q : vw_C, cl[ci]? = some q ∧ k < q.2.2 ∧ Cond.fieldLink own j (q.2.1 k).1 (q.2.1 k).2.1 (q.2.1 k).2.2.1 ∈ Ts) ∧
  (∀ (j : Nat) (x : Int32), zkon X c0 j = some (.int x) → Cond.constant own j x ∈ Ts) ∧
  (∀ (j : Nat) (x : Int64), zkon X c0 j = some (.long x) → Cond.constantLong own j x ∈ Ts) ∧
  (∀ (j ci : Nat) (fs : List Value), znew X c0 j = some (ci, fs) → ∃ q : vw_C, cl[ci]? = some q ∧ Cond.classLink own j q.1 ∈ Ts ∧ Cond.instantiable q.1 q.2.2 ∈ Ts ∧ Cond.initialized q.1 ∈ Ts ∧ fs.length = q.2.2 ∧ (∀ k, k < q.2.2 → defaultValue (zty X ci k) = vp_V fs k) ∧ ∀ (B : Nat) (xa : Nat → Nat), fs.map (zcv B xa) = fs) ∧
  (Cond.arrayClass .int ∈ Ts ∧ Cond.arrayClass .long ∈ Ts ∧ Cond.arrayClass .boolean ∈ Ts) ∧
  (∀ j : Nat, zisP X c0 j = true → Cond.classLink own j P ∈ Ts) ∧
  ((∃ q : vw_C, cl[zpc X]? = some q ∧ q.1 = P) ∧ cl.length ≤ 1000)
/-- what a state says: the classes, the things outside -/
def zGS (Ts : List Cond) (B : Nat) (xa : Nat → Nat) (ca : Nat → ClassId) (D : va_G) (cl : List vw_C) (P : String) (X : zX) (own : Nat → String) (s : State) : Prop :=
  va_K D cl (ztys ca P) s ∧ va_AO P s ∧
  (∀ c j e : Nat, zkon X c j = some (.retAddr e) → ∃ tx : String, vk_R (own c) j tx (xa e) s) ∧
  (∀ (c j : Nat) (v : Value), zsta X c j = some v → ∃ C n d : String, va_Z C n d (zcv B xa v) (zA B) s s.heap ∧ Cond.fieldLink (own c) j C n d ∈ Ts) ∧
  (∀ (c j e : Nat) (v : Value), zxget X c j e = some v → ∃ o n d : String, va_OF o n d (zcv B xa v) (xa e) (zA B) s s.heap ∧ Cond.fieldLink (own c) j o n d ∈ Ts) ∧
  (∀ (e : Nat) (b : Bool) (l : List Int32), zxarr X e = some (b, l) → va_T (if b = true then .byte else .int) (xa e) l.length (fun j => .int (l.getD j 0)) (zA B) s s.heap) ∧
  (∀ (e c : Nat), zxcl X e = some c → va_O (own c) (xa e) (zA B) s s.heap)
section ZS
variable {p : Program} {l : Launch} {e : Env} {R : Room} {s : State} {m : MethodId} {args : Array Value} {below : List Frame} {meth : Method} {c : Code} {H : Heap} {locs : List Loc} {cells slots : Nat} {Q : State → Prop}
variable {cc : ByteArray} {B : Nat} {xa : Nat → Nat} {ca : Nat → ClassId} {D : va_G} {cl : List vw_C} {tys : List (ClassId × FieldType)}
/-- a field is written -/
theorem zput_ok {own C : String} {T : u_T} {N ci index pc a : Nat} {Ts : List Cond} {LS : Array Slot} {rest : List Value} (hx : p.tables.exec = Jvm.exec) (hb : c.code = cc) (hts : ∀ w ∈ Ts, w.before args s = true) (hin : ∀ w ∈ u_ws C T N, w ∈ Ts) (ty0 : Nat → FieldType) (hty : ∀ k, k < N → parseFieldDescriptor (T k).2.2.1 = some (ty0 k)) (hnm : ∀ a, a < N → ∀ b, b < N → a ≠ b → (T a).2.1 ≠ (T b).2.1) (hown : s.vm.findClass own = some m.cls) (hK : va_K D cl tys s) {fs : List Value} (hat : va_at D cl (a, .inr (ci, fs)) H) (hc : cl[ci]? = some (C, T, N)) {k : Nat} (hk : k < N) (hlink : (Cond.fieldLink own index (T k).1 (T k).2.1 (T k).2.2.1).before args s = true)
    (hfin : (T k).2.2.2 = false ∨ ((T k).2.2.2 = true ∧ meth.name = "<init>" ∧ (T k).1 = own)) {v : Value} (hn : narrow (ty0 k) v = v) (hfit : fits (ty0 k) v = true) (hl : k < fs.length) (hdg : decode cc pc = .ok (.putfield index, 3))
    (kk : ∀ (H1 : Heap) (j : Nat), va_at D cl (a, .inr (ci, fs.set k v)) H1 → H1.size = H.size → (∀ q : Nat, q ≠ a → H1[q]? = H[q]?) → W p l e R s m args below meth c H1 (locs ++ [⟨a, j⟩]) cells slots Q (F0 m (pc + 3) LS rest)) : W p l e R s m args below meth c H locs cells slots Q (F0 m pc LS (v :: .ref a :: rest)) := by
  have hap := va_apart (own := own) hts hin ty0 hty hnm hK hc
  obtain ⟨r, h1, cell, q1, q2, q3, q4⟩ := hat
  have hr : r = (C, T, N) := Option.some.inj (h1.symm.trans hc)
  subst hr
  obtain ⟨hS, hfc, kC, hkC, hkind⟩ := hK.1 ci _ hc
  obtain ⟨cf, kf, fi, f, hi, hsl⟩ := hS k hk
  have hlay := hts _ (hin _ (u_in_lay hk))
  have hst := (u_facts hfc hkC (u_lays hts hin hk) hi).1
  have fin : ∀ H1 : Heap, H1[a]? = some (cell.setSlot f.slot v) → va_at D cl (a, .inr (ci, fs.set k v)) H1 := by
    intro H1 e1
    rw [hsl] at e1
    exact ⟨_, hc, t_OB.to (V := updV (vp_V fs) k v) ⟨_, e1, q2, q3, t_set q4 hap hk v⟩ (fun j _ => vp_updV_set hl v j)⟩
  rcases hfin with hf | ⟨hf, hin2, hdecl⟩
  · unfold u_lay at hlay
    rw [if_neg (by rw [hf]; decide)] at hlay
    have h6 := u_store hfc hkC hkind hlay hi (hty k hk) hn hfit
    exact W.putK hx hb (f := f) ⟨hown, hlink, ⟨_, _, _, hi⟩, hst⟩ (by rw [q2]; exact h6) q1 q3 (by rw [hsl]; exact k2_hasslot (q4 k hk)) rfl rfl hdg fun H' e1 e2 e3 => kk H' _ (fin H' e1) e2 e3
  · unfold u_lay at hlay
    rw [if_pos hf] at hlay
    have hcf : m.cls = cf := by
      obtain ⟨_, _, c', _, _, _, -, -, hf', -, -, -, hown2, -⟩ := Cond.laysFinal_spec hlay
      have e1 : c' = cf := by have := hi.symm.trans hf'; simp at this; exact this.1.symm
      rw [hdecl] at hown2
      rw [← e1]; exact Option.some.inj (hown.symm.trans hown2)
    have h6 := u_fits hfc hkC hkind (Or.inr hlay) hi (hty k hk) hn hfit
    exact W.putFinK hx hb hown hlink hi hst hcf hin2 (by rw [q2]; exact h6) q1 q3 (by rw [hsl]; exact k2_hasslot (q4 k hk)) rfl rfl hdg fun H' e1 e2 e3 => kk H' _ (fin H' e1) e2 e3
end ZS
