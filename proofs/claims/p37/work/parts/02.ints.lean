/-! What a cell, a value, a heap of our machine is on the Java machine. B: where its cells begin; xa: addresses of things outside; ca: classes of arrays. -/
def zcv (B : Nat) (xa : Nat → Nat) : Value → Value
  | .ref k => .ref (B + k)
  | .retAddr k => .ref (xa k)
  | .int x => .int x
  | .long x => .long x
  | .float x => .float x
  | .double x => .double x
  | .null => .null
def zcl (B : Nat) (xa : Nat → Nat) (ls : zL) : List (Nat × Value) := ls.map (fun q => (q.1, zcv B xa q.2))
def zc (B : Nat) (xa : Nat → Nat) (ca : Nat → ClassId) : zE → va_E
  | (t, .inl l) => .inl (ca t, l.length, .inl (fun k => l.getD k 0))
  | (t, .inr (.inl l)) => .inl (ca t, l.length, .inr (.inl (fun k => l.getD k 0)))
  | (t, .inr (.inr (.inl l))) => .inl (ca t, l.length, .inr (.inr (.inr (.inr (fun k => (l.getD k none).map (fun q => B + q))))))
  | (ci, .inr (.inr (.inr fs))) => .inr (ci, fs.map (zcv B xa))
def zHR (B : Nat) (xa : Nat → Nat) (ca : Nat → ClassId) (D : va_G) (cl : List vw_C) (h : zH) (H : Heap) : Prop :=
  H.size = B + h.length ∧ ∀ (k : Nat) (e : zE), h[k]? = some e → e.1 < 1000 → va_at D cl (B + k, zc B xa ca e) H
theorem zcv_cat (B : Nat) (xa : Nat → Nat) (v : Value) : (zcv B xa v).category = v.category := by cases v <;> rfl
theorem zget_mem {ls : zL} {i : Nat} {v : Value} (h : zget ls i = some v) : (i, v) ∈ ls := by
  unfold zget at h
  cases hf : ls.find? (fun q => q.1 == i) with
  | none => rw [hf] at h; cases h
  | some q =>
    rw [hf] at h
    have h1 := List.find?_some hf
    have h2 := List.mem_of_find?_eq_some hf
    obtain ⟨a, b⟩ := q
    have e1 : a = i := by simpa using h1
    have e2 : b = v := by simpa using h
    subst e1; subst e2
    exact h2
theorem zget_at {B : Nat} {xa : Nat → Nat} {LS : Array Slot} {nL : Nat} {ls : zL} {i : Nat} {v : Value} (hl : lv_has LS nL (zcl B xa ls)) (h : zget ls i = some v) : LS[i]? = some (.val (zcv B xa v)) :=
  hl.2.2 (i, zcv B xa v) (List.mem_map.mpr ⟨(i, v), zget_mem h, rfl⟩)
theorem zset1_cl (B : Nat) (xa : Nat → Nat) (ls : zL) (i : Nat) (v : Value) : (i, zcv B xa v) :: (zcl B xa ls).filter (fun q => !(q.1 == i) && !(q.1 + 1 == i && q.2.category == 2)) = zcl B xa (zset1 ls i v) := by
  unfold zcl zset1
  rw [List.filter_map, List.map_cons]
  congr 2
  apply List.filter_congr
  intro q _
  simp [Function.comp, zcv_cat]
theorem zset2_cl (B : Nat) (xa : Nat → Nat) (ls : zL) (i : Nat) (v : Value) : (i, zcv B xa v) :: (zcl B xa ls).filter (fun q => !(q.1 == i) && (!(q.1 == i + 1) && !(q.1 + 1 == i && q.2.category == 2))) = zcl B xa (zset2 ls i v) := by
  unfold zcl zset2
  rw [List.filter_map, List.map_cons]
  congr 2
  apply List.filter_congr
  intro q _
  simp [Function.comp, zcv_cat]
def zlok (i : Instr) (len : Nat) : Bool := match i with
  | .tableswitch _ _ _ _ => true
  | .lookupswitch _ _ => true
  | _ => len == zlen i
theorem zjump_of {pc : Nat} {off : Int} {ls : zL} {st : List Value} {h : zH} {pc' : Nat} {ls' : zL} {st' : List Value} {h' : zH} (e : zjump pc off ls st h = some (pc', ls', st', h')) : (pc : Int) + off = (pc' : Int) ∧ ls' = ls ∧ st' = st ∧ h' = h := by
  unfold zjump at e
  split at e
  · cases e
    exact ⟨by omega, rfl, rfl, rfl⟩
  · cases e

theorem zbr_of {b : Bool} {pc : Nat} {off : Int} {ls : zL} {st : List Value} {h : zH} {pc' : Nat} {ls' : zL} {st' : List Value} {h' : zH} (e : zbr b pc off ls st h = some (pc', ls', st', h')) : ∃ tgt : Nat, (pc : Int) + off = (tgt : Int) ∧ ls' = ls ∧ st' = st ∧ h' = h ∧ ((b = true ∧ pc' = tgt) ∨ (b = false ∧ pc' = pc + 3)) := by
  unfold zbr at e
  split at e
  · split at e
    · next hb =>
      cases e
      exact ⟨_, by omega, rfl, rfl, rfl, Or.inl ⟨hb, rfl⟩⟩
    · next hb =>
      cases e
      exact ⟨((pc : Int) + off).toNat, by omega, rfl, rfl, rfl, Or.inr ⟨by simpa using hb, rfl⟩⟩
  · cases e

section ZS
variable {p : Program} {l : Launch} {e : Env} {R : Room} {s : State} {m : MethodId} {args : Array Value} {below : List Frame} {meth : Method} {c : Code} {H : Heap} {locs : List Loc} {cells slots : Nat} {Q : State → Prop}
variable {cc : ByteArray} {B : Nat} {xa : Nat → Nat}
set_option maxHeartbeats 4000000 in
set_option maxRecDepth 100000 in
theorem zstI_ok {X : zX} {i : Instr} {len pc : Nat} {ls : zL} {st : List Value} {h : zH} {pc' : Nat} {ls' : zL} {st' : List Value} {h' : zH} {LS : Array Slot} (hx : p.tables.exec = Jvm.exec) (hb : c.code = cc) (hd : decode cc pc = .ok (i, len)) (hlen : zlok i len = true)
    (hs : zstI X i pc ls st h = some (pc', ls', st', h')) (k : W p l e R s m args below meth c H locs cells slots Q (F0 m pc' LS (st'.map (zcv B xa)))) : (W p l e R s m args below meth c H locs cells slots Q (F0 m pc LS (st.map (zcv B xa)))) ∧ ls' = ls ∧ h' = h := by
  cases i with
  | iadd =>
    obtain rfl : len = 1 := eq_of_beq hlen
    dsimp only [zstI] at hs
    split at hs
    · cases hs
      exact ⟨lv_iadd hx hb hd k, rfl, rfl⟩
    · cases hs
  | isub =>
    obtain rfl : len = 1 := eq_of_beq hlen
    dsimp only [zstI] at hs
    split at hs
    · cases hs
      exact ⟨lv_isub hx hb hd k, rfl, rfl⟩
    · cases hs
  | imul =>
    obtain rfl : len = 1 := eq_of_beq hlen
    dsimp only [zstI] at hs
    split at hs
    · cases hs
      exact ⟨lv_imul hx hb hd k, rfl, rfl⟩
    · cases hs
  | iand =>
    obtain rfl : len = 1 := eq_of_beq hlen
    dsimp only [zstI] at hs
    split at hs
    · cases hs
      exact ⟨lv_iand hx hb hd k, rfl, rfl⟩
    · cases hs
  | ior =>
    obtain rfl : len = 1 := eq_of_beq hlen
    dsimp only [zstI] at hs
    split at hs
    · cases hs
      exact ⟨lv_ior hx hb hd k, rfl, rfl⟩
    · cases hs
  | ixor =>
    obtain rfl : len = 1 := eq_of_beq hlen
    dsimp only [zstI] at hs
    split at hs
    · cases hs
      exact ⟨lv_ixor hx hb hd k, rfl, rfl⟩
    · cases hs
  | ladd =>
    obtain rfl : len = 1 := eq_of_beq hlen
    dsimp only [zstI] at hs
    split at hs
    · cases hs
      exact ⟨lv_ladd hx hb hd k, rfl, rfl⟩
    · cases hs
  | lsub =>
    obtain rfl : len = 1 := eq_of_beq hlen
    dsimp only [zstI] at hs
    split at hs
    · cases hs
      exact ⟨lv_lsub hx hb hd k, rfl, rfl⟩
    · cases hs
  | lmul =>
    obtain rfl : len = 1 := eq_of_beq hlen
    dsimp only [zstI] at hs
    split at hs
    · cases hs
      exact ⟨lv_lmul hx hb hd k, rfl, rfl⟩
    · cases hs
  | land =>
    obtain rfl : len = 1 := eq_of_beq hlen
    dsimp only [zstI] at hs
    split at hs
    · cases hs
      exact ⟨lv_land hx hb hd k, rfl, rfl⟩
    · cases hs
  | lor =>
    obtain rfl : len = 1 := eq_of_beq hlen
    dsimp only [zstI] at hs
    split at hs
    · cases hs
      exact ⟨lv_lor hx hb hd k, rfl, rfl⟩
    · cases hs
  | lxor =>
    obtain rfl : len = 1 := eq_of_beq hlen
    dsimp only [zstI] at hs
    split at hs
    · cases hs
      exact ⟨lv_lxor hx hb hd k, rfl, rfl⟩
    · cases hs
  | ineg =>
    obtain rfl : len = 1 := eq_of_beq hlen
    dsimp only [zstI] at hs
    split at hs
    · cases hs
      exact ⟨lv_ineg hx hb hd k, rfl, rfl⟩
    · cases hs
  | lneg =>
    obtain rfl : len = 1 := eq_of_beq hlen
    dsimp only [zstI] at hs
    split at hs
    · cases hs
      exact ⟨lv_lneg hx hb hd k, rfl, rfl⟩
    · cases hs
  | ishl =>
    obtain rfl : len = 1 := eq_of_beq hlen
    dsimp only [zstI] at hs
    split at hs
    · cases hs
      exact ⟨lv_ishl hx hb hd k, rfl, rfl⟩
    · cases hs
  | ishr =>
    obtain rfl : len = 1 := eq_of_beq hlen
    dsimp only [zstI] at hs
    split at hs
    · cases hs
      exact ⟨lv_ishr hx hb hd k, rfl, rfl⟩
    · cases hs
  | iushr =>
    obtain rfl : len = 1 := eq_of_beq hlen
    dsimp only [zstI] at hs
    split at hs
    · cases hs
      exact ⟨lv_iushr hx hb hd rfl k, rfl, rfl⟩
    · cases hs
  | lshl =>
    obtain rfl : len = 1 := eq_of_beq hlen
    dsimp only [zstI] at hs
    split at hs
    · cases hs
      exact ⟨lv_lshl hx hb hd rfl k, rfl, rfl⟩
    · cases hs
  | lshr =>
    obtain rfl : len = 1 := eq_of_beq hlen
    dsimp only [zstI] at hs
    split at hs
    · cases hs
      exact ⟨lv_lshr hx hb hd rfl k, rfl, rfl⟩
    · cases hs
  | lushr =>
    obtain rfl : len = 1 := eq_of_beq hlen
    dsimp only [zstI] at hs
    split at hs
    · cases hs
      exact ⟨lv_lushr hx hb hd rfl k, rfl, rfl⟩
    · cases hs
  | i2l =>
    obtain rfl : len = 1 := eq_of_beq hlen
    dsimp only [zstI] at hs
    split at hs
    · cases hs
      exact ⟨lv_i2l hx hb hd rfl k, rfl, rfl⟩
    · cases hs
  | l2i =>
    obtain rfl : len = 1 := eq_of_beq hlen
    dsimp only [zstI] at hs
    split at hs
    · cases hs
      exact ⟨lv_l2i hx hb hd rfl k, rfl, rfl⟩
    · cases hs
  | i2c =>
    obtain rfl : len = 1 := eq_of_beq hlen
    dsimp only [zstI] at hs
    split at hs
    · cases hs
      exact ⟨lv_i2c hx hb hd rfl k, rfl, rfl⟩
    · cases hs
  | lcmp =>
    obtain rfl : len = 1 := eq_of_beq hlen
    dsimp only [zstI] at hs
    split at hs
    · cases hs
      exact ⟨W.lcmp hx hb hd k, rfl, rfl⟩
    · cases hs
  | idiv =>
    obtain rfl : len = 1 := eq_of_beq hlen
    dsimp only [zstI] at hs
    split at hs
    · split at hs
      · cases hs
      · next hy =>
        cases hs
        exact ⟨lv_idiv hx hb hd hy k, rfl, rfl⟩
    · cases hs
  | irem =>
    obtain rfl : len = 1 := eq_of_beq hlen
    dsimp only [zstI] at hs
    split at hs
    · split at hs
      · cases hs
      · next hy =>
        cases hs
        exact ⟨lv_irem hx hb hd hy k, rfl, rfl⟩
    · cases hs
  | ldiv =>
    obtain rfl : len = 1 := eq_of_beq hlen
    dsimp only [zstI] at hs
    split at hs
    · split at hs
      · cases hs
      · next hy =>
        cases hs
        exact ⟨lv_ldiv hx hb hd hy k, rfl, rfl⟩
    · cases hs
  | lrem =>
    obtain rfl : len = 1 := eq_of_beq hlen
    dsimp only [zstI] at hs
    split at hs
    · split at hs
      · cases hs
      · next hy =>
        cases hs
        exact ⟨lv_lrem hx hb hd hy k, rfl, rfl⟩
    · cases hs
  | dup =>
    obtain rfl : len = 1 := eq_of_beq hlen
    dsimp only [zstI] at hs
    split at hs
    · cases hs
      exact ⟨lv_dup hx hb hd rfl k, rfl, rfl⟩
    · cases hs
      exact ⟨lv_dup hx hb hd rfl k, rfl, rfl⟩
    · cases hs
  | dup2 =>
    obtain rfl : len = 1 := eq_of_beq hlen
    dsimp only [zstI] at hs
    split at hs
    · cases hs
      exact ⟨lv_dup2_11 hx hb hd rfl rfl k, rfl, rfl⟩
    · cases hs
  | pop =>
    obtain rfl : len = 1 := eq_of_beq hlen
    dsimp only [zstI] at hs
    split at hs
    · cases hs
      exact ⟨lv_pop hx hb hd rfl k, rfl, rfl⟩
    · cases hs
      exact ⟨lv_pop hx hb hd rfl k, rfl, rfl⟩
    · cases hs
  | ifCond cnd off =>
    obtain rfl : len = 3 := eq_of_beq hlen
    dsimp only [zstI] at hs
    split at hs
    · obtain ⟨tgt, ht, rfl, rfl, rfl, hc⟩ := zbr_of hs
      refine ⟨?_, rfl, rfl⟩
      cases cnd with
      | eq =>
        refine lv_if_eq hx hb hd ht (fun q => ?_) (fun q => ?_)
        · rcases hc with ⟨_, rfl⟩ | ⟨hz, _⟩
          · exact k
          · exact absurd q (by simpa [zicmp] using hz)
        · rcases hc with ⟨hz, _⟩ | ⟨_, rfl⟩
          · exact absurd q (by simpa [zicmp] using hz)
          · exact k
      | ne =>
        refine lv_if_ne hx hb hd ht (fun q => ?_) (fun q => ?_)
        · rcases hc with ⟨_, rfl⟩ | ⟨hz, _⟩
          · exact k
          · exact absurd q (by simpa [zicmp] using hz)
        · rcases hc with ⟨hz, _⟩ | ⟨_, rfl⟩
          · exact absurd q (by simpa [zicmp] using hz)
          · exact k
      | lt =>
        refine lv_if_lt hx hb hd ht (fun q => ?_) (fun q => ?_)
        · rcases hc with ⟨_, rfl⟩ | ⟨hz, _⟩
          · exact k
          · exact absurd q (by simpa [zicmp] using hz)
        · rcases hc with ⟨hz, _⟩ | ⟨_, rfl⟩
          · exact absurd q (by simpa [zicmp] using hz)
          · exact k
      | ge =>
        refine lv_if_ge hx hb hd ht (fun q => ?_) (fun q => ?_)
        · rcases hc with ⟨_, rfl⟩ | ⟨hz, _⟩
          · exact k
          · exact absurd q (by simpa [zicmp] using hz)
        · rcases hc with ⟨hz, _⟩ | ⟨_, rfl⟩
          · exact absurd q (by simpa [zicmp] using hz)
          · exact k
      | gt =>
        refine lv_if_gt hx hb hd ht (fun q => ?_) (fun q => ?_)
        · rcases hc with ⟨_, rfl⟩ | ⟨hz, _⟩
          · exact k
          · exact absurd q (by simpa [zicmp] using hz)
        · rcases hc with ⟨hz, _⟩ | ⟨_, rfl⟩
          · exact absurd q (by simpa [zicmp] using hz)
          · exact k
      | le =>
        refine lv_if_le hx hb hd ht (fun q => ?_) (fun q => ?_)
        · rcases hc with ⟨_, rfl⟩ | ⟨hz, _⟩
          · exact k
          · exact absurd q (by simpa [zicmp] using hz)
        · rcases hc with ⟨hz, _⟩ | ⟨_, rfl⟩
          · exact absurd q (by simpa [zicmp] using hz)
          · exact k
    · cases hs
  | if_icmp cnd off =>
    obtain rfl : len = 3 := eq_of_beq hlen
    dsimp only [zstI] at hs
    split at hs
    · obtain ⟨tgt, ht, rfl, rfl, rfl, hc⟩ := zbr_of hs
      refine ⟨?_, rfl, rfl⟩
      cases cnd with
      | eq =>
        refine lv_icmp_eq hx hb hd ht (fun q => ?_) (fun q => ?_)
        · rcases hc with ⟨_, rfl⟩ | ⟨hz, _⟩
          · exact k
          · exact absurd q (by simpa [zicmp] using hz)
        · rcases hc with ⟨hz, _⟩ | ⟨_, rfl⟩
          · exact absurd q (by simpa [zicmp] using hz)
          · exact k
      | ne =>
        refine lv_icmp_ne hx hb hd ht (fun q => ?_) (fun q => ?_)
        · rcases hc with ⟨_, rfl⟩ | ⟨hz, _⟩
          · exact k
          · exact absurd q (by simpa [zicmp] using hz)
        · rcases hc with ⟨hz, _⟩ | ⟨_, rfl⟩
          · exact absurd q (by simpa [zicmp] using hz)
          · exact k
      | lt =>
        refine lv_icmp_lt hx hb hd ht (fun q => ?_) (fun q => ?_)
        · rcases hc with ⟨_, rfl⟩ | ⟨hz, _⟩
          · exact k
          · exact absurd q (by simpa [zicmp] using hz)
        · rcases hc with ⟨hz, _⟩ | ⟨_, rfl⟩
          · exact absurd q (by simpa [zicmp] using hz)
          · exact k
      | ge =>
        refine lv_icmp_ge hx hb hd ht (fun q => ?_) (fun q => ?_)
        · rcases hc with ⟨_, rfl⟩ | ⟨hz, _⟩
          · exact k
          · exact absurd q (by simpa [zicmp] using hz)
        · rcases hc with ⟨hz, _⟩ | ⟨_, rfl⟩
          · exact absurd q (by simpa [zicmp] using hz)
          · exact k
      | gt =>
        refine lv_icmp_gt hx hb hd ht (fun q => ?_) (fun q => ?_)
        · rcases hc with ⟨_, rfl⟩ | ⟨hz, _⟩
          · exact k
          · exact absurd q (by simpa [zicmp] using hz)
        · rcases hc with ⟨hz, _⟩ | ⟨_, rfl⟩
          · exact absurd q (by simpa [zicmp] using hz)
          · exact k
      | le =>
        refine lv_icmp_le hx hb hd ht (fun q => ?_) (fun q => ?_)
        · rcases hc with ⟨_, rfl⟩ | ⟨hz, _⟩
          · exact k
          · exact absurd q (by simpa [zicmp] using hz)
        · rcases hc with ⟨hz, _⟩ | ⟨_, rfl⟩
          · exact absurd q (by simpa [zicmp] using hz)
          · exact k
    · cases hs
  | goto off =>
    obtain rfl : len = 3 := eq_of_beq hlen
    dsimp only [zstI] at hs
    obtain ⟨ht, rfl, rfl, rfl⟩ := zjump_of hs
    exact ⟨lv_goto hx hb hd ht k, rfl, rfl⟩
  | tableswitch d lo hi offs =>
    dsimp only [zstI] at hs
    split at hs
    · split at hs
      · next ho =>
        obtain ⟨ht, rfl, rfl, rfl⟩ := zjump_of hs
        exact ⟨lv_tableOut hx hb hd ho ht k, rfl, rfl⟩
      · next ho =>
        split at hs
        · next hoff =>
          obtain ⟨ht, rfl, rfl, rfl⟩ := zjump_of hs
          exact ⟨lv_tableIn hx hb hd (fun q => ho (Or.inl q)) (fun q => ho (Or.inr q)) hoff ht k, rfl, rfl⟩
        · cases hs
    · cases hs
  | lookupswitch d ps =>
    dsimp only [zstI] at hs
    split at hs
    · split at hs
      · next hp =>
        obtain ⟨ht, rfl, rfl, rfl⟩ := zjump_of hs
        exact ⟨lv_lookup hx hb hd hp rfl ht k, rfl, rfl⟩
      · cases hs
    · cases hs
  | _ => exact nomatch (show (none : Option (Nat × zL × List Value × zH)) = some _ from hs)
end ZS
