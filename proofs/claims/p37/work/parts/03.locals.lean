section ZS
variable {p : Program} {l : Launch} {e : Env} {R : Room} {s : State} {m : MethodId} {args : Array Value} {below : List Frame} {meth : Method} {c : Code} {H : Heap} {locs : List Loc} {cells slots : Nat} {Q : State → Prop}
variable {cc : ByteArray} {B : Nat} {xa : Nat → Nat}
set_option maxHeartbeats 4000000 in
set_option maxRecDepth 100000 in
theorem zstL_ok {nL : Nat} {i : Instr} {len pc : Nat} {ls : zL} {st : List Value} {h : zH} {pc' : Nat} {ls' : zL} {st' : List Value} {h' : zH} {LS : Array Slot} (hx : p.tables.exec = Jvm.exec) (hb : c.code = cc) (hd : decode cc pc = .ok (i, len)) (hlen : zlok i len = true) (hl : lv_has LS nL (zcl B xa ls))
    (hs : zstL nL i pc ls st h = some (pc', ls', st', h')) (k : ∀ LS' : Array Slot, lv_has LS' nL (zcl B xa ls') → W p l e R s m args below meth c H locs cells slots Q (F0 m pc' LS' (st'.map (zcv B xa)))) : (W p l e R s m args below meth c H locs cells slots Q (F0 m pc LS (st.map (zcv B xa)))) ∧ h' = h := by
  cases i with
  | iconst n =>
    obtain rfl : len = 1 := eq_of_beq hlen
    dsimp only [zstL] at hs
    cases hs
    exact ⟨lv_iconst hx hb hd rfl (k LS hl), rfl⟩
  | bipush n =>
    obtain rfl : len = 2 := eq_of_beq hlen
    dsimp only [zstL] at hs
    cases hs
    exact ⟨lv_bipush hx hb hd rfl (k LS hl), rfl⟩
  | sipush n =>
    obtain rfl : len = 3 := eq_of_beq hlen
    dsimp only [zstL] at hs
    cases hs
    exact ⟨lv_sipush hx hb hd rfl (k LS hl), rfl⟩
  | lconst n =>
    obtain rfl : len = 1 := eq_of_beq hlen
    dsimp only [zstL] at hs
    cases hs
    exact ⟨lv_lconst hx hb hd rfl (k LS hl), rfl⟩
  | iload_n j =>
    obtain rfl : len = 1 := eq_of_beq hlen
    dsimp only [zstL] at hs
    split at hs
    · next hg =>
      cases hs
      exact ⟨lv_iload_n hx hb hd rfl (zget_at hl hg) (k LS hl), rfl⟩
    · cases hs
  | lload_n j =>
    obtain rfl : len = 1 := eq_of_beq hlen
    dsimp only [zstL] at hs
    split at hs
    · next hg =>
      cases hs
      exact ⟨lv_lload_n hx hb hd rfl (zget_at hl hg) (k LS hl), rfl⟩
    · cases hs
  | iload j =>
    obtain rfl : len = 2 := eq_of_beq hlen
    dsimp only [zstL] at hs
    split at hs
    · next hg =>
      cases hs
      exact ⟨lv_iload hx hb hd (zget_at hl hg) (k LS hl), rfl⟩
    · cases hs
  | lload j =>
    obtain rfl : len = 2 := eq_of_beq hlen
    dsimp only [zstL] at hs
    split at hs
    · next hg =>
      cases hs
      exact ⟨lv_lload hx hb hd (zget_at hl hg) (k LS hl), rfl⟩
    · cases hs
  | aload_n j =>
    obtain rfl : len = 1 := eq_of_beq hlen
    dsimp only [zstL] at hs
    split at hs
    · next hg =>
      cases hs
      exact ⟨lv_aload_n hx hb hd rfl (zget_at hl hg) (k LS hl), rfl⟩
    · next hg =>
      cases hs
      exact ⟨lv_aload_n hx hb hd rfl (zget_at hl hg) (k LS hl), rfl⟩
    · next hg =>
      cases hs
      exact ⟨lv_aload_nN hx hb hd rfl (zget_at hl hg) (k LS hl), rfl⟩
    · cases hs
  | aload j =>
    obtain rfl : len = 2 := eq_of_beq hlen
    dsimp only [zstL] at hs
    split at hs
    · next hg =>
      cases hs
      exact ⟨lv_aload hx hb hd (zget_at hl hg) (k LS hl), rfl⟩
    · next hg =>
      cases hs
      exact ⟨lv_aload hx hb hd (zget_at hl hg) (k LS hl), rfl⟩
    · next hg =>
      cases hs
      exact ⟨lv_aloadN hx hb hd (zget_at hl hg) (k LS hl), rfl⟩
    · cases hs
  | istore_n j =>
    obtain rfl : len = 1 := eq_of_beq hlen
    dsimp only [zstL] at hs
    split at hs
    · split at hs
      · next hn =>
        cases hs
        exact ⟨lv_istore_n hx hb hd rfl hl hn (zset1_cl B xa ls _ (.int _)) (fun ls2 h2 => k ls2 h2), rfl⟩
      · cases hs
    · cases hs
  | astore_n j =>
    obtain rfl : len = 1 := eq_of_beq hlen
    dsimp only [zstL] at hs
    split at hs
    · split at hs
      · next hn =>
        cases hs
        exact ⟨lv_astore_n hx hb hd rfl hl hn (zset1_cl B xa ls _ (.ref _)) (fun ls2 h2 => k ls2 h2), rfl⟩
      · cases hs
    · cases hs
  | lstore_n j =>
    obtain rfl : len = 1 := eq_of_beq hlen
    dsimp only [zstL] at hs
    split at hs
    · split at hs
      · next hn =>
        cases hs
        exact ⟨lv_lstore_n hx hb hd rfl hl hn (zset2_cl B xa ls _ (.long _)) (fun ls2 h2 => k ls2 h2), rfl⟩
      · cases hs
    · cases hs
  | istore j =>
    obtain rfl : len = 2 := eq_of_beq hlen
    dsimp only [zstL] at hs
    split at hs
    · split at hs
      · next hn =>
        cases hs
        exact ⟨lv_istore hx hb hd hl hn (zset1_cl B xa ls _ (.int _)) (fun ls2 h2 => k ls2 h2), rfl⟩
      · cases hs
    · cases hs
  | astore j =>
    obtain rfl : len = 2 := eq_of_beq hlen
    dsimp only [zstL] at hs
    split at hs
    · split at hs
      · next hn =>
        cases hs
        exact ⟨lv_astore hx hb hd hl hn (zset1_cl B xa ls _ (.ref _)) (fun ls2 h2 => k ls2 h2), rfl⟩
      · cases hs
    · cases hs
  | lstore j =>
    obtain rfl : len = 2 := eq_of_beq hlen
    dsimp only [zstL] at hs
    split at hs
    · split at hs
      · next hn =>
        cases hs
        exact ⟨lv_lstore hx hb hd hl hn (zset2_cl B xa ls _ (.long _)) (fun ls2 h2 => k ls2 h2), rfl⟩
      · cases hs
    · cases hs
  | iinc j n =>
    obtain rfl : len = 3 := eq_of_beq hlen
    dsimp only [zstL] at hs
    split at hs
    · next x hg =>
      split at hs
      · next hn =>
        cases hs
        obtain ⟨i9, hi9⟩ := List.getElem?_of_mem (List.mem_map.mpr ⟨(j, .int x), zget_mem hg, rfl⟩ : (j, Value.int x) ∈ zcl B xa ls)
        exact ⟨lv_iinc hx hb hd hl hi9 rfl hn (zset1_cl B xa ls j (.int (x + Int32.ofInt n))) (fun ls2 h2 => k ls2 h2), rfl⟩
      · cases hs
    · cases hs
  | _ => exact nomatch (show (none : Option (Nat × zL × List Value × zH)) = some _ from hs)
end ZS
