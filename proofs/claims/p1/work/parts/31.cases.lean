/-! The cases of the law's switch, but that of rider. By program: wip/gen/gen32.py. -/
def yisl (v : Value) : Bool := match v with
  | .long _ => true
  | _ => false
theorem ylong {v : Value} (h : yisl v = true) : ∃ z : Int64, v = .long z := by
  cases v with
  | long z => exact ⟨z, rfl⟩
  | _ => cases h
theorem ykl : yall 20 nX10_law ([(-2147483648, 2147483647), (-2147483648, 2147483647), (-2147483648, 2147483647)], 0) 3 yisl = true := by decide +kernel
theorem ypairs {Q R : Value → zH → zH → Prop} {S : Value → Prop} (h : ∃ (v : Value) (hx hm : zH), hx.length = 128 ∧ hm.length = 48 ∧ Q v hx hm ∧ R v hx hm ∧ S v) : ∃ (v : Value) (hx hm : zH), hx.length = 128 ∧ hm.length = 48 ∧ Q v hx hm ∧ R v hx hm := by
  obtain ⟨v, hx, hm, l1, l2, e1, e2, -⟩ := h
  exact ⟨v, hx, hm, l1, l2, e1, e2⟩
theorem yifeq {nf : Bool} {xs : List Int32} {p q : Nat} {off : Int} {x : Int32} {r : List Value} {h : zH} (t : ztlaw p = some (.ifCond .eq off, 3)) (ho : (p : Int) + off = (q : Int)) (hx : x = 0) : zLaw nf xs 1 (p, yLS 0, .int x :: r, h) (q, yLS 0, r, h) := by
  refine zGo_one t (ystepI ?_)
  show zbr (zicmp .eq x 0) p off (yLS 0) r h = some _
  rw [show zicmp .eq x 0 = true from decide_eq_true hx]
  unfold zbr
  rw [ho, if_pos (Int.natCast_nonneg q), if_pos rfl]
  rfl
theorem yifne {nf : Bool} {xs : List Int32} {p : Nat} {off : Int} {x : Int32} {r : List Value} {h : zH} (t : ztlaw p = some (.ifCond .eq off, 3)) (ho : 0 ≤ (p : Int) + off) (hx : x ≠ 0) : zLaw nf xs 1 (p, yLS 0, .int x :: r, h) (p + 3, yLS 0, r, h) := by
  refine zGo_one t (ystepI ?_)
  show zbr (zicmp .eq x 0) p off (yLS 0) r h = some _
  rw [show zicmp .eq x 0 = false from decide_eq_false hx]
  unfold zbr
  rw [if_pos ho, if_neg (by decide)]
theorem ylcmp_eq {nf : Bool} {xs : List Int32} {p : Nat} {off : Int} {z : Int64} {h : zH} (t0 : ztlaw p = some (.lcmp, 1)) (t : ztlaw (p + 1) = some (.ifCond .eq off, 3)) (ho : ((p + 1 : Nat) : Int) + off = 1521) : zLaw nf xs 2 (p, yLS 0, [.long z, .long z], h) (1521, yLS 0, [], h) := by
  refine zLaw_trans (b := (p + 1, yLS 0, [.int 0], h)) (zGo_one t0 (ystepI ?_)) (yifeq t ho rfl)
  show some (p + 1, yLS 0, [Value.int (lg_cmp z z)], h) = some _
  have e : lg_cmp z z = 0 := by
    unfold lg_cmp
    simp
  rw [e]
theorem ybx {n : Nat} {vals : List Int32} {ivs : List (Int × Int)} (hl : ivs.length = n) (h : ∀ k : Nat, k < n → ∀ q x, ivs[k]? = some q → vals[k]? = some x → q.1 ≤ x.toInt ∧ x.toInt ≤ q.2) (k : Nat) (q : Int × Int) (x : Int32) (hq : ivs[k]? = some q) (hx : vals[k]? = some x) : q.1 ≤ x.toInt ∧ x.toInt ≤ q.2 := h k (by rw [← hl]; exact (List.getElem?_eq_some_iff.mp hq).1) q x hq hx
theorem yl0 (nf : Bool) (x0 x1 x2 x3 x4 x5 : Int32) : ∃ (n : Nat) (h : zH), h.length = 176 ∧ zLaw nf [x0, x1, x2, x3, x4, x5] n (204, yLS 0, [], yHx ++ yHo) (1521, yLS 0, [], h) := by
  have pr : ∃ (v : Value) (hx hm : zH), hx.length = 128 ∧ hm.length = 48 ∧ zEv (zXt nf [x0, x1, x2, x3, x4, x5]) zIT zmcl zMt 20 nX10_feed (.ref 0 :: [.int x1, .int x2, .int x3, .int x4, .int x5]) (yHx ++ yHo) (some v) (hx ++ yHo) ∧ zEv (zXt nf [x0, x1, x2, x3, x4, x5]) zIT zmcl zMt 20 nX11_feed (.ref 128 :: [.int x1, .int x2, .int x3, .int x4, .int x5]) (hx ++ yHo) (some v) (hx ++ hm) := by
    exact (ypair2 yka0 ykb0 ykc0 ykd0 nf [x0, x1, x2, x3, x4, x5] [x1, x2, x3, x4, x5] rfl (by decide) rfl rfl (yfull (n := 5)))
  obtain ⟨v, hx, hm, l1, l2, e1, e2⟩ := pr
  obtain ⟨z, hz⟩ := zEv_int (mt := zMt) (mi := nX10_feed) rfl (Or.inl rfl) e1
  cases hz
  obtain ⟨n, hn⟩ := ylaw_two (nf := nf) (xs := [x0, x1, x2, x3, x4, x5]) (pk := 204) (p1 := 235) (p2 := 269) (as := [.int x1, .int x2, .int x3, .int x4, .int x5]) (fun h => ⟨_, lstr (n := 26) (pc := 204) (pc' := 235) (i := 0) (i' := 0) (st := []) (st' := [.float 5, .float 4, .float 3, .float 2, .float 1, .ref 0]) (by decide +kernel) rfl rfl nf x0 x1 x2 x3 x4 x5 0 0 h⟩) rfl rfl rfl (fun h => ⟨_, lstr (n := 26) (pc := 238) (pc' := 269) (i := 0) (i' := 0) (st := [.float 6]) (st' := [.float 5, .float 4, .float 3, .float 2, .float 1, .ref 128, .float 6]) (by decide +kernel) rfl rfl nf x0 x1 x2 x3 x4 x5 z 0 h⟩) rfl rfl rfl rfl (fun h => ⟨1, ycmp_eq rfl rfl⟩) l1 e1 e2
  exact ⟨n, hx ++ hm, by rw [List.length_append, l1, l2], hn⟩
theorem yl1 (nf : Bool) (x0 x1 x2 x3 x4 x5 : Int32) : ∃ (n : Nat) (h : zH), h.length = 176 ∧ zLaw nf [x0, x1, x2, x3, x4, x5] n (277, yLS 0, [], yHx ++ yHo) (1521, yLS 0, [], h) := by
  have pr : ∃ (v : Value) (hx hm : zH), hx.length = 128 ∧ hm.length = 48 ∧ zEv (zXt nf [x0, x1, x2, x3, x4, x5]) zIT zmcl zMt 20 nX10_text (.ref 0 :: [.int x1]) (yHx ++ yHo) (some v) (hx ++ yHo) ∧ zEv (zXt nf [x0, x1, x2, x3, x4, x5]) zIT zmcl zMt 20 nX11_text (.ref 128 :: [.int x1]) (hx ++ yHo) (some v) (hx ++ hm) := by
    exact (ypair2 yka1 ykb1 ykc1 ykd1 nf [x0, x1, x2, x3, x4, x5] [x1] rfl (by decide) rfl rfl (yfull (n := 1)))
  obtain ⟨v, hx, hm, l1, l2, e1, e2⟩ := pr
  obtain ⟨z, hz⟩ := zEv_int (mt := zMt) (mi := nX10_text) rfl (Or.inl rfl) e1
  cases hz
  obtain ⟨n, hn⟩ := ylaw_two (nf := nf) (xs := [x0, x1, x2, x3, x4, x5]) (pk := 277) (p1 := 284) (p2 := 294) (as := [.int x1]) (fun h => ⟨_, lstr (n := 6) (pc := 277) (pc' := 284) (i := 0) (i' := 0) (st := []) (st' := [.float 1, .ref 0]) (by decide +kernel) rfl rfl nf x0 x1 x2 x3 x4 x5 0 0 h⟩) rfl rfl rfl (fun h => ⟨_, lstr (n := 6) (pc := 287) (pc' := 294) (i := 0) (i' := 0) (st := [.float 6]) (st' := [.float 1, .ref 128, .float 6]) (by decide +kernel) rfl rfl nf x0 x1 x2 x3 x4 x5 z 0 h⟩) rfl rfl rfl rfl (fun h => ⟨1, ycmp_eq rfl rfl⟩) l1 e1 e2
  exact ⟨n, hx ++ hm, by rw [List.length_append, l1, l2], hn⟩
theorem yl2 (nf : Bool) (x0 x1 x2 x3 x4 x5 : Int32) : ∃ (n : Nat) (h : zH), h.length = 176 ∧ zLaw nf [x0, x1, x2, x3, x4, x5] n (302, yLS 0, [], yHx ++ yHo) (1521, yLS 0, [], h) := by
  have pr : ∃ (v : Value) (hx hm : zH), hx.length = 128 ∧ hm.length = 48 ∧ zEv (zXt nf [x0, x1, x2, x3, x4, x5]) zIT zmcl zMt 20 nX10_fault (.ref 0 :: [.int x1]) (yHx ++ yHo) (some v) (hx ++ yHo) ∧ zEv (zXt nf [x0, x1, x2, x3, x4, x5]) zIT zmcl zMt 20 nX11_fault (.ref 128 :: [.int x1]) (hx ++ yHo) (some v) (hx ++ hm) := by
    exact ypairs (ypair yk2 nf [x0, x1, x2, x3, x4, x5] [x1] rfl (by decide) rfl rfl (yfull (n := 1)))
  obtain ⟨v, hx, hm, l1, l2, e1, e2⟩ := pr
  obtain ⟨z, hz⟩ := zEv_int (mt := zMt) (mi := nX10_fault) rfl (Or.inl rfl) e1
  cases hz
  obtain ⟨n, hn⟩ := ylaw_two (nf := nf) (xs := [x0, x1, x2, x3, x4, x5]) (pk := 302) (p1 := 309) (p2 := 319) (as := [.int x1]) (fun h => ⟨_, lstr (n := 6) (pc := 302) (pc' := 309) (i := 0) (i' := 0) (st := []) (st' := [.float 1, .ref 0]) (by decide +kernel) rfl rfl nf x0 x1 x2 x3 x4 x5 0 0 h⟩) rfl rfl rfl (fun h => ⟨_, lstr (n := 6) (pc := 312) (pc' := 319) (i := 0) (i' := 0) (st := [.float 6]) (st' := [.float 1, .ref 128, .float 6]) (by decide +kernel) rfl rfl nf x0 x1 x2 x3 x4 x5 z 0 h⟩) rfl rfl rfl rfl (fun h => ⟨1, ycmp_eq rfl rfl⟩) l1 e1 e2
  exact ⟨n, hx ++ hm, by rw [List.length_append, l1, l2], hn⟩
theorem yl3 (nf : Bool) (x0 x1 x2 x3 x4 x5 : Int32) : ∃ (n : Nat) (h : zH), h.length = 176 ∧ zLaw nf [x0, x1, x2, x3, x4, x5] n (327, yLS 0, [], yHx ++ yHo) (1521, yLS 0, [], h) := by
  have pr : ∃ (v : Value) (hx hm : zH), hx.length = 128 ∧ hm.length = 48 ∧ zEv (zXt nf [x0, x1, x2, x3, x4, x5]) zIT zmcl zMt 20 nX10_named (.ref 0 :: [.int x1, .int x2]) (yHx ++ yHo) (some v) (hx ++ yHo) ∧ zEv (zXt nf [x0, x1, x2, x3, x4, x5]) zIT zmcl zMt 20 nX11_named (.ref 128 :: [.int x1, .int x2]) (hx ++ yHo) (some v) (hx ++ hm) := by
    exact ypairs (ypair yk3 nf [x0, x1, x2, x3, x4, x5] [x1, x2] rfl (by decide) rfl rfl (yfull (n := 2)))
  obtain ⟨v, hx, hm, l1, l2, e1, e2⟩ := pr
  obtain ⟨z, hz⟩ := zEv_int (mt := zMt) (mi := nX10_named) rfl (Or.inl rfl) e1
  cases hz
  obtain ⟨n, hn⟩ := ylaw_two (nf := nf) (xs := [x0, x1, x2, x3, x4, x5]) (pk := 327) (p1 := 340) (p2 := 356) (as := [.int x1, .int x2]) (fun h => ⟨_, lstr (n := 11) (pc := 327) (pc' := 340) (i := 0) (i' := 0) (st := []) (st' := [.float 2, .float 1, .ref 0]) (by decide +kernel) rfl rfl nf x0 x1 x2 x3 x4 x5 0 0 h⟩) rfl rfl rfl (fun h => ⟨_, lstr (n := 11) (pc := 343) (pc' := 356) (i := 0) (i' := 0) (st := [.float 6]) (st' := [.float 2, .float 1, .ref 128, .float 6]) (by decide +kernel) rfl rfl nf x0 x1 x2 x3 x4 x5 z 0 h⟩) rfl rfl rfl rfl (fun h => ⟨1, ycmp_eq rfl rfl⟩) l1 e1 e2
  exact ⟨n, hx ++ hm, by rw [List.length_append, l1, l2], hn⟩
theorem yl5 (nf : Bool) (x0 x1 x2 x3 x4 x5 : Int32) : ∃ (n : Nat) (h : zH), h.length = 176 ∧ zLaw nf [x0, x1, x2, x3, x4, x5] n (432, yLS 0, [], yHx ++ yHo) (1521, yLS 0, [], h) := by
  have pr : ∃ (v : Value) (hx hm : zH), hx.length = 128 ∧ hm.length = 48 ∧ zEv (zXt nf [x0, x1, x2, x3, x4, x5]) zIT zmcl zMt 20 nX10_has (.ref 0 :: [.int x1, .int x2]) (yHx ++ yHo) (some v) (hx ++ yHo) ∧ zEv (zXt nf [x0, x1, x2, x3, x4, x5]) zIT zmcl zMt 20 nX11_has (.ref 128 :: [.int x1, .int x2]) (hx ++ yHo) (some v) (hx ++ hm) := by
    exact ypairs (ypair yk5 nf [x0, x1, x2, x3, x4, x5] [x1, x2] rfl (by decide) rfl rfl (yfull (n := 2)))
  obtain ⟨v, hx, hm, l1, l2, e1, e2⟩ := pr
  obtain ⟨z, hz⟩ := zEv_int (mt := zMt) (mi := nX10_has) rfl (Or.inl rfl) e1
  cases hz
  obtain ⟨n, hn⟩ := ylaw_two (nf := nf) (xs := [x0, x1, x2, x3, x4, x5]) (pk := 432) (p1 := 445) (p2 := 461) (as := [.int x1, .int x2]) (fun h => ⟨_, lstr (n := 11) (pc := 432) (pc' := 445) (i := 0) (i' := 0) (st := []) (st' := [.float 2, .float 1, .ref 0]) (by decide +kernel) rfl rfl nf x0 x1 x2 x3 x4 x5 0 0 h⟩) rfl rfl rfl (fun h => ⟨_, lstr (n := 11) (pc := 448) (pc' := 461) (i := 0) (i' := 0) (st := [.float 6]) (st' := [.float 2, .float 1, .ref 128, .float 6]) (by decide +kernel) rfl rfl nf x0 x1 x2 x3 x4 x5 z 0 h⟩) rfl rfl rfl rfl (fun h => ⟨1, ycmp_eq rfl rfl⟩) l1 e1 e2
  exact ⟨n, hx ++ hm, by rw [List.length_append, l1, l2], hn⟩
theorem yl6 (nf : Bool) (x0 x1 x2 x3 x4 x5 : Int32) : ∃ (n : Nat) (h : zH), h.length = 176 ∧ zLaw nf [x0, x1, x2, x3, x4, x5] n (469, yLS 0, [], yHx ++ yHo) (1521, yLS 0, [], h) := by
  have pr : ∃ (v : Value) (hx hm : zH), hx.length = 128 ∧ hm.length = 48 ∧ zEv (zXt nf [x0, x1, x2, x3, x4, x5]) zIT zmcl zMt 20 nX10_joke (.ref 0 :: [.int x1, .int x2]) (yHx ++ yHo) (some v) (hx ++ yHo) ∧ zEv (zXt nf [x0, x1, x2, x3, x4, x5]) zIT zmcl zMt 20 nX11_joke (.ref 128 :: [.int x1, .int x2]) (hx ++ yHo) (some v) (hx ++ hm) := by
    exact ypairs (ypair yk6 nf [x0, x1, x2, x3, x4, x5] [x1, x2] rfl (by decide) rfl rfl (yfull (n := 2)))
  obtain ⟨v, hx, hm, l1, l2, e1, e2⟩ := pr
  obtain ⟨z, hz⟩ := zEv_int (mt := zMt) (mi := nX10_joke) rfl (Or.inl rfl) e1
  cases hz
  obtain ⟨n, hn⟩ := ylaw_two (nf := nf) (xs := [x0, x1, x2, x3, x4, x5]) (pk := 469) (p1 := 482) (p2 := 498) (as := [.int x1, .int x2]) (fun h => ⟨_, lstr (n := 11) (pc := 469) (pc' := 482) (i := 0) (i' := 0) (st := []) (st' := [.float 2, .float 1, .ref 0]) (by decide +kernel) rfl rfl nf x0 x1 x2 x3 x4 x5 0 0 h⟩) rfl rfl rfl (fun h => ⟨_, lstr (n := 11) (pc := 485) (pc' := 498) (i := 0) (i' := 0) (st := [.float 6]) (st' := [.float 2, .float 1, .ref 128, .float 6]) (by decide +kernel) rfl rfl nf x0 x1 x2 x3 x4 x5 z 0 h⟩) rfl rfl rfl rfl (fun h => ⟨1, ycmp_eq rfl rfl⟩) l1 e1 e2
  exact ⟨n, hx ++ hm, by rw [List.length_append, l1, l2], hn⟩
theorem yl7 (nf : Bool) (x0 x1 x2 x3 x4 x5 : Int32) : ∃ (n : Nat) (h : zH), h.length = 176 ∧ zLaw nf [x0, x1, x2, x3, x4, x5] n (506, yLS 0, [], yHx ++ yHo) (1521, yLS 0, [], h) := by
  have pr : ∃ (v : Value) (hx hm : zH), hx.length = 128 ∧ hm.length = 48 ∧ zEv (zXt nf [x0, x1, x2, x3, x4, x5]) zIT zmcl zMt 20 nX10_heard (.ref 0 :: [.int x1, .int x2]) (yHx ++ yHo) (some v) (hx ++ yHo) ∧ zEv (zXt nf [x0, x1, x2, x3, x4, x5]) zIT zmcl zMt 20 nX11_heard (.ref 128 :: [.int x1, .int x2]) (hx ++ yHo) (some v) (hx ++ hm) := by
    exact ypairs (ypair yk7 nf [x0, x1, x2, x3, x4, x5] [x1, x2] rfl (by decide) rfl rfl (yfull (n := 2)))
  obtain ⟨v, hx, hm, l1, l2, e1, e2⟩ := pr
  obtain ⟨z, hz⟩ := zEv_int (mt := zMt) (mi := nX10_heard) rfl (Or.inl rfl) e1
  cases hz
  obtain ⟨n, hn⟩ := ylaw_two (nf := nf) (xs := [x0, x1, x2, x3, x4, x5]) (pk := 506) (p1 := 519) (p2 := 535) (as := [.int x1, .int x2]) (fun h => ⟨_, lstr (n := 11) (pc := 506) (pc' := 519) (i := 0) (i' := 0) (st := []) (st' := [.float 2, .float 1, .ref 0]) (by decide +kernel) rfl rfl nf x0 x1 x2 x3 x4 x5 0 0 h⟩) rfl rfl rfl (fun h => ⟨_, lstr (n := 11) (pc := 522) (pc' := 535) (i := 0) (i' := 0) (st := [.float 6]) (st' := [.float 2, .float 1, .ref 128, .float 6]) (by decide +kernel) rfl rfl nf x0 x1 x2 x3 x4 x5 z 0 h⟩) rfl rfl rfl rfl (fun h => ⟨1, ycmp_eq rfl rfl⟩) l1 e1 e2
  exact ⟨n, hx ++ hm, by rw [List.length_append, l1, l2], hn⟩
theorem yl8 (nf : Bool) (x0 x1 x2 x3 x4 x5 : Int32) : ∃ (n : Nat) (h : zH), h.length = 176 ∧ zLaw nf [x0, x1, x2, x3, x4, x5] n (543, yLS 0, [], yHx ++ yHo) (1521, yLS 0, [], h) := by
  have pr : ∃ (v : Value) (hx hm : zH), hx.length = 128 ∧ hm.length = 48 ∧ zEv (zXt nf [x0, x1, x2, x3, x4, x5]) zIT zmcl zMt 20 nX10_told (.ref 0 :: [.int x1, .int x2]) (yHx ++ yHo) (some v) (hx ++ yHo) ∧ zEv (zXt nf [x0, x1, x2, x3, x4, x5]) zIT zmcl zMt 20 nX11_told (.ref 128 :: [.int x1, .int x2]) (hx ++ yHo) (some v) (hx ++ hm) := by
    exact ypairs (ypair yk8 nf [x0, x1, x2, x3, x4, x5] [x1, x2] rfl (by decide) rfl rfl (yfull (n := 2)))
  obtain ⟨v, hx, hm, l1, l2, e1, e2⟩ := pr
  obtain ⟨z, hz⟩ := zEv_int (mt := zMt) (mi := nX10_told) rfl (Or.inl rfl) e1
  cases hz
  obtain ⟨n, hn⟩ := ylaw_two (nf := nf) (xs := [x0, x1, x2, x3, x4, x5]) (pk := 543) (p1 := 556) (p2 := 572) (as := [.int x1, .int x2]) (fun h => ⟨_, lstr (n := 11) (pc := 543) (pc' := 556) (i := 0) (i' := 0) (st := []) (st' := [.float 2, .float 1, .ref 0]) (by decide +kernel) rfl rfl nf x0 x1 x2 x3 x4 x5 0 0 h⟩) rfl rfl rfl (fun h => ⟨_, lstr (n := 11) (pc := 559) (pc' := 572) (i := 0) (i' := 0) (st := [.float 6]) (st' := [.float 2, .float 1, .ref 128, .float 6]) (by decide +kernel) rfl rfl nf x0 x1 x2 x3 x4 x5 z 0 h⟩) rfl rfl rfl rfl (fun h => ⟨1, ycmp_eq rfl rfl⟩) l1 e1 e2
  exact ⟨n, hx ++ hm, by rw [List.length_append, l1, l2], hn⟩
theorem yl9 (nf : Bool) (x0 x1 x2 x3 x4 x5 : Int32) : ∃ (n : Nat) (h : zH), h.length = 176 ∧ zLaw nf [x0, x1, x2, x3, x4, x5] n (580, yLS 0, [], yHx ++ yHo) (1521, yLS 0, [], h) := by
  have pr : ∃ (v : Value) (hx hm : zH), hx.length = 128 ∧ hm.length = 48 ∧ zEv (zXt nf [x0, x1, x2, x3, x4, x5]) zIT zmcl zMt 20 nX10_seen (.ref 0 :: [.int x1]) (yHx ++ yHo) (some v) (hx ++ yHo) ∧ zEv (zXt nf [x0, x1, x2, x3, x4, x5]) zIT zmcl zMt 20 nX11_seen (.ref 128 :: [.int x1]) (hx ++ yHo) (some v) (hx ++ hm) := by
    exact ypairs (ypair yk9 nf [x0, x1, x2, x3, x4, x5] [x1] rfl (by decide) rfl rfl (yfull (n := 1)))
  obtain ⟨v, hx, hm, l1, l2, e1, e2⟩ := pr
  obtain ⟨z, hz⟩ := zEv_int (mt := zMt) (mi := nX10_seen) rfl (Or.inl rfl) e1
  cases hz
  obtain ⟨n, hn⟩ := ylaw_two (nf := nf) (xs := [x0, x1, x2, x3, x4, x5]) (pk := 580) (p1 := 587) (p2 := 597) (as := [.int x1]) (fun h => ⟨_, lstr (n := 6) (pc := 580) (pc' := 587) (i := 0) (i' := 0) (st := []) (st' := [.float 1, .ref 0]) (by decide +kernel) rfl rfl nf x0 x1 x2 x3 x4 x5 0 0 h⟩) rfl rfl rfl (fun h => ⟨_, lstr (n := 6) (pc := 590) (pc' := 597) (i := 0) (i' := 0) (st := [.float 6]) (st' := [.float 1, .ref 128, .float 6]) (by decide +kernel) rfl rfl nf x0 x1 x2 x3 x4 x5 z 0 h⟩) rfl rfl rfl rfl (fun h => ⟨1, ycmp_eq rfl rfl⟩) l1 e1 e2
  exact ⟨n, hx ++ hm, by rw [List.length_append, l1, l2], hn⟩
theorem yl10 (nf : Bool) (x0 x1 x2 x3 x4 x5 : Int32) : ∃ (n : Nat) (h : zH), h.length = 176 ∧ zLaw nf [x0, x1, x2, x3, x4, x5] n (605, yLS 0, [], yHx ++ yHo) (1521, yLS 0, [], h) := by
  have pr : ∃ (v : Value) (hx hm : zH), hx.length = 128 ∧ hm.length = 48 ∧ zEv (zXt nf [x0, x1, x2, x3, x4, x5]) zIT zmcl zMt 20 nX10_law (.ref 0 :: [.int x1, .int x2, .int x3]) (yHx ++ yHo) (some v) (hx ++ yHo) ∧ zEv (zXt nf [x0, x1, x2, x3, x4, x5]) zIT zmcl zMt 20 nX11_law (.ref 128 :: [.int x1, .int x2, .int x3]) (hx ++ yHo) (some v) (hx ++ hm) ∧ ∃ z : Int64, v = .long z := by
    obtain ⟨v, hx, hm, l1, l2, e1, e2, e3⟩ := ypair yk10 nf [x0, x1, x2, x3, x4, x5] [x1, x2, x3] rfl (by decide) rfl rfl (yfull (n := 3))
    exact ⟨v, hx, hm, l1, l2, e1, e2, ylong (e3 yisl ykl)⟩
  obtain ⟨v, hx, hm, l1, l2, e1, e2, w, rfl⟩ := pr
  obtain ⟨n, hn⟩ := ylaw_two (nf := nf) (xs := [x0, x1, x2, x3, x4, x5]) (pk := 605) (p1 := 624) (p2 := 646) (as := [.int x1, .int x2, .int x3]) (fun h => ⟨_, lstr (n := 16) (pc := 605) (pc' := 624) (i := 0) (i' := 0) (st := []) (st' := [.float 3, .float 2, .float 1, .ref 0]) (by decide +kernel) rfl rfl nf x0 x1 x2 x3 x4 x5 0 0 h⟩) rfl rfl rfl (fun h => ⟨_, lstr (n := 16) (pc := 627) (pc' := 646) (i := 0) (i' := 0) (st := [.double 0]) (st' := [.float 3, .float 2, .float 1, .ref 128, .double 0]) (by decide +kernel) rfl rfl nf x0 x1 x2 x3 x4 x5 0 w h⟩) rfl rfl rfl rfl (fun h => ⟨2, ylcmp_eq rfl rfl rfl⟩) l1 e1 e2
  exact ⟨n, hx ++ hm, by rw [List.length_append, l1, l2], hn⟩
theorem yl11a (nf : Bool) (x0 x1 x2 x3 x4 x5 : Int32) (hb : x2 = 0) : ∃ (n : Nat) (h : zH), h.length = 176 ∧ zLaw nf [x0, x1, x2, x3, x4, x5] n (655, yLS 0, [], yHx ++ yHo) (1521, yLS 0, [], h) := by
  have pr : ∃ (v : Value) (hx hm : zH), hx.length = 128 ∧ hm.length = 48 ∧ zEv (zXt nf [x0, x1, x2, x3, x4, x5]) zIT zmcl zMt 20 nX10_ears (.ref 0 :: [.int x1, .int 0]) (yHx ++ yHo) (some v) (hx ++ yHo) ∧ zEv (zXt nf [x0, x1, x2, x3, x4, x5]) zIT zmcl zMt 20 nX11_ears (.ref 128 :: [.int x1, .int 0]) (hx ++ yHo) (some v) (hx ++ hm) := by
    refine ypairs (ypair yk11 nf [x0, x1, x2, x3, x4, x5] [x1, 0] rfl (by decide) rfl rfl (ybx (n := 2) rfl (fun k hk q x hq hx => ?_)))
    match k, hk, hq, hx with
    | 0, _, hq, hx => cases hq; cases hx; exact yb _
    | 1, _, hq, hx => cases hq; cases hx; exact by decide
  obtain ⟨v, hx, hm, l1, l2, e1, e2⟩ := pr
  obtain ⟨z, hz⟩ := zEv_int (mt := zMt) (mi := nX10_ears) rfl (Or.inr rfl) e1
  cases hz
  obtain ⟨n, hn⟩ := ylaw_two (nf := nf) (xs := [x0, x1, x2, x3, x4, x5]) (pk := 655) (p1 := 676) (p2 := 700) (as := [.int x1, .int 0]) (fun h => ⟨_, zLaw_trans (lstr (n := 11) (pc := 655) (pc' := 668) (i := 0) (i' := 0) (st := []) (st' := [.float 2, .float 1, .ref 0]) (by decide +kernel) rfl rfl nf x0 x1 x2 x3 x4 x5 0 0 h) (zLaw_trans (yifeq (x := _) rfl rfl hb) (lstr (n := 1) (pc := 675) (pc' := 676) (i := 0) (i' := 0) (st := [.float 1, .ref 0]) (st' := [.int 0, .float 1, .ref 0]) (by decide +kernel) rfl rfl nf x0 x1 x2 x3 x4 x5 0 0 h))⟩) rfl rfl rfl (fun h => ⟨_, zLaw_trans (lstr (n := 11) (pc := 679) (pc' := 692) (i := 0) (i' := 0) (st := [.float 6]) (st' := [.float 2, .float 1, .ref 128, .float 6]) (by decide +kernel) rfl rfl nf x0 x1 x2 x3 x4 x5 z 0 h) (zLaw_trans (yifeq (x := _) rfl rfl hb) (lstr (n := 1) (pc := 699) (pc' := 700) (i := 0) (i' := 0) (st := [.float 1, .ref 128, .float 6]) (st' := [.int 0, .float 1, .ref 128, .float 6]) (by decide +kernel) rfl rfl nf x0 x1 x2 x3 x4 x5 z 0 h))⟩) rfl rfl rfl rfl (fun h => ⟨1, ycmp_eq rfl rfl⟩) l1 e1 e2
  exact ⟨n, hx ++ hm, by rw [List.length_append, l1, l2], hn⟩
theorem yl11b (nf : Bool) (x0 x1 x2 x3 x4 x5 : Int32) (hb : x2 ≠ 0) : ∃ (n : Nat) (h : zH), h.length = 176 ∧ zLaw nf [x0, x1, x2, x3, x4, x5] n (655, yLS 0, [], yHx ++ yHo) (1521, yLS 0, [], h) := by
  have pr : ∃ (v : Value) (hx hm : zH), hx.length = 128 ∧ hm.length = 48 ∧ zEv (zXt nf [x0, x1, x2, x3, x4, x5]) zIT zmcl zMt 20 nX10_ears (.ref 0 :: [.int x1, .int 1]) (yHx ++ yHo) (some v) (hx ++ yHo) ∧ zEv (zXt nf [x0, x1, x2, x3, x4, x5]) zIT zmcl zMt 20 nX11_ears (.ref 128 :: [.int x1, .int 1]) (hx ++ yHo) (some v) (hx ++ hm) := by
    refine ypairs (ypair yk11 nf [x0, x1, x2, x3, x4, x5] [x1, 1] rfl (by decide) rfl rfl (ybx (n := 2) rfl (fun k hk q x hq hx => ?_)))
    match k, hk, hq, hx with
    | 0, _, hq, hx => cases hq; cases hx; exact yb _
    | 1, _, hq, hx => cases hq; cases hx; exact by decide
  obtain ⟨v, hx, hm, l1, l2, e1, e2⟩ := pr
  obtain ⟨z, hz⟩ := zEv_int (mt := zMt) (mi := nX10_ears) rfl (Or.inr rfl) e1
  cases hz
  obtain ⟨n, hn⟩ := ylaw_two (nf := nf) (xs := [x0, x1, x2, x3, x4, x5]) (pk := 655) (p1 := 676) (p2 := 700) (as := [.int x1, .int 1]) (fun h => ⟨_, zLaw_trans (lstr (n := 11) (pc := 655) (pc' := 668) (i := 0) (i' := 0) (st := []) (st' := [.float 2, .float 1, .ref 0]) (by decide +kernel) rfl rfl nf x0 x1 x2 x3 x4 x5 0 0 h) (zLaw_trans (yifne (x := _) rfl (by decide) hb) (lstr (n := 2) (pc := 671) (pc' := 676) (i := 0) (i' := 0) (st := [.float 1, .ref 0]) (st' := [.int 1, .float 1, .ref 0]) (by decide +kernel) rfl rfl nf x0 x1 x2 x3 x4 x5 0 0 h))⟩) rfl rfl rfl (fun h => ⟨_, zLaw_trans (lstr (n := 11) (pc := 679) (pc' := 692) (i := 0) (i' := 0) (st := [.float 6]) (st' := [.float 2, .float 1, .ref 128, .float 6]) (by decide +kernel) rfl rfl nf x0 x1 x2 x3 x4 x5 z 0 h) (zLaw_trans (yifne (x := _) rfl (by decide) hb) (lstr (n := 2) (pc := 695) (pc' := 700) (i := 0) (i' := 0) (st := [.float 1, .ref 128, .float 6]) (st' := [.int 1, .float 1, .ref 128, .float 6]) (by decide +kernel) rfl rfl nf x0 x1 x2 x3 x4 x5 z 0 h))⟩) rfl rfl rfl rfl (fun h => ⟨1, ycmp_eq rfl rfl⟩) l1 e1 e2
  exact ⟨n, hx ++ hm, by rw [List.length_append, l1, l2], hn⟩
theorem yl12 (nf : Bool) (x0 x1 x2 x3 x4 x5 : Int32) : ∃ (n : Nat) (h : zH), h.length = 176 ∧ zLaw nf [x0, x1, x2, x3, x4, x5] n (708, yLS 0, [], yHx ++ yHo) (1521, yLS 0, [], h) := by
  have pr : ∃ (v : Value) (hx hm : zH), hx.length = 128 ∧ hm.length = 48 ∧ zEv (zXt nf [x0, x1, x2, x3, x4, x5]) zIT zmcl zMt 20 nX10_seat (.ref 0 :: [.int x1, .int x2]) (yHx ++ yHo) (some v) (hx ++ yHo) ∧ zEv (zXt nf [x0, x1, x2, x3, x4, x5]) zIT zmcl zMt 20 nX11_seat (.ref 128 :: [.int x1, .int x2]) (hx ++ yHo) (some v) (hx ++ hm) := by
    exact ypairs (ypair yk12 nf [x0, x1, x2, x3, x4, x5] [x1, x2] rfl (by decide) rfl rfl (yfull (n := 2)))
  obtain ⟨v, hx, hm, l1, l2, e1, e2⟩ := pr
  obtain ⟨z, hz⟩ := zEv_int (mt := zMt) (mi := nX10_seat) rfl (Or.inr rfl) e1
  cases hz
  obtain ⟨n, hn⟩ := ylaw_two (nf := nf) (xs := [x0, x1, x2, x3, x4, x5]) (pk := 708) (p1 := 721) (p2 := 737) (as := [.int x1, .int x2]) (fun h => ⟨_, lstr (n := 11) (pc := 708) (pc' := 721) (i := 0) (i' := 0) (st := []) (st' := [.float 2, .float 1, .ref 0]) (by decide +kernel) rfl rfl nf x0 x1 x2 x3 x4 x5 0 0 h⟩) rfl rfl rfl (fun h => ⟨_, lstr (n := 11) (pc := 724) (pc' := 737) (i := 0) (i' := 0) (st := [.float 6]) (st' := [.float 2, .float 1, .ref 128, .float 6]) (by decide +kernel) rfl rfl nf x0 x1 x2 x3 x4 x5 z 0 h⟩) rfl rfl rfl rfl (fun h => ⟨1, ycmp_eq rfl rfl⟩) l1 e1 e2
  exact ⟨n, hx ++ hm, by rw [List.length_append, l1, l2], hn⟩
theorem yl13a (nf : Bool) (x0 x1 x2 x3 x4 x5 : Int32) (hb : x3 = 0) : ∃ (n : Nat) (h : zH), h.length = 176 ∧ zLaw nf [x0, x1, x2, x3, x4, x5] n (745, yLS 0, [], yHx ++ yHo) (1521, yLS 0, [], h) := by
  have pr : ∃ (v : Value) (hx hm : zH), hx.length = 128 ∧ hm.length = 48 ∧ zEv (zXt nf [x0, x1, x2, x3, x4, x5]) zIT zmcl zMt 20 nX10_tell (.ref 0 :: [.int x1, .int x2, .int 0]) (yHx ++ yHo) (some v) (hx ++ yHo) ∧ zEv (zXt nf [x0, x1, x2, x3, x4, x5]) zIT zmcl zMt 20 nX11_tell (.ref 128 :: [.int x1, .int x2, .int 0]) (hx ++ yHo) (some v) (hx ++ hm) := by
    refine ypairs (ypair yk13 nf [x0, x1, x2, x3, x4, x5] [x1, x2, 0] rfl (by decide) rfl rfl (ybx (n := 3) rfl (fun k hk q x hq hx => ?_)))
    match k, hk, hq, hx with
    | 0, _, hq, hx => cases hq; cases hx; exact yb _
    | 1, _, hq, hx => cases hq; cases hx; exact yb _
    | 2, _, hq, hx => cases hq; cases hx; exact by decide
  obtain ⟨v, hx, hm, l1, l2, e1, e2⟩ := pr
  obtain ⟨z, hz⟩ := zEv_int (mt := zMt) (mi := nX10_tell) rfl (Or.inr rfl) e1
  cases hz
  obtain ⟨n, hn⟩ := ylaw_two (nf := nf) (xs := [x0, x1, x2, x3, x4, x5]) (pk := 745) (p1 := 772) (p2 := 802) (as := [.int x1, .int x2, .int 0]) (fun h => ⟨_, zLaw_trans (lstr (n := 16) (pc := 745) (pc' := 764) (i := 0) (i' := 0) (st := []) (st' := [.float 3, .float 2, .float 1, .ref 0]) (by decide +kernel) rfl rfl nf x0 x1 x2 x3 x4 x5 0 0 h) (zLaw_trans (yifeq (x := _) rfl rfl hb) (lstr (n := 1) (pc := 771) (pc' := 772) (i := 0) (i' := 0) (st := [.float 2, .float 1, .ref 0]) (st' := [.int 0, .float 2, .float 1, .ref 0]) (by decide +kernel) rfl rfl nf x0 x1 x2 x3 x4 x5 0 0 h))⟩) rfl rfl rfl (fun h => ⟨_, zLaw_trans (lstr (n := 16) (pc := 775) (pc' := 794) (i := 0) (i' := 0) (st := [.float 6]) (st' := [.float 3, .float 2, .float 1, .ref 128, .float 6]) (by decide +kernel) rfl rfl nf x0 x1 x2 x3 x4 x5 z 0 h) (zLaw_trans (yifeq (x := _) rfl rfl hb) (lstr (n := 1) (pc := 801) (pc' := 802) (i := 0) (i' := 0) (st := [.float 2, .float 1, .ref 128, .float 6]) (st' := [.int 0, .float 2, .float 1, .ref 128, .float 6]) (by decide +kernel) rfl rfl nf x0 x1 x2 x3 x4 x5 z 0 h))⟩) rfl rfl rfl rfl (fun h => ⟨1, ycmp_eq rfl rfl⟩) l1 e1 e2
  exact ⟨n, hx ++ hm, by rw [List.length_append, l1, l2], hn⟩
theorem yl13b (nf : Bool) (x0 x1 x2 x3 x4 x5 : Int32) (hb : x3 ≠ 0) : ∃ (n : Nat) (h : zH), h.length = 176 ∧ zLaw nf [x0, x1, x2, x3, x4, x5] n (745, yLS 0, [], yHx ++ yHo) (1521, yLS 0, [], h) := by
  have pr : ∃ (v : Value) (hx hm : zH), hx.length = 128 ∧ hm.length = 48 ∧ zEv (zXt nf [x0, x1, x2, x3, x4, x5]) zIT zmcl zMt 20 nX10_tell (.ref 0 :: [.int x1, .int x2, .int 1]) (yHx ++ yHo) (some v) (hx ++ yHo) ∧ zEv (zXt nf [x0, x1, x2, x3, x4, x5]) zIT zmcl zMt 20 nX11_tell (.ref 128 :: [.int x1, .int x2, .int 1]) (hx ++ yHo) (some v) (hx ++ hm) := by
    refine ypairs (ypair yk13 nf [x0, x1, x2, x3, x4, x5] [x1, x2, 1] rfl (by decide) rfl rfl (ybx (n := 3) rfl (fun k hk q x hq hx => ?_)))
    match k, hk, hq, hx with
    | 0, _, hq, hx => cases hq; cases hx; exact yb _
    | 1, _, hq, hx => cases hq; cases hx; exact yb _
    | 2, _, hq, hx => cases hq; cases hx; exact by decide
  obtain ⟨v, hx, hm, l1, l2, e1, e2⟩ := pr
  obtain ⟨z, hz⟩ := zEv_int (mt := zMt) (mi := nX10_tell) rfl (Or.inr rfl) e1
  cases hz
  obtain ⟨n, hn⟩ := ylaw_two (nf := nf) (xs := [x0, x1, x2, x3, x4, x5]) (pk := 745) (p1 := 772) (p2 := 802) (as := [.int x1, .int x2, .int 1]) (fun h => ⟨_, zLaw_trans (lstr (n := 16) (pc := 745) (pc' := 764) (i := 0) (i' := 0) (st := []) (st' := [.float 3, .float 2, .float 1, .ref 0]) (by decide +kernel) rfl rfl nf x0 x1 x2 x3 x4 x5 0 0 h) (zLaw_trans (yifne (x := _) rfl (by decide) hb) (lstr (n := 2) (pc := 767) (pc' := 772) (i := 0) (i' := 0) (st := [.float 2, .float 1, .ref 0]) (st' := [.int 1, .float 2, .float 1, .ref 0]) (by decide +kernel) rfl rfl nf x0 x1 x2 x3 x4 x5 0 0 h))⟩) rfl rfl rfl (fun h => ⟨_, zLaw_trans (lstr (n := 16) (pc := 775) (pc' := 794) (i := 0) (i' := 0) (st := [.float 6]) (st' := [.float 3, .float 2, .float 1, .ref 128, .float 6]) (by decide +kernel) rfl rfl nf x0 x1 x2 x3 x4 x5 z 0 h) (zLaw_trans (yifne (x := _) rfl (by decide) hb) (lstr (n := 2) (pc := 797) (pc' := 802) (i := 0) (i' := 0) (st := [.float 2, .float 1, .ref 128, .float 6]) (st' := [.int 1, .float 2, .float 1, .ref 128, .float 6]) (by decide +kernel) rfl rfl nf x0 x1 x2 x3 x4 x5 z 0 h))⟩) rfl rfl rfl rfl (fun h => ⟨1, ycmp_eq rfl rfl⟩) l1 e1 e2
  exact ⟨n, hx ++ hm, by rw [List.length_append, l1, l2], hn⟩
theorem yl14 (nf : Bool) (x0 x1 x2 x3 x4 x5 : Int32) : ∃ (n : Nat) (h : zH), h.length = 176 ∧ zLaw nf [x0, x1, x2, x3, x4, x5] n (810, yLS 0, [], yHx ++ yHo) (1521, yLS 0, [], h) := by
  have pr : ∃ (v : Value) (hx hm : zH), hx.length = 128 ∧ hm.length = 48 ∧ zEv (zXt nf [x0, x1, x2, x3, x4, x5]) zIT zmcl zMt 20 nX10_go (.ref 0 :: [.int x1]) (yHx ++ yHo) (some v) (hx ++ yHo) ∧ zEv (zXt nf [x0, x1, x2, x3, x4, x5]) zIT zmcl zMt 20 nX11_go (.ref 128 :: [.int x1]) (hx ++ yHo) (some v) (hx ++ hm) := by
    exact (ypair2 yka14 ykb14 ykc14 ykd14 nf [x0, x1, x2, x3, x4, x5] [x1] rfl (by decide) rfl rfl (yfull (n := 1)))
  obtain ⟨v, hx, hm, l1, l2, e1, e2⟩ := pr
  obtain ⟨z, hz⟩ := zEv_int (mt := zMt) (mi := nX10_go) rfl (Or.inl rfl) e1
  cases hz
  obtain ⟨n, hn⟩ := ylaw_two (nf := nf) (xs := [x0, x1, x2, x3, x4, x5]) (pk := 810) (p1 := 817) (p2 := 827) (as := [.int x1]) (fun h => ⟨_, lstr (n := 6) (pc := 810) (pc' := 817) (i := 0) (i' := 0) (st := []) (st' := [.float 1, .ref 0]) (by decide +kernel) rfl rfl nf x0 x1 x2 x3 x4 x5 0 0 h⟩) rfl rfl rfl (fun h => ⟨_, lstr (n := 6) (pc := 820) (pc' := 827) (i := 0) (i' := 0) (st := [.float 6]) (st' := [.float 1, .ref 128, .float 6]) (by decide +kernel) rfl rfl nf x0 x1 x2 x3 x4 x5 z 0 h⟩) rfl rfl rfl rfl (fun h => ⟨1, ycmp_eq rfl rfl⟩) l1 e1 e2
  exact ⟨n, hx ++ hm, by rw [List.length_append, l1, l2], hn⟩
theorem yl15 (nf : Bool) (x0 x1 x2 x3 x4 x5 : Int32) : ∃ (n : Nat) (h : zH), h.length = 176 ∧ zLaw nf [x0, x1, x2, x3, x4, x5] n (835, yLS 0, [], yHx ++ yHo) (1521, yLS 0, [], h) := by
  have pr : ∃ (v : Value) (hx hm : zH), hx.length = 128 ∧ hm.length = 48 ∧ zEv (zXt nf [x0, x1, x2, x3, x4, x5]) zIT zmcl zMt 20 nX10_ahead (.ref 0 :: [.int x1, .int x2]) (yHx ++ yHo) (some v) (hx ++ yHo) ∧ zEv (zXt nf [x0, x1, x2, x3, x4, x5]) zIT zmcl zMt 20 nX11_ahead (.ref 128 :: [.int x1, .int x2]) (hx ++ yHo) (some v) (hx ++ hm) := by
    have hc : x2.toInt ≤ -1 ∨ x2.toInt = 0 ∨ x2.toInt = 1 ∨ x2.toInt = 2 ∨ x2.toInt = 3 ∨ x2.toInt = 4 ∨ 5 ≤ x2.toInt := by omega
    rcases hc with hc | hc | hc | hc | hc | hc | hc
    · refine (ypair2 yka15_0 ykb15_0 ykc15_0 ykd15_0 nf [x0, x1, x2, x3, x4, x5] [x1, x2] rfl (by decide) rfl rfl (ybx (n := 2) rfl (fun k hk q x hq hx => ?_)))
      match k, hk, hq, hx with
      | 0, _, hq, hx => cases hq; cases hx; exact yb _
      | 1, _, hq, hx => cases hq; cases hx; have := yb x2; dsimp only; omega
    · refine (ypair2 yka15_1 ykb15_1 ykc15_1 ykd15_1 nf [x0, x1, x2, x3, x4, x5] [x1, x2] rfl (by decide) rfl rfl (ybx (n := 2) rfl (fun k hk q x hq hx => ?_)))
      match k, hk, hq, hx with
      | 0, _, hq, hx => cases hq; cases hx; exact yb _
      | 1, _, hq, hx => cases hq; cases hx; have := yb x2; dsimp only; omega
    · refine (ypair2 yka15_2 ykb15_2 ykc15_2 ykd15_2 nf [x0, x1, x2, x3, x4, x5] [x1, x2] rfl (by decide) rfl rfl (ybx (n := 2) rfl (fun k hk q x hq hx => ?_)))
      match k, hk, hq, hx with
      | 0, _, hq, hx => cases hq; cases hx; exact yb _
      | 1, _, hq, hx => cases hq; cases hx; have := yb x2; dsimp only; omega
    · refine (ypair2 yka15_3 ykb15_3 ykc15_3 ykd15_3 nf [x0, x1, x2, x3, x4, x5] [x1, x2] rfl (by decide) rfl rfl (ybx (n := 2) rfl (fun k hk q x hq hx => ?_)))
      match k, hk, hq, hx with
      | 0, _, hq, hx => cases hq; cases hx; exact yb _
      | 1, _, hq, hx => cases hq; cases hx; have := yb x2; dsimp only; omega
    · refine (ypair2 yka15_4 ykb15_4 ykc15_4 ykd15_4 nf [x0, x1, x2, x3, x4, x5] [x1, x2] rfl (by decide) rfl rfl (ybx (n := 2) rfl (fun k hk q x hq hx => ?_)))
      match k, hk, hq, hx with
      | 0, _, hq, hx => cases hq; cases hx; exact yb _
      | 1, _, hq, hx => cases hq; cases hx; have := yb x2; dsimp only; omega
    · refine (ypair2 yka15_5 ykb15_5 ykc15_5 ykd15_5 nf [x0, x1, x2, x3, x4, x5] [x1, x2] rfl (by decide) rfl rfl (ybx (n := 2) rfl (fun k hk q x hq hx => ?_)))
      match k, hk, hq, hx with
      | 0, _, hq, hx => cases hq; cases hx; exact yb _
      | 1, _, hq, hx => cases hq; cases hx; have := yb x2; dsimp only; omega
    · refine (ypair2 yka15_6 ykb15_6 ykc15_6 ykd15_6 nf [x0, x1, x2, x3, x4, x5] [x1, x2] rfl (by decide) rfl rfl (ybx (n := 2) rfl (fun k hk q x hq hx => ?_)))
      match k, hk, hq, hx with
      | 0, _, hq, hx => cases hq; cases hx; exact yb _
      | 1, _, hq, hx => cases hq; cases hx; have := yb x2; dsimp only; omega
  obtain ⟨v, hx, hm, l1, l2, e1, e2⟩ := pr
  obtain ⟨z, hz⟩ := zEv_int (mt := zMt) (mi := nX10_ahead) rfl (Or.inl rfl) e1
  cases hz
  obtain ⟨n, hn⟩ := ylaw_two (nf := nf) (xs := [x0, x1, x2, x3, x4, x5]) (pk := 835) (p1 := 848) (p2 := 864) (as := [.int x1, .int x2]) (fun h => ⟨_, lstr (n := 11) (pc := 835) (pc' := 848) (i := 0) (i' := 0) (st := []) (st' := [.float 2, .float 1, .ref 0]) (by decide +kernel) rfl rfl nf x0 x1 x2 x3 x4 x5 0 0 h⟩) rfl rfl rfl (fun h => ⟨_, lstr (n := 11) (pc := 851) (pc' := 864) (i := 0) (i' := 0) (st := [.float 6]) (st' := [.float 2, .float 1, .ref 128, .float 6]) (by decide +kernel) rfl rfl nf x0 x1 x2 x3 x4 x5 z 0 h⟩) rfl rfl rfl rfl (fun h => ⟨1, ycmp_eq rfl rfl⟩) l1 e1 e2
  exact ⟨n, hx ++ hm, by rw [List.length_append, l1, l2], hn⟩
theorem yl16 (nf : Bool) (x0 x1 x2 x3 x4 x5 : Int32) : ∃ (n : Nat) (h : zH), h.length = 176 ∧ zLaw nf [x0, x1, x2, x3, x4, x5] n (872, yLS 0, [], yHx ++ yHo) (1521, yLS 0, [], h) := by
  have pr : ∃ (v : Value) (hx hm : zH), hx.length = 128 ∧ hm.length = 48 ∧ zEv (zXt nf [x0, x1, x2, x3, x4, x5]) zIT zmcl zMt 20 nX10_getsOut (.ref 0 :: [.int x1]) (yHx ++ yHo) (some v) (hx ++ yHo) ∧ zEv (zXt nf [x0, x1, x2, x3, x4, x5]) zIT zmcl zMt 20 nX11_getsOut (.ref 128 :: [.int x1]) (hx ++ yHo) (some v) (hx ++ hm) := by
    exact ypairs (ypair yk16 nf [x0, x1, x2, x3, x4, x5] [x1] rfl (by decide) rfl rfl (yfull (n := 1)))
  obtain ⟨v, hx, hm, l1, l2, e1, e2⟩ := pr
  obtain ⟨z, hz⟩ := zEv_int (mt := zMt) (mi := nX10_getsOut) rfl (Or.inl rfl) e1
  cases hz
  obtain ⟨n, hn⟩ := ylaw_two (nf := nf) (xs := [x0, x1, x2, x3, x4, x5]) (pk := 872) (p1 := 879) (p2 := 889) (as := [.int x1]) (fun h => ⟨_, lstr (n := 6) (pc := 872) (pc' := 879) (i := 0) (i' := 0) (st := []) (st' := [.float 1, .ref 0]) (by decide +kernel) rfl rfl nf x0 x1 x2 x3 x4 x5 0 0 h⟩) rfl rfl rfl (fun h => ⟨_, lstr (n := 6) (pc := 882) (pc' := 889) (i := 0) (i' := 0) (st := [.float 6]) (st' := [.float 1, .ref 128, .float 6]) (by decide +kernel) rfl rfl nf x0 x1 x2 x3 x4 x5 z 0 h⟩) rfl rfl rfl rfl (fun h => ⟨1, ycmp_eq rfl rfl⟩) l1 e1 e2
  exact ⟨n, hx ++ hm, by rw [List.length_append, l1, l2], hn⟩
theorem yl17 (nf : Bool) (x0 x1 x2 x3 x4 x5 : Int32) : ∃ (n : Nat) (h : zH), h.length = 176 ∧ zLaw nf [x0, x1, x2, x3, x4, x5] n (897, yLS 0, [], yHx ++ yHo) (1521, yLS 0, [], h) := by
  have pr : ∃ (v : Value) (hx hm : zH), hx.length = 128 ∧ hm.length = 48 ∧ zEv (zXt nf [x0, x1, x2, x3, x4, x5]) zIT zmcl zMt 20 nX10_nextHalt (.ref 0 :: []) (yHx ++ yHo) (some v) (hx ++ yHo) ∧ zEv (zXt nf [x0, x1, x2, x3, x4, x5]) zIT zmcl zMt 20 nX11_nextHalt (.ref 128 :: []) (hx ++ yHo) (some v) (hx ++ hm) := by
    exact (ypair2 yka17 ykb17 ykc17 ykd17 nf [x0, x1, x2, x3, x4, x5] [] rfl (by decide) rfl rfl (yfull (n := 0)))
  obtain ⟨v, hx, hm, l1, l2, e1, e2⟩ := pr
  obtain ⟨z, hz⟩ := zEv_int (mt := zMt) (mi := nX10_nextHalt) rfl (Or.inl rfl) e1
  cases hz
  obtain ⟨n, hn⟩ := ylaw_two (nf := nf) (xs := [x0, x1, x2, x3, x4, x5]) (pk := 897) (p1 := 898) (p2 := 902) (as := []) (fun h => ⟨_, lstr (n := 1) (pc := 897) (pc' := 898) (i := 0) (i' := 0) (st := []) (st' := [.ref 0]) (by decide +kernel) rfl rfl nf x0 x1 x2 x3 x4 x5 0 0 h⟩) rfl rfl rfl (fun h => ⟨_, lstr (n := 1) (pc := 901) (pc' := 902) (i := 0) (i' := 0) (st := [.float 6]) (st' := [.ref 128, .float 6]) (by decide +kernel) rfl rfl nf x0 x1 x2 x3 x4 x5 z 0 h⟩) rfl rfl rfl rfl (fun h => ⟨1, ycmp_eq rfl rfl⟩) l1 e1 e2
  exact ⟨n, hx ++ hm, by rw [List.length_append, l1, l2], hn⟩
theorem yl18 (nf : Bool) (x0 x1 x2 x3 x4 x5 : Int32) : ∃ (n : Nat) (h : zH), h.length = 176 ∧ zLaw nf [x0, x1, x2, x3, x4, x5] n (910, yLS 0, [], yHx ++ yHo) (1521, yLS 0, [], h) := by
  have pr : ∃ (v : Value) (hx hm : zH), hx.length = 128 ∧ hm.length = 48 ∧ zEv (zXt nf [x0, x1, x2, x3, x4, x5]) zIT zmcl zMt 20 nX10_when (.ref 0 :: [.int x1, .int x2]) (yHx ++ yHo) (some v) (hx ++ yHo) ∧ zEv (zXt nf [x0, x1, x2, x3, x4, x5]) zIT zmcl zMt 20 nX11_when (.ref 128 :: [.int x1, .int x2]) (hx ++ yHo) (some v) (hx ++ hm) := by
    exact ypairs (ypair yk18 nf [x0, x1, x2, x3, x4, x5] [x1, x2] rfl (by decide) rfl rfl (yfull (n := 2)))
  obtain ⟨v, hx, hm, l1, l2, e1, e2⟩ := pr
  obtain ⟨z, hz⟩ := zEv_int (mt := zMt) (mi := nX10_when) rfl (Or.inl rfl) e1
  cases hz
  obtain ⟨n, hn⟩ := ylaw_two (nf := nf) (xs := [x0, x1, x2, x3, x4, x5]) (pk := 910) (p1 := 923) (p2 := 939) (as := [.int x1, .int x2]) (fun h => ⟨_, lstr (n := 11) (pc := 910) (pc' := 923) (i := 0) (i' := 0) (st := []) (st' := [.float 2, .float 1, .ref 0]) (by decide +kernel) rfl rfl nf x0 x1 x2 x3 x4 x5 0 0 h⟩) rfl rfl rfl (fun h => ⟨_, lstr (n := 11) (pc := 926) (pc' := 939) (i := 0) (i' := 0) (st := [.float 6]) (st' := [.float 2, .float 1, .ref 128, .float 6]) (by decide +kernel) rfl rfl nf x0 x1 x2 x3 x4 x5 z 0 h⟩) rfl rfl rfl rfl (fun h => ⟨1, ycmp_eq rfl rfl⟩) l1 e1 e2
  exact ⟨n, hx ++ hm, by rw [List.length_append, l1, l2], hn⟩
theorem yl19 (nf : Bool) (x0 x1 x2 x3 x4 x5 : Int32) : ∃ (n : Nat) (h : zH), h.length = 176 ∧ zLaw nf [x0, x1, x2, x3, x4, x5] n (947, yLS 0, [], yHx ++ yHo) (1521, yLS 0, [], h) := by
  have pr : ∃ (v : Value) (hx hm : zH), hx.length = 128 ∧ hm.length = 48 ∧ zEv (zXt nf [x0, x1, x2, x3, x4, x5]) zIT zmcl zMt 20 nX10_both (.ref 0 :: [.int x1, .int x2, .int x3]) (yHx ++ yHo) (some v) (hx ++ yHo) ∧ zEv (zXt nf [x0, x1, x2, x3, x4, x5]) zIT zmcl zMt 20 nX11_both (.ref 128 :: [.int x1, .int x2, .int x3]) (hx ++ yHo) (some v) (hx ++ hm) := by
    exact ypairs (ypair yk19 nf [x0, x1, x2, x3, x4, x5] [x1, x2, x3] rfl (by decide) rfl rfl (yfull (n := 3)))
  obtain ⟨v, hx, hm, l1, l2, e1, e2⟩ := pr
  obtain ⟨z, hz⟩ := zEv_int (mt := zMt) (mi := nX10_both) rfl (Or.inl rfl) e1
  cases hz
  obtain ⟨n, hn⟩ := ylaw_two (nf := nf) (xs := [x0, x1, x2, x3, x4, x5]) (pk := 947) (p1 := 966) (p2 := 988) (as := [.int x1, .int x2, .int x3]) (fun h => ⟨_, lstr (n := 16) (pc := 947) (pc' := 966) (i := 0) (i' := 0) (st := []) (st' := [.float 3, .float 2, .float 1, .ref 0]) (by decide +kernel) rfl rfl nf x0 x1 x2 x3 x4 x5 0 0 h⟩) rfl rfl rfl (fun h => ⟨_, lstr (n := 16) (pc := 969) (pc' := 988) (i := 0) (i' := 0) (st := [.float 6]) (st' := [.float 3, .float 2, .float 1, .ref 128, .float 6]) (by decide +kernel) rfl rfl nf x0 x1 x2 x3 x4 x5 z 0 h⟩) rfl rfl rfl rfl (fun h => ⟨1, ycmp_eq rfl rfl⟩) l1 e1 e2
  exact ⟨n, hx ++ hm, by rw [List.length_append, l1, l2], hn⟩
theorem yl20 (nf : Bool) (x0 x1 x2 x3 x4 x5 : Int32) : ∃ (n : Nat) (h : zH), h.length = 176 ∧ zLaw nf [x0, x1, x2, x3, x4, x5] n (996, yLS 0, [], yHx ++ yHo) (1521, yLS 0, [], h) := by
  have pr : ∃ (v : Value) (hx hm : zH), hx.length = 128 ∧ hm.length = 48 ∧ zEv (zXt nf [x0, x1, x2, x3, x4, x5]) zIT zmcl zMt 20 nX10_seating (.ref 0 :: [.int x1]) (yHx ++ yHo) (some v) (hx ++ yHo) ∧ zEv (zXt nf [x0, x1, x2, x3, x4, x5]) zIT zmcl zMt 20 nX11_seating (.ref 128 :: [.int x1]) (hx ++ yHo) (some v) (hx ++ hm) := by
    have hc : x1.toInt ≤ -1 ∨ (0 ≤ x1.toInt ∧ x1.toInt ≤ 3) ∨ x1.toInt = 4 ∨ 5 ≤ x1.toInt := by omega
    rcases hc with hc | hc | hc | hc
    · refine (ypair2 yka20_0 ykb20_0 ykc20_0 ykd20_0 nf [x0, x1, x2, x3, x4, x5] [x1] rfl (by decide) rfl rfl (ybx (n := 1) rfl (fun k hk q x hq hx => ?_)))
      match k, hk, hq, hx with
      | 0, _, hq, hx => cases hq; cases hx; have := yb x1; dsimp only; omega
    · refine (ypair2 yka20_1 ykb20_1 ykc20_1 ykd20_1 nf [x0, x1, x2, x3, x4, x5] [x1] rfl (by decide) rfl rfl (ybx (n := 1) rfl (fun k hk q x hq hx => ?_)))
      match k, hk, hq, hx with
      | 0, _, hq, hx => cases hq; cases hx; have := yb x1; dsimp only; omega
    · refine (ypair2 yka20_2 ykb20_2 ykc20_2 ykd20_2 nf [x0, x1, x2, x3, x4, x5] [x1] rfl (by decide) rfl rfl (ybx (n := 1) rfl (fun k hk q x hq hx => ?_)))
      match k, hk, hq, hx with
      | 0, _, hq, hx => cases hq; cases hx; have := yb x1; dsimp only; omega
    · refine (ypair2 yka20_3 ykb20_3 ykc20_3 ykd20_3 nf [x0, x1, x2, x3, x4, x5] [x1] rfl (by decide) rfl rfl (ybx (n := 1) rfl (fun k hk q x hq hx => ?_)))
      match k, hk, hq, hx with
      | 0, _, hq, hx => cases hq; cases hx; have := yb x1; dsimp only; omega
  obtain ⟨v, hx, hm, l1, l2, e1, e2⟩ := pr
  obtain ⟨z, hz⟩ := zEv_int (mt := zMt) (mi := nX10_seating) rfl (Or.inl rfl) e1
  cases hz
  obtain ⟨n, hn⟩ := ylaw_two (nf := nf) (xs := [x0, x1, x2, x3, x4, x5]) (pk := 996) (p1 := 1003) (p2 := 1013) (as := [.int x1]) (fun h => ⟨_, lstr (n := 6) (pc := 996) (pc' := 1003) (i := 0) (i' := 0) (st := []) (st' := [.float 1, .ref 0]) (by decide +kernel) rfl rfl nf x0 x1 x2 x3 x4 x5 0 0 h⟩) rfl rfl rfl (fun h => ⟨_, lstr (n := 6) (pc := 1006) (pc' := 1013) (i := 0) (i' := 0) (st := [.float 6]) (st' := [.float 1, .ref 128, .float 6]) (by decide +kernel) rfl rfl nf x0 x1 x2 x3 x4 x5 z 0 h⟩) rfl rfl rfl rfl (fun h => ⟨1, ycmp_eq rfl rfl⟩) l1 e1 e2
  exact ⟨n, hx ++ hm, by rw [List.length_append, l1, l2], hn⟩
theorem yl21 (nf : Bool) (x0 x1 x2 x3 x4 x5 : Int32) : ∃ (n : Nat) (h : zH), h.length = 176 ∧ zLaw nf [x0, x1, x2, x3, x4, x5] n (1021, yLS 0, [], yHx ++ yHo) (1521, yLS 0, [], h) := by
  have pr : ∃ (v : Value) (hx hm : zH), hx.length = 128 ∧ hm.length = 48 ∧ zEv (zXt nf [x0, x1, x2, x3, x4, x5]) zIT zmcl zMt 20 nX10_stopped (.ref 0 :: [.int x1]) (yHx ++ yHo) (some v) (hx ++ yHo) ∧ zEv (zXt nf [x0, x1, x2, x3, x4, x5]) zIT zmcl zMt 20 nX11_stopped (.ref 128 :: [.int x1]) (hx ++ yHo) (some v) (hx ++ hm) := by
    exact ypairs (ypair yk21 nf [x0, x1, x2, x3, x4, x5] [x1] rfl (by decide) rfl rfl (yfull (n := 1)))
  obtain ⟨v, hx, hm, l1, l2, e1, e2⟩ := pr
  obtain ⟨z, hz⟩ := zEv_int (mt := zMt) (mi := nX10_stopped) rfl (Or.inl rfl) e1
  cases hz
  obtain ⟨n, hn⟩ := ylaw_two (nf := nf) (xs := [x0, x1, x2, x3, x4, x5]) (pk := 1021) (p1 := 1028) (p2 := 1038) (as := [.int x1]) (fun h => ⟨_, lstr (n := 6) (pc := 1021) (pc' := 1028) (i := 0) (i' := 0) (st := []) (st' := [.float 1, .ref 0]) (by decide +kernel) rfl rfl nf x0 x1 x2 x3 x4 x5 0 0 h⟩) rfl rfl rfl (fun h => ⟨_, lstr (n := 6) (pc := 1031) (pc' := 1038) (i := 0) (i' := 0) (st := [.float 6]) (st' := [.float 1, .ref 128, .float 6]) (by decide +kernel) rfl rfl nf x0 x1 x2 x3 x4 x5 z 0 h⟩) rfl rfl rfl rfl (fun h => ⟨1, ycmp_eq rfl rfl⟩) l1 e1 e2
  exact ⟨n, hx ++ hm, by rw [List.length_append, l1, l2], hn⟩
theorem yl22 (nf : Bool) (x0 x1 x2 x3 x4 x5 : Int32) : ∃ (n : Nat) (h : zH), h.length = 176 ∧ zLaw nf [x0, x1, x2, x3, x4, x5] n (1046, yLS 0, [], yHx ++ yHo) (1521, yLS 0, [], h) := by
  have pr : ∃ (v : Value) (hx hm : zH), hx.length = 128 ∧ hm.length = 48 ∧ zEv (zXt nf [x0, x1, x2, x3, x4, x5]) zIT zmcl zMt 20 nX10_rests (.ref 0 :: [.int x1, .int x2]) (yHx ++ yHo) (some v) (hx ++ yHo) ∧ zEv (zXt nf [x0, x1, x2, x3, x4, x5]) zIT zmcl zMt 20 nX11_rests (.ref 128 :: [.int x1, .int x2]) (hx ++ yHo) (some v) (hx ++ hm) := by
    exact ypairs (ypair yk22 nf [x0, x1, x2, x3, x4, x5] [x1, x2] rfl (by decide) rfl rfl (yfull (n := 2)))
  obtain ⟨v, hx, hm, l1, l2, e1, e2⟩ := pr
  obtain ⟨z, hz⟩ := zEv_int (mt := zMt) (mi := nX10_rests) rfl (Or.inl rfl) e1
  cases hz
  obtain ⟨n, hn⟩ := ylaw_two (nf := nf) (xs := [x0, x1, x2, x3, x4, x5]) (pk := 1046) (p1 := 1059) (p2 := 1075) (as := [.int x1, .int x2]) (fun h => ⟨_, lstr (n := 11) (pc := 1046) (pc' := 1059) (i := 0) (i' := 0) (st := []) (st' := [.float 2, .float 1, .ref 0]) (by decide +kernel) rfl rfl nf x0 x1 x2 x3 x4 x5 0 0 h⟩) rfl rfl rfl (fun h => ⟨_, lstr (n := 11) (pc := 1062) (pc' := 1075) (i := 0) (i' := 0) (st := [.float 6]) (st' := [.float 2, .float 1, .ref 128, .float 6]) (by decide +kernel) rfl rfl nf x0 x1 x2 x3 x4 x5 z 0 h⟩) rfl rfl rfl rfl (fun h => ⟨1, ycmp_eq rfl rfl⟩) l1 e1 e2
  exact ⟨n, hx ++ hm, by rw [List.length_append, l1, l2], hn⟩
theorem yl23 (nf : Bool) (x0 x1 x2 x3 x4 x5 : Int32) : ∃ (n : Nat) (h : zH), h.length = 176 ∧ zLaw nf [x0, x1, x2, x3, x4, x5] n (1083, yLS 0, [], yHx ++ yHo) (1521, yLS 0, [], h) := by
  have pr : ∃ (v : Value) (hx hm : zH), hx.length = 128 ∧ hm.length = 48 ∧ zEv (zXt nf [x0, x1, x2, x3, x4, x5]) zIT zmcl zMt 20 nX10_rest (.ref 0 :: [.int x1, .int x2, .int x3]) (yHx ++ yHo) (some v) (hx ++ yHo) ∧ zEv (zXt nf [x0, x1, x2, x3, x4, x5]) zIT zmcl zMt 20 nX11_rest (.ref 128 :: [.int x1, .int x2, .int x3]) (hx ++ yHo) (some v) (hx ++ hm) := by
    exact ypairs (ypair yk23 nf [x0, x1, x2, x3, x4, x5] [x1, x2, x3] rfl (by decide) rfl rfl (yfull (n := 3)))
  obtain ⟨v, hx, hm, l1, l2, e1, e2⟩ := pr
  obtain ⟨z, hz⟩ := zEv_int (mt := zMt) (mi := nX10_rest) rfl (Or.inl rfl) e1
  cases hz
  obtain ⟨n, hn⟩ := ylaw_two (nf := nf) (xs := [x0, x1, x2, x3, x4, x5]) (pk := 1083) (p1 := 1102) (p2 := 1124) (as := [.int x1, .int x2, .int x3]) (fun h => ⟨_, lstr (n := 16) (pc := 1083) (pc' := 1102) (i := 0) (i' := 0) (st := []) (st' := [.float 3, .float 2, .float 1, .ref 0]) (by decide +kernel) rfl rfl nf x0 x1 x2 x3 x4 x5 0 0 h⟩) rfl rfl rfl (fun h => ⟨_, lstr (n := 16) (pc := 1105) (pc' := 1124) (i := 0) (i' := 0) (st := [.float 6]) (st' := [.float 3, .float 2, .float 1, .ref 128, .float 6]) (by decide +kernel) rfl rfl nf x0 x1 x2 x3 x4 x5 z 0 h⟩) rfl rfl rfl rfl (fun h => ⟨1, ycmp_eq rfl rfl⟩) l1 e1 e2
  exact ⟨n, hx ++ hm, by rw [List.length_append, l1, l2], hn⟩
theorem yl24 (nf : Bool) (x0 x1 x2 x3 x4 x5 : Int32) : ∃ (n : Nat) (h : zH), h.length = 176 ∧ zLaw nf [x0, x1, x2, x3, x4, x5] n (1132, yLS 0, [], yHx ++ yHo) (1521, yLS 0, [], h) := by
  have pr : ∃ (v : Value) (hx hm : zH), hx.length = 128 ∧ hm.length = 48 ∧ zEv (zXt nf [x0, x1, x2, x3, x4, x5]) zIT zmcl zMt 20 nX10_likely (.ref 0 :: [.int x1, .int x2]) (yHx ++ yHo) (some v) (hx ++ yHo) ∧ zEv (zXt nf [x0, x1, x2, x3, x4, x5]) zIT zmcl zMt 20 nX11_likely (.ref 128 :: [.int x1, .int x2]) (hx ++ yHo) (some v) (hx ++ hm) := by
    exact ypairs (ypair yk24 nf [x0, x1, x2, x3, x4, x5] [x1, x2] rfl (by decide) rfl rfl (yfull (n := 2)))
  obtain ⟨v, hx, hm, l1, l2, e1, e2⟩ := pr
  obtain ⟨z, hz⟩ := zEv_int (mt := zMt) (mi := nX10_likely) rfl (Or.inl rfl) e1
  cases hz
  obtain ⟨n, hn⟩ := ylaw_two (nf := nf) (xs := [x0, x1, x2, x3, x4, x5]) (pk := 1132) (p1 := 1145) (p2 := 1161) (as := [.int x1, .int x2]) (fun h => ⟨_, lstr (n := 11) (pc := 1132) (pc' := 1145) (i := 0) (i' := 0) (st := []) (st' := [.float 2, .float 1, .ref 0]) (by decide +kernel) rfl rfl nf x0 x1 x2 x3 x4 x5 0 0 h⟩) rfl rfl rfl (fun h => ⟨_, lstr (n := 11) (pc := 1148) (pc' := 1161) (i := 0) (i' := 0) (st := [.float 6]) (st' := [.float 2, .float 1, .ref 128, .float 6]) (by decide +kernel) rfl rfl nf x0 x1 x2 x3 x4 x5 z 0 h⟩) rfl rfl rfl rfl (fun h => ⟨1, ycmp_eq rfl rfl⟩) l1 e1 e2
  exact ⟨n, hx ++ hm, by rw [List.length_append, l1, l2], hn⟩
theorem yl25 (nf : Bool) (x0 x1 x2 x3 x4 x5 : Int32) : ∃ (n : Nat) (h : zH), h.length = 176 ∧ zLaw nf [x0, x1, x2, x3, x4, x5] n (1169, yLS 0, [], yHx ++ yHo) (1521, yLS 0, [], h) := by
  have pr : ∃ (v : Value) (hx hm : zH), hx.length = 128 ∧ hm.length = 48 ∧ zEv (zXt nf [x0, x1, x2, x3, x4, x5]) zIT zmcl zMt 20 nX10_solemn (.ref 0 :: []) (yHx ++ yHo) (some v) (hx ++ yHo) ∧ zEv (zXt nf [x0, x1, x2, x3, x4, x5]) zIT zmcl zMt 20 nX11_solemn (.ref 128 :: []) (hx ++ yHo) (some v) (hx ++ hm) := by
    exact (ypair2 yka25 ykb25 ykc25 ykd25 nf [x0, x1, x2, x3, x4, x5] [] rfl (by decide) rfl rfl (yfull (n := 0)))
  obtain ⟨v, hx, hm, l1, l2, e1, e2⟩ := pr
  obtain ⟨z, hz⟩ := zEv_int (mt := zMt) (mi := nX10_solemn) rfl (Or.inl rfl) e1
  cases hz
  obtain ⟨n, hn⟩ := ylaw_two (nf := nf) (xs := [x0, x1, x2, x3, x4, x5]) (pk := 1169) (p1 := 1170) (p2 := 1174) (as := []) (fun h => ⟨_, lstr (n := 1) (pc := 1169) (pc' := 1170) (i := 0) (i' := 0) (st := []) (st' := [.ref 0]) (by decide +kernel) rfl rfl nf x0 x1 x2 x3 x4 x5 0 0 h⟩) rfl rfl rfl (fun h => ⟨_, lstr (n := 1) (pc := 1173) (pc' := 1174) (i := 0) (i' := 0) (st := [.float 6]) (st' := [.ref 128, .float 6]) (by decide +kernel) rfl rfl nf x0 x1 x2 x3 x4 x5 z 0 h⟩) rfl rfl rfl rfl (fun h => ⟨1, ycmp_eq rfl rfl⟩) l1 e1 e2
  exact ⟨n, hx ++ hm, by rw [List.length_append, l1, l2], hn⟩
theorem yl26 (nf : Bool) (x0 x1 x2 x3 x4 x5 : Int32) : ∃ (n : Nat) (h : zH), h.length = 176 ∧ zLaw nf [x0, x1, x2, x3, x4, x5] n (1182, yLS 0, [], yHx ++ yHo) (1521, yLS 0, [], h) := by
  have pr : ∃ (v : Value) (hx hm : zH), hx.length = 128 ∧ hm.length = 48 ∧ zEv (zXt nf [x0, x1, x2, x3, x4, x5]) zIT zmcl zMt 20 nX10_late (.ref 0 :: [.int x1]) (yHx ++ yHo) (some v) (hx ++ yHo) ∧ zEv (zXt nf [x0, x1, x2, x3, x4, x5]) zIT zmcl zMt 20 nX11_late (.ref 128 :: [.int x1]) (hx ++ yHo) (some v) (hx ++ hm) := by
    exact ypairs (ypair yk26 nf [x0, x1, x2, x3, x4, x5] [x1] rfl (by decide) rfl rfl (yfull (n := 1)))
  obtain ⟨v, hx, hm, l1, l2, e1, e2⟩ := pr
  obtain ⟨z, hz⟩ := zEv_int (mt := zMt) (mi := nX10_late) rfl (Or.inl rfl) e1
  cases hz
  obtain ⟨n, hn⟩ := ylaw_two (nf := nf) (xs := [x0, x1, x2, x3, x4, x5]) (pk := 1182) (p1 := 1189) (p2 := 1199) (as := [.int x1]) (fun h => ⟨_, lstr (n := 6) (pc := 1182) (pc' := 1189) (i := 0) (i' := 0) (st := []) (st' := [.float 1, .ref 0]) (by decide +kernel) rfl rfl nf x0 x1 x2 x3 x4 x5 0 0 h⟩) rfl rfl rfl (fun h => ⟨_, lstr (n := 6) (pc := 1192) (pc' := 1199) (i := 0) (i' := 0) (st := [.float 6]) (st' := [.float 1, .ref 128, .float 6]) (by decide +kernel) rfl rfl nf x0 x1 x2 x3 x4 x5 z 0 h⟩) rfl rfl rfl rfl (fun h => ⟨1, ycmp_eq rfl rfl⟩) l1 e1 e2
  exact ⟨n, hx ++ hm, by rw [List.length_append, l1, l2], hn⟩
theorem yl27a (nf : Bool) (x0 x1 x2 x3 x4 x5 : Int32) (hb : x3 = 0) : ∃ (n : Nat) (h : zH), h.length = 176 ∧ zLaw nf [x0, x1, x2, x3, x4, x5] n (1207, yLS 0, [], yHx ++ yHo) (1521, yLS 0, [], h) := by
  have pr : ∃ (v : Value) (hx hm : zH), hx.length = 128 ∧ hm.length = 48 ∧ zEv (zXt nf [x0, x1, x2, x3, x4, x5]) zIT zmcl zMt 20 nX10_note (.ref 0 :: [.int x1, .int x2, .int 0]) (yHx ++ yHo) (some v) (hx ++ yHo) ∧ zEv (zXt nf [x0, x1, x2, x3, x4, x5]) zIT zmcl zMt 20 nX11_note (.ref 128 :: [.int x1, .int x2, .int 0]) (hx ++ yHo) (some v) (hx ++ hm) := by
    refine ypairs (ypair yk27 nf [x0, x1, x2, x3, x4, x5] [x1, x2, 0] rfl (by decide) rfl rfl (ybx (n := 3) rfl (fun k hk q x hq hx => ?_)))
    match k, hk, hq, hx with
    | 0, _, hq, hx => cases hq; cases hx; exact yb _
    | 1, _, hq, hx => cases hq; cases hx; exact yb _
    | 2, _, hq, hx => cases hq; cases hx; exact by decide
  obtain ⟨v, hx, hm, l1, l2, e1, e2⟩ := pr
  obtain ⟨z, hz⟩ := zEv_int (mt := zMt) (mi := nX10_note) rfl (Or.inl rfl) e1
  cases hz
  obtain ⟨n, hn⟩ := ylaw_two (nf := nf) (xs := [x0, x1, x2, x3, x4, x5]) (pk := 1207) (p1 := 1234) (p2 := 1264) (as := [.int x1, .int x2, .int 0]) (fun h => ⟨_, zLaw_trans (lstr (n := 16) (pc := 1207) (pc' := 1226) (i := 0) (i' := 0) (st := []) (st' := [.float 3, .float 2, .float 1, .ref 0]) (by decide +kernel) rfl rfl nf x0 x1 x2 x3 x4 x5 0 0 h) (zLaw_trans (yifeq (x := _) rfl rfl hb) (lstr (n := 1) (pc := 1233) (pc' := 1234) (i := 0) (i' := 0) (st := [.float 2, .float 1, .ref 0]) (st' := [.int 0, .float 2, .float 1, .ref 0]) (by decide +kernel) rfl rfl nf x0 x1 x2 x3 x4 x5 0 0 h))⟩) rfl rfl rfl (fun h => ⟨_, zLaw_trans (lstr (n := 16) (pc := 1237) (pc' := 1256) (i := 0) (i' := 0) (st := [.float 6]) (st' := [.float 3, .float 2, .float 1, .ref 128, .float 6]) (by decide +kernel) rfl rfl nf x0 x1 x2 x3 x4 x5 z 0 h) (zLaw_trans (yifeq (x := _) rfl rfl hb) (lstr (n := 1) (pc := 1263) (pc' := 1264) (i := 0) (i' := 0) (st := [.float 2, .float 1, .ref 128, .float 6]) (st' := [.int 0, .float 2, .float 1, .ref 128, .float 6]) (by decide +kernel) rfl rfl nf x0 x1 x2 x3 x4 x5 z 0 h))⟩) rfl rfl rfl rfl (fun h => ⟨1, ycmp_eq rfl rfl⟩) l1 e1 e2
  exact ⟨n, hx ++ hm, by rw [List.length_append, l1, l2], hn⟩
theorem yl27b (nf : Bool) (x0 x1 x2 x3 x4 x5 : Int32) (hb : x3 ≠ 0) : ∃ (n : Nat) (h : zH), h.length = 176 ∧ zLaw nf [x0, x1, x2, x3, x4, x5] n (1207, yLS 0, [], yHx ++ yHo) (1521, yLS 0, [], h) := by
  have pr : ∃ (v : Value) (hx hm : zH), hx.length = 128 ∧ hm.length = 48 ∧ zEv (zXt nf [x0, x1, x2, x3, x4, x5]) zIT zmcl zMt 20 nX10_note (.ref 0 :: [.int x1, .int x2, .int 1]) (yHx ++ yHo) (some v) (hx ++ yHo) ∧ zEv (zXt nf [x0, x1, x2, x3, x4, x5]) zIT zmcl zMt 20 nX11_note (.ref 128 :: [.int x1, .int x2, .int 1]) (hx ++ yHo) (some v) (hx ++ hm) := by
    refine ypairs (ypair yk27 nf [x0, x1, x2, x3, x4, x5] [x1, x2, 1] rfl (by decide) rfl rfl (ybx (n := 3) rfl (fun k hk q x hq hx => ?_)))
    match k, hk, hq, hx with
    | 0, _, hq, hx => cases hq; cases hx; exact yb _
    | 1, _, hq, hx => cases hq; cases hx; exact yb _
    | 2, _, hq, hx => cases hq; cases hx; exact by decide
  obtain ⟨v, hx, hm, l1, l2, e1, e2⟩ := pr
  obtain ⟨z, hz⟩ := zEv_int (mt := zMt) (mi := nX10_note) rfl (Or.inl rfl) e1
  cases hz
  obtain ⟨n, hn⟩ := ylaw_two (nf := nf) (xs := [x0, x1, x2, x3, x4, x5]) (pk := 1207) (p1 := 1234) (p2 := 1264) (as := [.int x1, .int x2, .int 1]) (fun h => ⟨_, zLaw_trans (lstr (n := 16) (pc := 1207) (pc' := 1226) (i := 0) (i' := 0) (st := []) (st' := [.float 3, .float 2, .float 1, .ref 0]) (by decide +kernel) rfl rfl nf x0 x1 x2 x3 x4 x5 0 0 h) (zLaw_trans (yifne (x := _) rfl (by decide) hb) (lstr (n := 2) (pc := 1229) (pc' := 1234) (i := 0) (i' := 0) (st := [.float 2, .float 1, .ref 0]) (st' := [.int 1, .float 2, .float 1, .ref 0]) (by decide +kernel) rfl rfl nf x0 x1 x2 x3 x4 x5 0 0 h))⟩) rfl rfl rfl (fun h => ⟨_, zLaw_trans (lstr (n := 16) (pc := 1237) (pc' := 1256) (i := 0) (i' := 0) (st := [.float 6]) (st' := [.float 3, .float 2, .float 1, .ref 128, .float 6]) (by decide +kernel) rfl rfl nf x0 x1 x2 x3 x4 x5 z 0 h) (zLaw_trans (yifne (x := _) rfl (by decide) hb) (lstr (n := 2) (pc := 1259) (pc' := 1264) (i := 0) (i' := 0) (st := [.float 2, .float 1, .ref 128, .float 6]) (st' := [.int 1, .float 2, .float 1, .ref 128, .float 6]) (by decide +kernel) rfl rfl nf x0 x1 x2 x3 x4 x5 z 0 h))⟩) rfl rfl rfl rfl (fun h => ⟨1, ycmp_eq rfl rfl⟩) l1 e1 e2
  exact ⟨n, hx ++ hm, by rw [List.length_append, l1, l2], hn⟩
theorem yl28 (nf : Bool) (x0 x1 x2 x3 x4 x5 : Int32) : ∃ (n : Nat) (h : zH), h.length = 176 ∧ zLaw nf [x0, x1, x2, x3, x4, x5] n (1272, yLS 0, [], yHx ++ yHo) (1521, yLS 0, [], h) := by
  have pr : ∃ (v : Value) (hx hm : zH), hx.length = 128 ∧ hm.length = 48 ∧ zEv (zXt nf [x0, x1, x2, x3, x4, x5]) zIT zmcl zMt 20 nX10_out (.ref 0 :: [.int x1]) (yHx ++ yHo) (some v) (hx ++ yHo) ∧ zEv (zXt nf [x0, x1, x2, x3, x4, x5]) zIT zmcl zMt 20 nX11_out (.ref 128 :: [.int x1]) (hx ++ yHo) (some v) (hx ++ hm) := by
    exact ypairs (ypair yk28 nf [x0, x1, x2, x3, x4, x5] [x1] rfl (by decide) rfl rfl (yfull (n := 1)))
  obtain ⟨v, hx, hm, l1, l2, e1, e2⟩ := pr
  obtain ⟨z, hz⟩ := zEv_int (mt := zMt) (mi := nX10_out) rfl (Or.inl rfl) e1
  cases hz
  obtain ⟨n, hn⟩ := ylaw_two (nf := nf) (xs := [x0, x1, x2, x3, x4, x5]) (pk := 1272) (p1 := 1279) (p2 := 1289) (as := [.int x1]) (fun h => ⟨_, lstr (n := 6) (pc := 1272) (pc' := 1279) (i := 0) (i' := 0) (st := []) (st' := [.float 1, .ref 0]) (by decide +kernel) rfl rfl nf x0 x1 x2 x3 x4 x5 0 0 h⟩) rfl rfl rfl (fun h => ⟨_, lstr (n := 6) (pc := 1282) (pc' := 1289) (i := 0) (i' := 0) (st := [.float 6]) (st' := [.float 1, .ref 128, .float 6]) (by decide +kernel) rfl rfl nf x0 x1 x2 x3 x4 x5 z 0 h⟩) rfl rfl rfl rfl (fun h => ⟨1, ycmp_eq rfl rfl⟩) l1 e1 e2
  exact ⟨n, hx ++ hm, by rw [List.length_append, l1, l2], hn⟩
theorem yl29 (nf : Bool) (x0 x1 x2 x3 x4 x5 : Int32) : ∃ (n : Nat) (h : zH), h.length = 176 ∧ zLaw nf [x0, x1, x2, x3, x4, x5] n (1297, yLS 0, [], yHx ++ yHo) (1521, yLS 0, [], h) := by
  have pr : ∃ (v : Value) (hx hm : zH), hx.length = 128 ∧ hm.length = 48 ∧ zEv (zXt nf [x0, x1, x2, x3, x4, x5]) zIT zmcl zMt 20 nX10_known (.ref 0 :: [.int x1]) (yHx ++ yHo) (some v) (hx ++ yHo) ∧ zEv (zXt nf [x0, x1, x2, x3, x4, x5]) zIT zmcl zMt 20 nX11_known (.ref 128 :: [.int x1]) (hx ++ yHo) (some v) (hx ++ hm) := by
    exact ypairs (ypair yk29 nf [x0, x1, x2, x3, x4, x5] [x1] rfl (by decide) rfl rfl (yfull (n := 1)))
  obtain ⟨v, hx, hm, l1, l2, e1, e2⟩ := pr
  obtain ⟨z, hz⟩ := zEv_int (mt := zMt) (mi := nX10_known) rfl (Or.inr rfl) e1
  cases hz
  obtain ⟨n, hn⟩ := ylaw_two (nf := nf) (xs := [x0, x1, x2, x3, x4, x5]) (pk := 1297) (p1 := 1304) (p2 := 1314) (as := [.int x1]) (fun h => ⟨_, lstr (n := 6) (pc := 1297) (pc' := 1304) (i := 0) (i' := 0) (st := []) (st' := [.float 1, .ref 0]) (by decide +kernel) rfl rfl nf x0 x1 x2 x3 x4 x5 0 0 h⟩) rfl rfl rfl (fun h => ⟨_, lstr (n := 6) (pc := 1307) (pc' := 1314) (i := 0) (i' := 0) (st := [.float 6]) (st' := [.float 1, .ref 128, .float 6]) (by decide +kernel) rfl rfl nf x0 x1 x2 x3 x4 x5 z 0 h⟩) rfl rfl rfl rfl (fun h => ⟨1, ycmp_eq rfl rfl⟩) l1 e1 e2
  exact ⟨n, hx ++ hm, by rw [List.length_append, l1, l2], hn⟩
theorem yl30 (nf : Bool) (x0 x1 x2 x3 x4 x5 : Int32) : ∃ (n : Nat) (h : zH), h.length = 176 ∧ zLaw nf [x0, x1, x2, x3, x4, x5] n (1322, yLS 0, [], yHx ++ yHo) (1521, yLS 0, [], h) := by
  have pr : ∃ (v : Value) (hx hm : zH), hx.length = 128 ∧ hm.length = 48 ∧ zEv (zXt nf [x0, x1, x2, x3, x4, x5]) zIT zmcl zMt 20 nX10_dulls (.ref 0 :: [.int x1]) (yHx ++ yHo) (some v) (hx ++ yHo) ∧ zEv (zXt nf [x0, x1, x2, x3, x4, x5]) zIT zmcl zMt 20 nX11_dulls (.ref 128 :: [.int x1]) (hx ++ yHo) (some v) (hx ++ hm) := by
    exact ypairs (ypair yk30 nf [x0, x1, x2, x3, x4, x5] [x1] rfl (by decide) rfl rfl (yfull (n := 1)))
  obtain ⟨v, hx, hm, l1, l2, e1, e2⟩ := pr
  obtain ⟨z, hz⟩ := zEv_int (mt := zMt) (mi := nX10_dulls) rfl (Or.inl rfl) e1
  cases hz
  obtain ⟨n, hn⟩ := ylaw_two (nf := nf) (xs := [x0, x1, x2, x3, x4, x5]) (pk := 1322) (p1 := 1329) (p2 := 1339) (as := [.int x1]) (fun h => ⟨_, lstr (n := 6) (pc := 1322) (pc' := 1329) (i := 0) (i' := 0) (st := []) (st' := [.float 1, .ref 0]) (by decide +kernel) rfl rfl nf x0 x1 x2 x3 x4 x5 0 0 h⟩) rfl rfl rfl (fun h => ⟨_, lstr (n := 6) (pc := 1332) (pc' := 1339) (i := 0) (i' := 0) (st := [.float 6]) (st' := [.float 1, .ref 128, .float 6]) (by decide +kernel) rfl rfl nf x0 x1 x2 x3 x4 x5 z 0 h⟩) rfl rfl rfl rfl (fun h => ⟨1, ycmp_eq rfl rfl⟩) l1 e1 e2
  exact ⟨n, hx ++ hm, by rw [List.length_append, l1, l2], hn⟩
theorem yl31 (nf : Bool) (x0 x1 x2 x3 x4 x5 : Int32) : ∃ (n : Nat) (h : zH), h.length = 176 ∧ zLaw nf [x0, x1, x2, x3, x4, x5] n (1347, yLS 0, [], yHx ++ yHo) (1521, yLS 0, [], h) := by
  have pr : ∃ (v : Value) (hx hm : zH), hx.length = 128 ∧ hm.length = 48 ∧ zEv (zXt nf [x0, x1, x2, x3, x4, x5]) zIT zmcl zMt 20 nX10_chance (.ref 0 :: [.int x1, .int x2, .int x3, .int x4]) (yHx ++ yHo) (some v) (hx ++ yHo) ∧ zEv (zXt nf [x0, x1, x2, x3, x4, x5]) zIT zmcl zMt 20 nX11_chance (.ref 128 :: [.int x1, .int x2, .int x3, .int x4]) (hx ++ yHo) (some v) (hx ++ hm) := by
    exact ypairs (ypair yk31 nf [x0, x1, x2, x3, x4, x5] [x1, x2, x3, x4] rfl (by decide) rfl rfl (yfull (n := 4)))
  obtain ⟨v, hx, hm, l1, l2, e1, e2⟩ := pr
  obtain ⟨z, hz⟩ := zEv_int (mt := zMt) (mi := nX10_chance) rfl (Or.inl rfl) e1
  cases hz
  obtain ⟨n, hn⟩ := ylaw_two (nf := nf) (xs := [x0, x1, x2, x3, x4, x5]) (pk := 1347) (p1 := 1372) (p2 := 1400) (as := [.int x1, .int x2, .int x3, .int x4]) (fun h => ⟨_, lstr (n := 21) (pc := 1347) (pc' := 1372) (i := 0) (i' := 0) (st := []) (st' := [.float 4, .float 3, .float 2, .float 1, .ref 0]) (by decide +kernel) rfl rfl nf x0 x1 x2 x3 x4 x5 0 0 h⟩) rfl rfl rfl (fun h => ⟨_, lstr (n := 21) (pc := 1375) (pc' := 1400) (i := 0) (i' := 0) (st := [.float 6]) (st' := [.float 4, .float 3, .float 2, .float 1, .ref 128, .float 6]) (by decide +kernel) rfl rfl nf x0 x1 x2 x3 x4 x5 z 0 h⟩) rfl rfl rfl rfl (fun h => ⟨1, ycmp_eq rfl rfl⟩) l1 e1 e2
  exact ⟨n, hx ++ hm, by rw [List.length_append, l1, l2], hn⟩
theorem yl32 (nf : Bool) (x0 x1 x2 x3 x4 x5 : Int32) : ∃ (n : Nat) (h : zH), h.length = 176 ∧ zLaw nf [x0, x1, x2, x3, x4, x5] n (1408, yLS 0, [], yHx ++ yHo) (1521, yLS 0, [], h) := by
  have pr : ∃ (v : Value) (hx hm : zH), hx.length = 128 ∧ hm.length = 48 ∧ zEv (zXt nf [x0, x1, x2, x3, x4, x5]) zIT zmcl zMt 20 nX10_tried (.ref 0 :: [.int x1, .int x2, .int x3]) (yHx ++ yHo) (some v) (hx ++ yHo) ∧ zEv (zXt nf [x0, x1, x2, x3, x4, x5]) zIT zmcl zMt 20 nX11_tried (.ref 128 :: [.int x1, .int x2, .int x3]) (hx ++ yHo) (some v) (hx ++ hm) := by
    have hc : x1.toInt ≤ -1 ∨ x1.toInt = 0 ∨ x1.toInt = 1 ∨ x1.toInt = 2 ∨ x1.toInt = 3 ∨ x1.toInt = 4 ∨ x1.toInt = 5 ∨ 6 ≤ x1.toInt := by omega
    rcases hc with hc | hc | hc | hc | hc | hc | hc | hc
    · refine (ypair2 yka32_0 ykb32_0 ykc32_0 ykd32_0 nf [x0, x1, x2, x3, x4, x5] [x1, x2, x3] rfl (by decide) rfl rfl (ybx (n := 3) rfl (fun k hk q x hq hx => ?_)))
      match k, hk, hq, hx with
      | 0, _, hq, hx => cases hq; cases hx; have := yb x1; dsimp only; omega
      | 1, _, hq, hx => cases hq; cases hx; exact yb _
      | 2, _, hq, hx => cases hq; cases hx; exact yb _
    · refine (ypair2 yka32_1 ykb32_1 ykc32_1 ykd32_1 nf [x0, x1, x2, x3, x4, x5] [x1, x2, x3] rfl (by decide) rfl rfl (ybx (n := 3) rfl (fun k hk q x hq hx => ?_)))
      match k, hk, hq, hx with
      | 0, _, hq, hx => cases hq; cases hx; have := yb x1; dsimp only; omega
      | 1, _, hq, hx => cases hq; cases hx; exact yb _
      | 2, _, hq, hx => cases hq; cases hx; exact yb _
    · refine (ypair2 yka32_2 ykb32_2 ykc32_2 ykd32_2 nf [x0, x1, x2, x3, x4, x5] [x1, x2, x3] rfl (by decide) rfl rfl (ybx (n := 3) rfl (fun k hk q x hq hx => ?_)))
      match k, hk, hq, hx with
      | 0, _, hq, hx => cases hq; cases hx; have := yb x1; dsimp only; omega
      | 1, _, hq, hx => cases hq; cases hx; exact yb _
      | 2, _, hq, hx => cases hq; cases hx; exact yb _
    · refine (ypair2 yka32_3 ykb32_3 ykc32_3 ykd32_3 nf [x0, x1, x2, x3, x4, x5] [x1, x2, x3] rfl (by decide) rfl rfl (ybx (n := 3) rfl (fun k hk q x hq hx => ?_)))
      match k, hk, hq, hx with
      | 0, _, hq, hx => cases hq; cases hx; have := yb x1; dsimp only; omega
      | 1, _, hq, hx => cases hq; cases hx; exact yb _
      | 2, _, hq, hx => cases hq; cases hx; exact yb _
    · refine (ypair2 yka32_4 ykb32_4 ykc32_4 ykd32_4 nf [x0, x1, x2, x3, x4, x5] [x1, x2, x3] rfl (by decide) rfl rfl (ybx (n := 3) rfl (fun k hk q x hq hx => ?_)))
      match k, hk, hq, hx with
      | 0, _, hq, hx => cases hq; cases hx; have := yb x1; dsimp only; omega
      | 1, _, hq, hx => cases hq; cases hx; exact yb _
      | 2, _, hq, hx => cases hq; cases hx; exact yb _
    · refine (ypair2 yka32_5 ykb32_5 ykc32_5 ykd32_5 nf [x0, x1, x2, x3, x4, x5] [x1, x2, x3] rfl (by decide) rfl rfl (ybx (n := 3) rfl (fun k hk q x hq hx => ?_)))
      match k, hk, hq, hx with
      | 0, _, hq, hx => cases hq; cases hx; have := yb x1; dsimp only; omega
      | 1, _, hq, hx => cases hq; cases hx; exact yb _
      | 2, _, hq, hx => cases hq; cases hx; exact yb _
    · refine (ypair2 yka32_6 ykb32_6 ykc32_6 ykd32_6 nf [x0, x1, x2, x3, x4, x5] [x1, x2, x3] rfl (by decide) rfl rfl (ybx (n := 3) rfl (fun k hk q x hq hx => ?_)))
      match k, hk, hq, hx with
      | 0, _, hq, hx => cases hq; cases hx; have := yb x1; dsimp only; omega
      | 1, _, hq, hx => cases hq; cases hx; exact yb _
      | 2, _, hq, hx => cases hq; cases hx; exact yb _
    · refine (ypair2 yka32_7 ykb32_7 ykc32_7 ykd32_7 nf [x0, x1, x2, x3, x4, x5] [x1, x2, x3] rfl (by decide) rfl rfl (ybx (n := 3) rfl (fun k hk q x hq hx => ?_)))
      match k, hk, hq, hx with
      | 0, _, hq, hx => cases hq; cases hx; have := yb x1; dsimp only; omega
      | 1, _, hq, hx => cases hq; cases hx; exact yb _
      | 2, _, hq, hx => cases hq; cases hx; exact yb _
  obtain ⟨v, hx, hm, l1, l2, e1, e2⟩ := pr
  obtain ⟨z, hz⟩ := zEv_int (mt := zMt) (mi := nX10_tried) rfl (Or.inl rfl) e1
  cases hz
  obtain ⟨n, hn⟩ := ylaw_two (nf := nf) (xs := [x0, x1, x2, x3, x4, x5]) (pk := 1408) (p1 := 1427) (p2 := 1449) (as := [.int x1, .int x2, .int x3]) (fun h => ⟨_, lstr (n := 16) (pc := 1408) (pc' := 1427) (i := 0) (i' := 0) (st := []) (st' := [.float 3, .float 2, .float 1, .ref 0]) (by decide +kernel) rfl rfl nf x0 x1 x2 x3 x4 x5 0 0 h⟩) rfl rfl rfl (fun h => ⟨_, lstr (n := 16) (pc := 1430) (pc' := 1449) (i := 0) (i' := 0) (st := [.float 6]) (st' := [.float 3, .float 2, .float 1, .ref 128, .float 6]) (by decide +kernel) rfl rfl nf x0 x1 x2 x3 x4 x5 z 0 h⟩) rfl rfl rfl rfl (fun h => ⟨1, ycmp_eq rfl rfl⟩) l1 e1 e2
  exact ⟨n, hx ++ hm, by rw [List.length_append, l1, l2], hn⟩
theorem yl33 (nf : Bool) (x0 x1 x2 x3 x4 x5 : Int32) : ∃ (n : Nat) (h : zH), h.length = 176 ∧ zLaw nf [x0, x1, x2, x3, x4, x5] n (1457, yLS 0, [], yHx ++ yHo) (1521, yLS 0, [], h) := by
  have pr : ∃ (v : Value) (hx hm : zH), hx.length = 128 ∧ hm.length = 48 ∧ zEv (zXt nf [x0, x1, x2, x3, x4, x5]) zIT zmcl zMt 20 nX10_undo (.ref 0 :: []) (yHx ++ yHo) (some v) (hx ++ yHo) ∧ zEv (zXt nf [x0, x1, x2, x3, x4, x5]) zIT zmcl zMt 20 nX11_undo (.ref 128 :: []) (hx ++ yHo) (some v) (hx ++ hm) := by
    exact ypairs (ypair yk33 nf [x0, x1, x2, x3, x4, x5] [] rfl (by decide) rfl rfl (yfull (n := 0)))
  obtain ⟨v, hx, hm, l1, l2, e1, e2⟩ := pr
  obtain ⟨z, hz⟩ := zEv_int (mt := zMt) (mi := nX10_undo) rfl (Or.inl rfl) e1
  cases hz
  obtain ⟨n, hn⟩ := ylaw_two (nf := nf) (xs := [x0, x1, x2, x3, x4, x5]) (pk := 1457) (p1 := 1458) (p2 := 1462) (as := []) (fun h => ⟨_, lstr (n := 1) (pc := 1457) (pc' := 1458) (i := 0) (i' := 0) (st := []) (st' := [.ref 0]) (by decide +kernel) rfl rfl nf x0 x1 x2 x3 x4 x5 0 0 h⟩) rfl rfl rfl (fun h => ⟨_, lstr (n := 1) (pc := 1461) (pc' := 1462) (i := 0) (i' := 0) (st := [.float 6]) (st' := [.ref 128, .float 6]) (by decide +kernel) rfl rfl nf x0 x1 x2 x3 x4 x5 z 0 h⟩) rfl rfl rfl rfl (fun h => ⟨1, ycmp_eq rfl rfl⟩) l1 e1 e2
  exact ⟨n, hx ++ hm, by rw [List.length_append, l1, l2], hn⟩
theorem yl34 (nf : Bool) (x0 x1 x2 x3 x4 x5 : Int32) : ∃ (n : Nat) (h : zH), h.length = 176 ∧ zLaw nf [x0, x1, x2, x3, x4, x5] n (1470, yLS 0, [], yHx ++ yHo) (1521, yLS 0, [], h) := by
  have pr : ∃ (v : Value) (hx hm : zH), hx.length = 128 ∧ hm.length = 48 ∧ zEv (zXt nf [x0, x1, x2, x3, x4, x5]) zIT zmcl zMt 20 nX10_keep (.ref 0 :: []) (yHx ++ yHo) (some v) (hx ++ yHo) ∧ zEv (zXt nf [x0, x1, x2, x3, x4, x5]) zIT zmcl zMt 20 nX11_keep (.ref 128 :: []) (hx ++ yHo) (some v) (hx ++ hm) := by
    exact (ypair2 yka34 ykb34 ykc34 ykd34 nf [x0, x1, x2, x3, x4, x5] [] rfl (by decide) rfl rfl (yfull (n := 0)))
  obtain ⟨v, hx, hm, l1, l2, e1, e2⟩ := pr
  obtain ⟨z, hz⟩ := zEv_int (mt := zMt) (mi := nX10_keep) rfl (Or.inl rfl) e1
  cases hz
  obtain ⟨n, hn⟩ := ylaw_two (nf := nf) (xs := [x0, x1, x2, x3, x4, x5]) (pk := 1470) (p1 := 1471) (p2 := 1475) (as := []) (fun h => ⟨_, lstr (n := 1) (pc := 1470) (pc' := 1471) (i := 0) (i' := 0) (st := []) (st' := [.ref 0]) (by decide +kernel) rfl rfl nf x0 x1 x2 x3 x4 x5 0 0 h⟩) rfl rfl rfl (fun h => ⟨_, lstr (n := 1) (pc := 1474) (pc' := 1475) (i := 0) (i' := 0) (st := [.float 6]) (st' := [.ref 128, .float 6]) (by decide +kernel) rfl rfl nf x0 x1 x2 x3 x4 x5 z 0 h⟩) rfl rfl rfl rfl (fun h => ⟨1, ycmp_eq rfl rfl⟩) l1 e1 e2
  exact ⟨n, hx ++ hm, by rw [List.length_append, l1, l2], hn⟩
theorem yl35 (nf : Bool) (x0 x1 x2 x3 x4 x5 : Int32) : ∃ (n : Nat) (h : zH), h.length = 176 ∧ zLaw nf [x0, x1, x2, x3, x4, x5] n (1483, yLS 0, [], yHx ++ yHo) (1521, yLS 0, [], h) := by
  have pr : ∃ (v : Value) (hx hm : zH), hx.length = 128 ∧ hm.length = 48 ∧ zEv (zXt nf [x0, x1, x2, x3, x4, x5]) zIT zmcl zMt 20 nX10_back (.ref 0 :: []) (yHx ++ yHo) (some v) (hx ++ yHo) ∧ zEv (zXt nf [x0, x1, x2, x3, x4, x5]) zIT zmcl zMt 20 nX11_back (.ref 128 :: []) (hx ++ yHo) (some v) (hx ++ hm) := by
    exact ypairs (ypair yk35 nf [x0, x1, x2, x3, x4, x5] [] rfl (by decide) rfl rfl (yfull (n := 0)))
  obtain ⟨v, hx, hm, l1, l2, e1, e2⟩ := pr
  obtain ⟨z, hz⟩ := zEv_int (mt := zMt) (mi := nX10_back) rfl (Or.inl rfl) e1
  cases hz
  obtain ⟨n, hn⟩ := ylaw_two (nf := nf) (xs := [x0, x1, x2, x3, x4, x5]) (pk := 1483) (p1 := 1484) (p2 := 1488) (as := []) (fun h => ⟨_, lstr (n := 1) (pc := 1483) (pc' := 1484) (i := 0) (i' := 0) (st := []) (st' := [.ref 0]) (by decide +kernel) rfl rfl nf x0 x1 x2 x3 x4 x5 0 0 h⟩) rfl rfl rfl (fun h => ⟨_, lstr (n := 1) (pc := 1487) (pc' := 1488) (i := 0) (i' := 0) (st := [.float 6]) (st' := [.ref 128, .float 6]) (by decide +kernel) rfl rfl nf x0 x1 x2 x3 x4 x5 z 0 h⟩) rfl rfl rfl rfl (fun h => ⟨1, ycmp_eq rfl rfl⟩) l1 e1 e2
  exact ⟨n, hx ++ hm, by rw [List.length_append, l1, l2], hn⟩
theorem yl36 (nf : Bool) (x0 x1 x2 x3 x4 x5 : Int32) : ∃ (n : Nat) (h : zH), h.length = 176 ∧ zLaw nf [x0, x1, x2, x3, x4, x5] n (1496, yLS 0, [], yHx ++ yHo) (1521, yLS 0, [], h) := by
  have pr : ∃ (v : Value) (hx hm : zH), hx.length = 128 ∧ hm.length = 48 ∧ zEv (zXt nf [x0, x1, x2, x3, x4, x5]) zIT zmcl zMt 20 nX10_count (.ref 0 :: [.int x1]) (yHx ++ yHo) (some v) (hx ++ yHo) ∧ zEv (zXt nf [x0, x1, x2, x3, x4, x5]) zIT zmcl zMt 20 nX11_count (.ref 128 :: [.int x1]) (hx ++ yHo) (some v) (hx ++ hm) := by
    exact (ypair2 yka36 ykb36 ykc36 ykd36 nf [x0, x1, x2, x3, x4, x5] [x1] rfl (by decide) rfl rfl (yfull (n := 1)))
  obtain ⟨v, hx, hm, l1, l2, e1, e2⟩ := pr
  obtain ⟨z, hz⟩ := zEv_int (mt := zMt) (mi := nX10_count) rfl (Or.inl rfl) e1
  cases hz
  obtain ⟨n, hn⟩ := ylaw_two (nf := nf) (xs := [x0, x1, x2, x3, x4, x5]) (pk := 1496) (p1 := 1503) (p2 := 1513) (as := [.int x1]) (fun h => ⟨_, lstr (n := 6) (pc := 1496) (pc' := 1503) (i := 0) (i' := 0) (st := []) (st' := [.float 1, .ref 0]) (by decide +kernel) rfl rfl nf x0 x1 x2 x3 x4 x5 0 0 h⟩) rfl rfl rfl (fun h => ⟨_, lstr (n := 6) (pc := 1506) (pc' := 1513) (i := 0) (i' := 0) (st := [.float 6]) (st' := [.float 1, .ref 128, .float 6]) (by decide +kernel) rfl rfl nf x0 x1 x2 x3 x4 x5 z 0 h⟩) rfl rfl rfl rfl (fun h => ⟨1, ycmp_eq rfl rfl⟩) l1 e1 e2
  exact ⟨n, hx ++ hm, by rw [List.length_append, l1, l2], hn⟩
