/-! Constants, Math, calls whose end is known outright. -/
section XI
variable {nf : Bool} {xs : List Int32} {d c : Nat} {ini : Bool} {nL : Nat} {rt : Option FieldType} {tab : Nat → Option (Instr × Nat)} {G : xG} {r : Option Value} {h' : zH} {pc pc' len q : Nat} {ls ls' : zL} {st : List Value} {m m1 : xM} {g g1 : xL} {N : Nat} {off : Int} {x y : Int32}
def xtk (tab : Nat → Option (Instr × Nat)) (pc pc' : Nat) (x : Int32) : Prop := (∃ n : Int, xt tab pc pc' (.iconst n) ∧ Int32.ofInt n = x) ∨ (∃ n : Int, xt tab pc pc' (.bipush n) ∧ (Int8.ofInt n).toInt32 = x) ∨ (∃ n : Int, xt tab pc pc' (.sipush n) ∧ (Int16.ofInt n).toInt32 = x)
theorem s_k (t : xtk tab pc pc' x) : XS nf xs d c ini nL rt tab G r h' (pc, ls, st, m, g) (pc', ls, .int x :: st, m, g) := by
  rcases t with ⟨n, t, rfl⟩ | ⟨n, t, rfl⟩ | ⟨n, t, rfl⟩
  · exact s_iconst t
  · exact s_bipush t
  · exact s_sipush t
theorem s_i2l (t : xt tab pc pc' .i2l) : XS nf xs d c ini nL rt tab G r h' (pc, ls, .int x :: st, m, g) (pc', ls, .long x.toInt64 :: st, m, g) := by
  obtain ⟨t, rfl⟩ := t
  exact xpure t rfl rfl (fun _ => rfl) (fun h s q => by cases q; rfl)
theorem s_l2i {x : Int64} (t : xt tab pc pc' .l2i) : XS nf xs d c ini nL rt tab G r h' (pc, ls, .long x :: st, m, g) (pc', ls, .int x.toInt32 :: st, m, g) := by
  obtain ⟨t, rfl⟩ := t
  exact xpure t rfl rfl (fun _ => rfl) (fun h s q => by cases q; rfl)
theorem zinvO {i : Instr} {n : Nat} {h : zH} (t : tab pc = some (i, len)) (h1 : zret rt i st = none) (h2 : zcall (zXt nf xs) zIT zmcl c i st h = none) (h3 : zstep (zXt nf xs) nL ini c i pc ls st h = none) (q : zRun (zXt nf xs) zIT zmcl (zEv (zXt nf xs) zIT zmcl zMt d) c ini nL rt tab n pc ls st h r h') : ∃ (n' : Nat) (rest : List Value), n = n' + 1 ∧ zobjI zIT c i st = some rest ∧ zRun (zXt nf xs) zIT zmcl (zEv (zXt nf xs) zIT zmcl zMt d) c ini nL rt tab n' (pc + 3) ls rest h r h' := by
  cases n with
  | zero => exact q.elim
  | succ n =>
    obtain ⟨i', len', t', q⟩ := q
    rw [t] at t'
    cases t'
    rcases q with ⟨q, -⟩ | ⟨pc1, ls1, st1, k1, q1, q2⟩ | ⟨rest, q, q1⟩ | ⟨mi, as, rest, r1, k1, q, q1, q2⟩
    · rw [h1] at q; cases q
    · rw [h3] at q1; cases q1
    · exact ⟨n, rest, rfl, q, q1⟩
    · rw [h2] at q; cases q
theorem s_math5 {j a b : Nat} (t : xtc tab c pc pc' (.invokestatic j) j 5 a b) : XS nf xs d c ini nL rt tab G r h' (pc, ls, .int y :: .int x :: st, m, g) (pc', ls, .int (if x < y then y else x) :: st, m, g) := by
  obtain ⟨t, rfl, e⟩ := t
  intro n ⟨h, hs, q2⟩
  obtain ⟨n', rest, en, z, q⟩ := zinvO t rfl (by simp only [zcall, e]) rfl q2
  simp only [zobjI, e] at z
  split at z
  · cases z; exact ⟨n', en, h, hs, q⟩
  · cases z
theorem s_math6 {j a b : Nat} (t : xtc tab c pc pc' (.invokestatic j) j 6 a b) : XS nf xs d c ini nL rt tab G r h' (pc, ls, .int y :: .int x :: st, m, g) (pc', ls, .int (if y < x then y else x) :: st, m, g) := by
  obtain ⟨t, rfl, e⟩ := t
  intro n ⟨h, hs, q2⟩
  obtain ⟨n', rest, en, z, q⟩ := zinvO t rfl (by simp only [zcall, e]) rfl q2
  simp only [zobjI, e] at z
  split at z
  · cases z; exact ⟨n', en, h, hs, q⟩
  · cases z
/-- an end that is known outright -/
def PE (v : Option Value) (m1 : xM) (g1 : xL) : Option Value → xM → xL → Prop := fun r m' g' => r = v ∧ m' = m1 ∧ g' = g1
theorem RR.cvI {j mi n b : Nat} {vs rest : List Value} {v : Value} (hr : RR nf xs d c ini nL rt tab G r h' N (pc, ls, st, m, g)) (t : xtc tab c pc pc' (.invokevirtual j) j 1 mi n) (e1 : st.drop n = .ref b :: rest) (e2 : (st.take n).reverse = vs) (hc : CT nf xs d mi (.ref b :: vs) m g G (PE (some v) m1 g1)) : RR nf xs d c ini nL rt tab G r h' N (pc', ls, v :: rest, m1, g1) := by
  obtain ⟨_, _, _, ⟨rfl, rfl, rfl⟩, q⟩ := hr.callv t e1 e2 hc
  exact q
theorem RR.cvN {j mi n b : Nat} {vs rest : List Value} (hr : RR nf xs d c ini nL rt tab G r h' N (pc, ls, st, m, g)) (t : xtc tab c pc pc' (.invokevirtual j) j 1 mi n) (e1 : st.drop n = .ref b :: rest) (e2 : (st.take n).reverse = vs) (hc : CT nf xs d mi (.ref b :: vs) m g G (PE none m1 g1)) : RR nf xs d c ini nL rt tab G r h' N (pc', ls, rest, m1, g1) := by
  obtain ⟨_, _, _, ⟨rfl, rfl, rfl⟩, q⟩ := hr.callv t e1 e2 hc
  exact q
theorem RR.cXI {j mi n b : Nat} {vs rest : List Value} {v : Value} (hr : RR nf xs d c ini nL rt tab G r h' N (pc, ls, st, m, g)) (t : xtc tab c pc pc' (.invokevirtual j) j 1 mi n) (e1 : st.drop n = .retAddr b :: rest) (e2 : (st.take n).reverse = vs) (hc : CT nf xs d mi (.retAddr b :: vs) m g G (PE (some v) m1 g1)) : RR nf xs d c ini nL rt tab G r h' N (pc', ls, v :: rest, m1, g1) := by
  obtain ⟨_, _, _, ⟨rfl, rfl, rfl⟩, q⟩ := hr.callX t e1 e2 hc
  exact q
theorem RR.csI {j mi n : Nat} {vs rest : List Value} {v : Value} (hr : RR nf xs d c ini nL rt tab G r h' N (pc, ls, st, m, g)) (t : xtc tab c pc pc' (.invokestatic j) j 2 mi n) (e1 : st.drop n = rest) (e2 : (st.take n).reverse = vs) (hc : CT nf xs d mi vs m g G (PE (some v) m1 g1)) : RR nf xs d c ini nL rt tab G r h' N (pc', ls, v :: rest, m1, g1) := by
  obtain ⟨_, _, _, ⟨rfl, rfl, rfl⟩, q⟩ := hr.calls t e1 e2 hc
  exact q
theorem RR.csN {j mi n : Nat} {vs rest : List Value} (hr : RR nf xs d c ini nL rt tab G r h' N (pc, ls, st, m, g)) (t : xtc tab c pc pc' (.invokestatic j) j 2 mi n) (e1 : st.drop n = rest) (e2 : (st.take n).reverse = vs) (hc : CT nf xs d mi vs m g G (PE none m1 g1)) : RR nf xs d c ini nL rt tab G r h' N (pc', ls, rest, m1, g1) := by
  obtain ⟨_, _, _, ⟨rfl, rfl, rfl⟩, q⟩ := hr.calls t e1 e2 hc
  exact q

end XI
