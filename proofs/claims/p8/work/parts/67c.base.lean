/-! Ends with a fact of the memory; the stream of tokens; rows of tables. -/
section XI
variable {nf : Bool} {xs : List Int32} {d c : Nat} {ini : Bool} {nL : Nat} {rt : Option FieldType} {tab : Nat → Option (Instr × Nat)} {G : xG} {r : Option Value} {h' : zH} {pc pc' len q : Nat} {ls ls' : zL} {st : List Value} {m m1 : xM} {g g1 : xL} {N : Nat} {off : Int} {x y : Int32}
/-- an end: the answer, and what the memory is then -/
def PF (v : Option Value) (g : xL) (Q : xM → Prop) : Option Value → xM → xL → Prop := fun r m' g' => r = v ∧ g' = g ∧ Q m'
theorem RR.fvI {j mi n b : Nat} {vs rest : List Value} {v : Value} {Q : xM → Prop} (hr : RR nf xs d c ini nL rt tab G r h' N (pc, ls, st, m, g)) (t : xtc tab c pc pc' (.invokevirtual j) j 1 mi n) (e1 : st.drop n = .ref b :: rest) (e2 : (st.take n).reverse = vs) (hc : CT nf xs d mi (.ref b :: vs) m g G (PF (some v) g Q)) : ∃ m1 : xM, Q m1 ∧ RR nf xs d c ini nL rt tab G r h' N (pc', ls, v :: rest, m1, g) := by
  obtain ⟨_, m1, _, ⟨rfl, rfl, q1⟩, q⟩ := hr.callv t e1 e2 hc
  exact ⟨m1, q1, q⟩
theorem RR.fvN {j mi n b : Nat} {vs rest : List Value} {Q : xM → Prop} (hr : RR nf xs d c ini nL rt tab G r h' N (pc, ls, st, m, g)) (t : xtc tab c pc pc' (.invokevirtual j) j 1 mi n) (e1 : st.drop n = .ref b :: rest) (e2 : (st.take n).reverse = vs) (hc : CT nf xs d mi (.ref b :: vs) m g G (PF none g Q)) : ∃ m1 : xM, Q m1 ∧ RR nf xs d c ini nL rt tab G r h' N (pc', ls, rest, m1, g) := by
  obtain ⟨_, m1, _, ⟨rfl, rfl, q1⟩, q⟩ := hr.callv t e1 e2 hc
  exact ⟨m1, q1, q⟩
theorem RR.fsI {j mi n : Nat} {vs rest : List Value} {v : Value} {Q : xM → Prop} (hr : RR nf xs d c ini nL rt tab G r h' N (pc, ls, st, m, g)) (t : xtc tab c pc pc' (.invokestatic j) j 2 mi n) (e1 : st.drop n = rest) (e2 : (st.take n).reverse = vs) (hc : CT nf xs d mi vs m g G (PF (some v) g Q)) : ∃ m1 : xM, Q m1 ∧ RR nf xs d c ini nL rt tab G r h' N (pc', ls, v :: rest, m1, g) := by
  obtain ⟨_, m1, _, ⟨rfl, rfl, q1⟩, q⟩ := hr.calls t e1 e2 hc
  exact ⟨m1, q1, q⟩
theorem RR.fsN {j mi n : Nat} {vs rest : List Value} {Q : xM → Prop} (hr : RR nf xs d c ini nL rt tab G r h' N (pc, ls, st, m, g)) (t : xtc tab c pc pc' (.invokestatic j) j 2 mi n) (e1 : st.drop n = rest) (e2 : (st.take n).reverse = vs) (hc : CT nf xs d mi vs m g G (PF none g Q)) : ∃ m1 : xM, Q m1 ∧ RR nf xs d c ini nL rt tab G r h' N (pc', ls, rest, m1, g) := by
  obtain ⟨_, m1, _, ⟨rfl, rfl, q1⟩, q⟩ := hr.calls t e1 e2 hc
  exact ⟨m1, q1, q⟩
end XI
theorem xn_mul {a b : Nat} : Int32.ofNat a * Int32.ofNat b = Int32.ofNat (a * b) := (Int32.ofNat_mul a b).symm
theorem xn_ix {r cols k : Nat} (h : r * cols + k < 2147483648) : (Int32.ofNat r * Int32.ofNat cols + Int32.ofNat k).toNatClampNeg = r * cols + k := by
  rw [xn_mul, xn_add, xn_nat h]
/-! The stream of tokens. -/
abbrev eB : Type := (Nat → Int32) × (Nat → Int32) × Nat
/-- the bytes, the words, how many bytes -/
def EV (B : eB) : Prop := B.2.2 ≤ 700 ∧ WD B.2.1 ∧ (∀ i : Nat, i < B.2.2 → 0 ≤ (B.1 i).toInt) ∧ ∀ i : Nat, i < B.2.2 → (B.1 i).toInt < 256
/-- where token i may begin -/
def tps (B : eB) : Nat → Nat
  | 0 => 0
  | i + 1 => (tokC B.1 B.2.1 B.2.2 (tps B i)).2.2.2
def tkn (B : eB) (i : Nat) : Int32 × Int32 × Nat × Nat := tokC B.1 B.2.1 B.2.2 (tps B i)
def tK (B : eB) (i : Nat) : Int32 := (tkn B i).1
def tV (B : eB) (i : Nat) : Int32 := (tkn B i).2.1
def tP (B : eB) (i : Nat) : Nat := (tkn B i).2.2.1
theorem tps_le {B : eB} (hE : EV B) : ∀ i : Nat, tps B i ≤ B.2.2
  | 0 => Nat.zero_le _
  | i + 1 => (tok_same (old := 0) hE.1 (tps_le hE i) hE.2.1).2.2.2.2.1
theorem tk_go {B : eB} (hE : EV B) {i : Nat} (h : ¬ tK B i = 0) : tps B i < tps B (i + 1) := by
  have h1 := tok_same (b := B.1) (wd := B.2.1) (n := B.2.2) (p := tps B i) (old := 0) hE.1 (tps_le hE i) hE.2.1
  have := h1.2.2.2.2.2 h
  have h2 := h1.2.2.1
  show tps B i < (tokC B.1 B.2.1 B.2.2 (tps B i)).2.2.2
  omega
theorem tP_le {B : eB} (hE : EV B) (i : Nat) : tP B i ≤ 700 := by
  have h1 := tok_same (b := B.1) (wd := B.2.1) (n := B.2.2) (p := tps B i) (old := 0) hE.1 (tps_le hE i) hE.2.1
  have h2 : tP B i ≤ (tokC B.1 B.2.1 B.2.2 (tps B i)).2.2.2 := h1.2.2.2.1
  have := h1.2.2.2.2.1
  have := hE.1
  omega
/-- the class's scanner at token i -/
def sC (B : eB) (i : Nat) (m : xM) : Prop := m 1 = B.1 ∧ m 4 = B.2.1 ∧ m 3 2 = Int32.ofNat B.2.2 ∧ m 3 3 = Int32.ofNat (tps B (i + 1)) ∧ m 3 4 = tK B i ∧ m 3 5 = tV B i ∧ m 3 6 = Int32.ofNat (tP B i)
theorem sC_row {B : eB} {i : Nat} {m m' : xM} (h : sC B i m) (h1 : m' 1 = m 1) (h4 : m' 4 = m 4) (h3 : m' 3 = m 3) : sC B i m' := by
  unfold sC
  rw [h1, h4, h3]
  exact h
theorem ct_advS {nf : Bool} {xs : List Int32} {d : Nat} {m : xM} {g : xL} {G : xG} {B : eB} {i : Nat} (hG : GS G) (hE : EV B) (hs : sC B i m) : CT nf xs d 77 [.ref 3] m g G (PF none g (fun m' => sC B (i + 1) m' ∧ ∀ a : Nat, ¬ a = 3 → m' a = m a)) := by
  refine (ct_adv (b := B.1) (wd := B.2.1) (n := B.2.2) (p := tps B (i + 1)) hG hE.1 hE.2.2.1 hs.1 hs.2.2.2.1 hs.2.2.1 hs.2.1 (tps_le hE _)).mono (fun r m' g' h => ?_)
  obtain ⟨rfl, rfl, rfl⟩ := h
  have hr : ∀ a : Nat, ¬ a = 3 → tkM m (tokC B.1 B.2.1 B.2.2 (tps B (i + 1))) a = m a := fun a ha => by
    unfold tkM
    rw [xu_row ha, xu_row ha, xu_row ha, xu_row ha]
  refine ⟨rfl, rfl, ⟨?_, ?_, ?_, ?_, ?_, ?_, ?_⟩, hr⟩
  · rw [hr 1 (by decide)]; exact hs.1
  · rw [hr 4 (by decide)]; exact hs.2.1
  · unfold tkM
    rw [xu_oth (by decide), xu_oth (by decide), xu_oth (by decide), xu_oth (by decide)]
    exact hs.2.2.1
  · unfold tkM
    rw [xu_same]
    rfl
  · unfold tkM
    rw [xu_oth (by decide), xu_same]
    rfl
  · unfold tkM
    rw [xu_oth (by decide), xu_oth (by decide), xu_same]
    rfl
  · unfold tkM
    rw [xu_oth (by decide), xu_oth (by decide), xu_oth (by decide), xu_same]
    rfl
/-! Tables. -/
/-- a table: its cells, columns, most rows; the rows that stand -/
def tbC (t c cols most : Nat) (rows : List (List Int32)) (m : xM) : Prop := m t 0 = Int32.ofNat cols ∧ m t 1 = Int32.ofNat most ∧ m t 3 = Int32.ofNat rows.length ∧ rows.length ≤ most ∧ ∀ r : Nat, r < rows.length → ∀ k : Nat, k < cols → m c (r * cols + k) = (rows.getD r []).getD k 0
theorem tbC_row {t c cols most : Nat} {rows : List (List Int32)} {m m' : xM} (h : tbC t c cols most rows m) (h1 : m' t = m t) (h2 : m' c = m c) : tbC t c cols most rows m' := by
  unfold tbC
  rw [h1, h2]
  exact h
/-- the first row that begins so -/
def fnd (v : Int32) : List (List Int32) → Nat → Option Nat
  | [], _ => none
  | r :: rs, i => if r.getD 0 0 = v then some i else fnd v rs (i + 1)
def oI (o : Option Nat) : Int32 := match o with
  | some i => Int32.ofNat i
  | none => -1
theorem mul_b {r cols k most : Nat} (h1 : r < most) (h2 : k < cols) (h3 : most ≤ 8) (h4 : cols ≤ 5) : r * cols + k < 2147483648 := by
  have := Nat.mul_le_mul (show r ≤ 8 by omega) h4
  omega
