/-! The reference's parser: its tokens as the class's; small methods. -/
theorem k32 {w : Nat} : (32 : Int32) + Int32.ofNat w = Int32.ofNat (32 + w) := xn_add (p := 32) (k := w)
theorem tr_end {k v so va : Int32} (h : TR k v so va) : so = 4 ↔ k = 0 := by
  rcases h with q | q | q | q | ⟨w, w1, q, q2, q3⟩ | ⟨q0, q⟩
  · rw [q.1, q.2]; decide
  · rw [q.1, q.2]; decide
  · rw [q.1, q.2.1]; decide
  · rw [q.1, q.2.1]; decide
  · rw [q2, q, k32]
    exact ⟨fun z => absurd z (by decide), fun z => by have := (xn_eq (b := 0) (by omega) (by decide)).mp z; omega⟩
  · rw [q0]
    rcases q with q | q | q | q | q | q | q | q | q | q | q | q | q <;> (rw [q.1]; decide)
theorem tr_num {k v so va : Int32} (h : TR k v so va) : so = 2 ↔ k = 2 := by
  rcases h with q | q | q | q | ⟨w, w1, q, q2, q3⟩ | ⟨q0, q⟩
  · rw [q.1, q.2]; decide
  · rw [q.1, q.2]; decide
  · exact ⟨fun _ => q.1, fun _ => q.2.1⟩
  · rw [q.1, q.2.1]; decide
  · rw [q2, q, k32]
    exact ⟨fun z => absurd z (by decide), fun z => by have := (xn_eq (b := 2) (by omega) (by decide)).mp z; omega⟩
  · rw [q0]
    rcases q with q | q | q | q | q | q | q | q | q | q | q | q | q <;> (rw [q.1]; decide)
theorem tr_nv {k v so va : Int32} (h : TR k v so va) (hk : k = 2) : nv v va := by
  rcases h with q | q | q | q | ⟨w, w1, q, q2, q3⟩ | ⟨q0, q⟩
  · rw [q.1] at hk; exact absurd hk (by decide)
  · rw [q.1] at hk; exact absurd hk (by decide)
  · exact q.2.2
  · rw [q.1] at hk; exact absurd hk (by decide)
  · rw [q, k32] at hk; have := (xn_eq (b := 2) (by omega) (by decide)).mp hk; omega
  · rcases q with q | q | q | q | q | q | q | q | q | q | q | q | q <;> (rw [q.1] at hk; exact absurd hk (by decide))
theorem tr_name {k v so va : Int32} (h : TR k v so va) : so = 1 ↔ k = 3 := by
  rcases h with q | q | q | q | ⟨w, w1, q, q2, q3⟩ | ⟨q0, q⟩
  · rw [q.1, q.2]; decide
  · rw [q.1, q.2]; decide
  · rw [q.1, q.2.1]; decide
  · rw [q.1, q.2.1]; decide
  · rw [q2, q, k32]
    exact ⟨fun z => absurd z (by decide), fun z => by have := (xn_eq (b := 3) (by omega) (by decide)).mp z; omega⟩
  · rw [q0]
    rcases q with q | q | q | q | q | q | q | q | q | q | q | q | q <;> (rw [q.1]; decide)
theorem tr_nm {k v so va : Int32} (h : TR k v so va) (hk : k = 3) : va = v := by
  rcases h with q | q | q | q | ⟨w, w1, q, q2, q3⟩ | ⟨q0, q⟩
  · rw [q.1] at hk; exact absurd hk (by decide)
  · rw [q.1] at hk; exact absurd hk (by decide)
  · rw [q.1] at hk; exact absurd hk (by decide)
  · exact q.2.2
  · rw [q, k32] at hk; have := (xn_eq (b := 3) (by omega) (by decide)).mp hk; omega
  · rcases q with q | q | q | q | q | q | q | q | q | q | q | q | q <;> (rw [q.1] at hk; exact absurd hk (by decide))
theorem tr_word {k v so va : Int32} (h : TR k v so va) {w : Nat} (hw : w < 22) : (so = 0 ∧ va = Int32.ofNat w) ↔ k = Int32.ofNat (32 + w) := by
  have kk : ∀ n : Nat, n < 22 → ¬ n = 32 + w := fun n hn => by omega
  rcases h with q | q | q | q | ⟨u, w1, q, q2, q3⟩ | ⟨q0, q⟩
  · rw [q.1, q.2]; exact ⟨fun z => absurd z.1 (by decide), fun z => absurd ((xn_eq (a := 0) (by decide) (by omega)).mp z) (by omega)⟩
  · rw [q.1, q.2]; exact ⟨fun z => absurd z.1 (by decide), fun z => absurd ((xn_eq (a := 1) (by decide) (by omega)).mp z) (by omega)⟩
  · rw [q.1, q.2.1]; exact ⟨fun z => absurd z.1 (by decide), fun z => absurd ((xn_eq (a := 2) (by decide) (by omega)).mp z) (by omega)⟩
  · rw [q.1, q.2.1]; exact ⟨fun z => absurd z.1 (by decide), fun z => absurd ((xn_eq (a := 3) (by decide) (by omega)).mp z) (by omega)⟩
  · rw [q2, q3, q, k32, xn_eq (by omega) (by omega), xn_eq (by omega) (by omega)]
    exact ⟨fun z => by rw [z.2], fun z => ⟨rfl, by omega⟩⟩
  · refine ⟨fun z => by rw [q0] at z; exact absurd z.1 (by decide), fun z => ?_⟩
    have hz := congrArg Int32.toInt z
    rw [xn_int (by omega)] at hz
    rcases q with q | q | q | q | q | q | q | q | q | q | q | q | q <;> (rw [q.1] at hz; exact absurd hz (by simp; omega))
theorem tr_wrd {k v so va : Int32} (h : TR k v so va) : so = 0 ↔ 32 ≤ k.toInt := by
  rcases h with q | q | q | q | ⟨u, w1, q, q2, q3⟩ | ⟨q0, q⟩
  · rw [q.1, q.2]; decide
  · rw [q.1, q.2]; decide
  · rw [q.1, q.2.1]; decide
  · rw [q.1, q.2.1]; decide
  · rw [q2, q, k32, xn_int (by omega)]
    exact ⟨fun _ => by omega, fun _ => rfl⟩
  · rw [q0]
    rcases q with q | q | q | q | q | q | q | q | q | q | q | q | q <;> (rw [q.1]; decide)
theorem tr_wv {k v so va : Int32} (h : TR k v so va) (hk : 32 ≤ k.toInt) : ∃ w : Nat, w < 22 ∧ va = Int32.ofNat w ∧ k = Int32.ofNat (32 + w) := by
  rcases h with q | q | q | q | ⟨u, w1, q, q2, q3⟩ | ⟨q0, q⟩
  · rw [q.1] at hk; exact absurd hk (by decide)
  · rw [q.1] at hk; exact absurd hk (by decide)
  · rw [q.1] at hk; exact absurd hk (by decide)
  · rw [q.1] at hk; exact absurd hk (by decide)
  · exact ⟨u, w1, q3, by rw [q, k32]⟩
  · rcases q with q | q | q | q | q | q | q | q | q | q | q | q | q <;> (rw [q.1] at hk; exact absurd hk (by decide))
theorem tr_s59 {k v so va : Int32} (h : TR k v so va) : (so = 3 ∧ va = 59) ↔ k = 4 := by
  rcases h with q | q | q | q | ⟨w, w1, q, q2, q3⟩ | ⟨q0, q⟩
  · rw [q.1, q.2]; exact ⟨fun z => absurd z.1 (by decide), fun z => absurd z (by decide)⟩
  · rw [q.1, q.2]; exact ⟨fun z => absurd z.1 (by decide), fun z => absurd z (by decide)⟩
  · rw [q.1, q.2.1]; exact ⟨fun z => absurd z.1 (by decide), fun z => absurd z (by decide)⟩
  · rw [q.1, q.2.1]; exact ⟨fun z => absurd z.1 (by decide), fun z => absurd z (by decide)⟩
  · rw [q2, q, k32]
    exact ⟨fun z => absurd z.1 (by decide), fun z => by have := (xn_eq (b := 4) (by omega) (by decide)).mp z; omega⟩
  · rw [q0]
    rcases q with q | q | q | q | q | q | q | q | q | q | q | q | q <;> (rw [q.1, q.2]; decide)

theorem tr_s40 {k v so va : Int32} (h : TR k v so va) : (so = 3 ∧ va = 40) ↔ k = 5 := by
  rcases h with q | q | q | q | ⟨w, w1, q, q2, q3⟩ | ⟨q0, q⟩
  · rw [q.1, q.2]; exact ⟨fun z => absurd z.1 (by decide), fun z => absurd z (by decide)⟩
  · rw [q.1, q.2]; exact ⟨fun z => absurd z.1 (by decide), fun z => absurd z (by decide)⟩
  · rw [q.1, q.2.1]; exact ⟨fun z => absurd z.1 (by decide), fun z => absurd z (by decide)⟩
  · rw [q.1, q.2.1]; exact ⟨fun z => absurd z.1 (by decide), fun z => absurd z (by decide)⟩
  · rw [q2, q, k32]
    exact ⟨fun z => absurd z.1 (by decide), fun z => by have := (xn_eq (b := 5) (by omega) (by decide)).mp z; omega⟩
  · rw [q0]
    rcases q with q | q | q | q | q | q | q | q | q | q | q | q | q <;> (rw [q.1, q.2]; decide)

theorem tr_s41 {k v so va : Int32} (h : TR k v so va) : (so = 3 ∧ va = 41) ↔ k = 6 := by
  rcases h with q | q | q | q | ⟨w, w1, q, q2, q3⟩ | ⟨q0, q⟩
  · rw [q.1, q.2]; exact ⟨fun z => absurd z.1 (by decide), fun z => absurd z (by decide)⟩
  · rw [q.1, q.2]; exact ⟨fun z => absurd z.1 (by decide), fun z => absurd z (by decide)⟩
  · rw [q.1, q.2.1]; exact ⟨fun z => absurd z.1 (by decide), fun z => absurd z (by decide)⟩
  · rw [q.1, q.2.1]; exact ⟨fun z => absurd z.1 (by decide), fun z => absurd z (by decide)⟩
  · rw [q2, q, k32]
    exact ⟨fun z => absurd z.1 (by decide), fun z => by have := (xn_eq (b := 6) (by omega) (by decide)).mp z; omega⟩
  · rw [q0]
    rcases q with q | q | q | q | q | q | q | q | q | q | q | q | q <;> (rw [q.1, q.2]; decide)

theorem tr_s43 {k v so va : Int32} (h : TR k v so va) : (so = 3 ∧ va = 43) ↔ k = 10 := by
  rcases h with q | q | q | q | ⟨w, w1, q, q2, q3⟩ | ⟨q0, q⟩
  · rw [q.1, q.2]; exact ⟨fun z => absurd z.1 (by decide), fun z => absurd z (by decide)⟩
  · rw [q.1, q.2]; exact ⟨fun z => absurd z.1 (by decide), fun z => absurd z (by decide)⟩
  · rw [q.1, q.2.1]; exact ⟨fun z => absurd z.1 (by decide), fun z => absurd z (by decide)⟩
  · rw [q.1, q.2.1]; exact ⟨fun z => absurd z.1 (by decide), fun z => absurd z (by decide)⟩
  · rw [q2, q, k32]
    exact ⟨fun z => absurd z.1 (by decide), fun z => by have := (xn_eq (b := 10) (by omega) (by decide)).mp z; omega⟩
  · rw [q0]
    rcases q with q | q | q | q | q | q | q | q | q | q | q | q | q <;> (rw [q.1, q.2]; decide)

theorem tr_s45 {k v so va : Int32} (h : TR k v so va) : (so = 3 ∧ va = 45) ↔ k = 11 := by
  rcases h with q | q | q | q | ⟨w, w1, q, q2, q3⟩ | ⟨q0, q⟩
  · rw [q.1, q.2]; exact ⟨fun z => absurd z.1 (by decide), fun z => absurd z (by decide)⟩
  · rw [q.1, q.2]; exact ⟨fun z => absurd z.1 (by decide), fun z => absurd z (by decide)⟩
  · rw [q.1, q.2.1]; exact ⟨fun z => absurd z.1 (by decide), fun z => absurd z (by decide)⟩
  · rw [q.1, q.2.1]; exact ⟨fun z => absurd z.1 (by decide), fun z => absurd z (by decide)⟩
  · rw [q2, q, k32]
    exact ⟨fun z => absurd z.1 (by decide), fun z => by have := (xn_eq (b := 11) (by omega) (by decide)).mp z; omega⟩
  · rw [q0]
    rcases q with q | q | q | q | q | q | q | q | q | q | q | q | q <;> (rw [q.1, q.2]; decide)

theorem tr_s42 {k v so va : Int32} (h : TR k v so va) : (so = 3 ∧ va = 42) ↔ k = 12 := by
  rcases h with q | q | q | q | ⟨w, w1, q, q2, q3⟩ | ⟨q0, q⟩
  · rw [q.1, q.2]; exact ⟨fun z => absurd z.1 (by decide), fun z => absurd z (by decide)⟩
  · rw [q.1, q.2]; exact ⟨fun z => absurd z.1 (by decide), fun z => absurd z (by decide)⟩
  · rw [q.1, q.2.1]; exact ⟨fun z => absurd z.1 (by decide), fun z => absurd z (by decide)⟩
  · rw [q.1, q.2.1]; exact ⟨fun z => absurd z.1 (by decide), fun z => absurd z (by decide)⟩
  · rw [q2, q, k32]
    exact ⟨fun z => absurd z.1 (by decide), fun z => by have := (xn_eq (b := 12) (by omega) (by decide)).mp z; omega⟩
  · rw [q0]
    rcases q with q | q | q | q | q | q | q | q | q | q | q | q | q <;> (rw [q.1, q.2]; decide)

theorem tr_s47 {k v so va : Int32} (h : TR k v so va) : (so = 3 ∧ va = 47) ↔ k = 13 := by
  rcases h with q | q | q | q | ⟨w, w1, q, q2, q3⟩ | ⟨q0, q⟩
  · rw [q.1, q.2]; exact ⟨fun z => absurd z.1 (by decide), fun z => absurd z (by decide)⟩
  · rw [q.1, q.2]; exact ⟨fun z => absurd z.1 (by decide), fun z => absurd z (by decide)⟩
  · rw [q.1, q.2.1]; exact ⟨fun z => absurd z.1 (by decide), fun z => absurd z (by decide)⟩
  · rw [q.1, q.2.1]; exact ⟨fun z => absurd z.1 (by decide), fun z => absurd z (by decide)⟩
  · rw [q2, q, k32]
    exact ⟨fun z => absurd z.1 (by decide), fun z => by have := (xn_eq (b := 13) (by omega) (by decide)).mp z; omega⟩
  · rw [q0]
    rcases q with q | q | q | q | q | q | q | q | q | q | q | q | q <;> (rw [q.1, q.2]; decide)

theorem tr_cmp {k v so va : Int32} (h : TR k v so va) : (so = 3 ∧ (va = 60 ∨ va = 62 ∨ va = 61 ∨ 256 ≤ va.toInt)) ↔ (14 ≤ k.toInt ∧ k.toInt ≤ 19) := by
  rcases h with q | q | q | q | ⟨w, w1, q, q2, q3⟩ | ⟨q0, q⟩
  · rw [q.1, q.2]; exact ⟨fun z => absurd z.1 (by decide), fun z => absurd z (by decide)⟩
  · rw [q.1, q.2]; exact ⟨fun z => absurd z.1 (by decide), fun z => absurd z (by decide)⟩
  · rw [q.1, q.2.1]; exact ⟨fun z => absurd z.1 (by decide), fun z => absurd z (by decide)⟩
  · rw [q.1, q.2.1]; exact ⟨fun z => absurd z.1 (by decide), fun z => absurd z (by decide)⟩
  · rw [q2, q, k32, xn_int (by omega)]
    exact ⟨fun z => absurd z.1 (by decide), fun z => by omega⟩
  · rw [q0]
    rcases q with q | q | q | q | q | q | q | q | q | q | q | q | q <;> (rw [q.1, q.2]; decide)

/-- the reference's scanner at token i -/
def sR (B : eB) (i : Nat) (m : xM) : Prop := m 129 = B.1 ∧ m 128 23 = Int32.ofNat B.2.2 ∧ m 128 24 = Int32.ofNat (tps B (i + 1)) ∧ m 128 25 = Int32.ofNat (tP B i) ∧ TR (tK B i) (tV B i) (m 128 26) (m 128 27)
/-- where the reference's parser is: refused, or token, knots counted, brackets open -/
abbrev eO : Type := (Nat × Nat) ⊕ (Nat × Nat × Nat)
def sX (B : eB) (o : eO) (m : xM) : Prop := match o with
  | .inl e => m 128 28 = Int32.ofNat e.1 ∧ ¬ m 128 28 = 0 ∧ m 128 29 = Int32.ofNat (tP B e.2)
  | .inr s => m 128 28 = 0 ∧ sR B s.1 m ∧ m 128 33 = Int32.ofNat s.2.1 ∧ s.2.1 ≤ 64 ∧ m 128 32 = Int32.ofNat s.2.2 ∧ s.2.2 ≤ 8 ∧ m 128 29 = -1
/-- what the parser of an expression leaves as it is -/
def rf (m m' : xM) : Prop := (∀ a : Nat, ¬ a = 128 → ¬ a = 130 → ¬ a = 146 → ¬ a = 147 → m' a = m a) ∧ (∀ k : Nat, ¬ (24 ≤ k ∧ k ≤ 29) → ¬ k = 32 → ¬ k = 33 → m' 128 k = m 128 k) ∧ ∀ k : Nat, ¬ k = 17 → m' 130 k = m 130 k
theorem rf.rfl' {m : xM} : rf m m := ⟨fun _ _ _ _ _ => rfl, fun _ _ _ _ => rfl, fun _ _ => rfl⟩
theorem rf.trans {a b c : xM} (h1 : rf a b) (h2 : rf b c) : rf a c := ⟨fun x p q r s => (h2.1 x p q r s).trans (h1.1 x p q r s), fun k p q r => (h2.2.1 k p q r).trans (h1.2.1 k p q r), fun k p => (h2.2.2 k p).trans (h1.2.2 k p)⟩
def isK (B : eB) (o : eO) (k : Int32) : Bool := match o with
  | .inl _ => false
  | .inr s => decide (tK B s.1 = k)
def knF (o : eO) : eO := match o with
  | .inl e => .inl e
  | .inr s => if s.2.1 = 64 then .inl (2, s.1) else .inr (s.1, s.2.1 + 1, s.2.2)
def goF (o : eO) : eO := match o with
  | .inl e => .inl e
  | .inr s => .inr (s.1 + 1, s.2)
/-- refused, if nothing was before -/
def wrF (f : Nat) (o : eO) : eO := match o with
  | .inl e => .inl e
  | .inr s => .inl (f, s.1)
theorem ct_tokP {nf : Bool} {xs : List Int32} {d : Nat} {m : xM} {g : xL} {G : xG} {B : eB} {i : Nat} (hG : GM G) (hE : EV B) (h1 : m 129 = B.1) (h2 : m 128 23 = Int32.ofNat B.2.2) (h3 : m 128 24 = Int32.ofNat (tps B i)) : CT nf xs d 154 [.ref 128] m g G (PF none g (fun m' => sR B i m' ∧ (∀ a : Nat, ¬ a = 128 → m' a = m a) ∧ ∀ k : Nat, ¬ (24 ≤ k ∧ k ≤ 27) → m' 128 k = m 128 k)) := by
  refine (ct_tok (b := B.1) (n := B.2.2) (p := tps B i) hG hE.1 hE.2.2.1 hE.2.2.2 h1 h3 h2 (tps_le hE _)).mono (fun r m' g' h => ?_)
  obtain ⟨rfl, rfl, rfl⟩ := h
  have ht := tok_same (b := B.1) (wd := B.2.1) (n := B.2.2) (p := tps B i) (old := m 128 27) hE.1 (tps_le hE _) hE.2.1
  have hk : ∀ k : Nat, ¬ (24 ≤ k ∧ k ≤ 27) → tkR m (tokM B.1 B.2.2 (tps B i) (m 128 27)) 128 k = m 128 k := fun k hk => by
    unfold tkR
    rw [xu_oth (by omega), xu_oth (by omega), xu_oth (by omega), xu_oth (by omega)]
  have hr : ∀ a : Nat, ¬ a = 128 → tkR m (tokM B.1 B.2.2 (tps B i) (m 128 27)) a = m a := fun a ha => by
    unfold tkR
    rw [xu_row ha, xu_row ha, xu_row ha, xu_row ha]
  refine ⟨rfl, rfl, ⟨by rw [hr 129 (by decide)]; exact h1, by rw [hk 23 (by omega)]; exact h2, ?_, ?_, ?_⟩, hr, hk⟩
  · unfold tkR
    rw [xu_same, ht.2.1]
    rfl
  · unfold tkR
    rw [xu_oth (by decide), xu_oth (by decide), xu_oth (by decide), xu_same, ht.2.1]
    rfl
  · have e1 : tkR m (tokM B.1 B.2.2 (tps B i) (m 128 27)) 128 26 = (tokM B.1 B.2.2 (tps B i) (m 128 27)).1 := by
      unfold tkR
      rw [xu_oth (by decide), xu_oth (by decide), xu_same]
    have e2 : tkR m (tokM B.1 B.2.2 (tps B i) (m 128 27)) 128 27 = (tokM B.1 B.2.2 (tps B i) (m 128 27)).2.1 := by
      unfold tkR
      rw [xu_oth (by decide), xu_same]
    rw [e1, e2]
    exact ht.1
/-- the next token, from a good place -/
theorem ct_tokX {nf : Bool} {xs : List Int32} {d : Nat} {m : xM} {g : xL} {G : xG} {B : eB} {s : Nat × Nat × Nat} (hG : GM G) (hE : EV B) (h : sX B (.inr s) m) : CT nf xs d 154 [.ref 128] m g G (PF none g (fun m' => sX B (.inr (s.1 + 1, s.2)) m' ∧ rf m m')) := by
  refine (ct_tokP (B := B) (i := s.1 + 1) hG hE h.2.1.1 h.2.1.2.1 h.2.1.2.2.1).mono (fun r m' g' q => ?_)
  obtain ⟨rfl, rfl, q1, q2, q3⟩ := q
  exact ⟨rfl, rfl, ⟨by rw [q3 28 (by omega)]; exact h.1, q1, by rw [q3 33 (by omega)]; exact h.2.2.1, h.2.2.2.1, by rw [q3 32 (by omega)]; exact h.2.2.2.2.1, h.2.2.2.2.2.1, by rw [q3 29 (by omega)]; exact h.2.2.2.2.2.2⟩, fun a a1 _ _ _ => q2 a a1, fun k k1 _ _ => q3 k (by omega), fun k _ => by rw [q2 130 (by decide)]⟩
theorem ofN_0 {k : Nat} (hk : k < 2147483648) (h : ¬ k = 0) : ¬ Int32.ofNat k = 0 := fun q => h ((xn_eq (b := 0) hk (by decide)).mp q)
theorem ct_wrong {nf : Bool} {xs : List Int32} {d : Nat} {m : xM} {g : xL} {G : xG} {B : eB} {o : eO} {f : Nat} (h : sX B o m) (hf : ¬ f = 0) (hf2 : f < 9) : CT nf xs d 158 [.ref 128, .int (Int32.ofNat f)] m g G (PF none g (fun m' => sX B (wrF f o) m' ∧ rf m m')) := by
  refine CT.of (c := 11) (ini := false) (nL := 2) (rt := none) (tab := zt158) rfl (fun d' r h' N hd hr => ?_)
  replace hr : RR nf xs d' 11 false 2 (none) zt158 G r h' N (0, [(0, .ref 128), (1, .int (Int32.ofNat f))], [], m, g) := hr
  replace hr := hr.go (s_aload_n t158_0 rfl)
  replace hr := hr.go (s_getf t158_1)
  rcases hr.zEq t158_4 with ⟨b4, hr⟩ | ⟨b4, hr⟩
  · replace hr := hr.go (s_aload_n t158_8 rfl)
    replace hr := hr.go (s_iload_n t158_9 rfl)
    replace hr := hr.go (s_putf t158_10)
    replace hr := hr.go (s_aload_n t158_13 rfl)
    replace hr := hr.go (s_aload_n t158_14 rfl)
    replace hr := hr.go (s_getf t158_15)
    replace hr := hr.go (s_putf t158_18)
    obtain ⟨rfl, hs⟩ := hr.ret t158_21
    cases o with
    | inl e => exact absurd b4 h.2.1
    | inr t =>
      refine ⟨_, _, hs, rfl, rfl, ⟨?_, ?_, ?_⟩, fun a a1 _ _ _ => by rw [xu_row a1, xu_row a1], fun k k1 _ _ => by rw [xu_oth (by omega), xu_oth (by omega)], fun k _ => by rw [xu_row (by decide), xu_row (by decide)]⟩
      · rw [xu_oth (by decide), xu_same]
      · rw [xu_oth (by decide), xu_same]; exact ofN_0 (by omega) hf
      · rw [xu_same, xu_oth (by decide)]; exact h.2.1.2.2.2.1
  · obtain ⟨rfl, hs⟩ := hr.ret t158_7
    cases o with
    | inl e => exact ⟨_, _, hs, rfl, rfl, h, rf.rfl'⟩
    | inr t => exact absurd h.1 b4

theorem ct_isWord {nf : Bool} {xs : List Int32} {d : Nat} {m : xM} {g : xL} {G : xG} {B : eB} {o : eO} {w : Nat} (h : sX B o m) (hw : w < 22) : CT nf xs d 159 [.ref 128, .int (Int32.ofNat w)] m g G (PE (some (.int (bI (isK B o (Int32.ofNat (32 + w)))))) m g) := by
  refine CT.of (c := 11) (ini := false) (nL := 2) (rt := some .boolean) (tab := zt159) rfl (fun d' r h' N hd hr => ?_)
  replace hr : RR nf xs d' 11 false 2 (some .boolean) zt159 G r h' N (0, [(0, .ref 128), (1, .int (Int32.ofNat w))], [], m, g) := hr
  have k1 : (1 : Int32).toInt = 1 := rfl
  replace hr := hr.go (s_aload_n t159_0 rfl)
  replace hr := hr.go (s_getf t159_1)
  rcases hr.zNe t159_4 with ⟨b4, hr⟩ | ⟨b4, hr⟩
  · replace hr := hr.go (s_k t159_26)
    obtain ⟨rfl, hs⟩ := hr.iret t159_27
    cases o with
    | inl e => exact ⟨_, _, hs, rfl, rfl, rfl⟩
    | inr t => exact absurd h.1 b4
  · replace hr := hr.go (s_aload_n t159_7 rfl)
    replace hr := hr.go (s_getf t159_8)
    rcases hr.zNe t159_11 with ⟨b11, hr⟩ | ⟨b11, hr⟩
    · replace hr := hr.go (s_k t159_26)
      obtain ⟨rfl, hs⟩ := hr.iret t159_27
      cases o with
      | inl e => exact absurd b4 h.2.1
      | inr t => exact ⟨_, _, hs, by show _ = some (Value.int (bI (decide (tK B t.1 = _)))); rw [decide_eq_false (fun q => b11 ((tr_word h.2.1.2.2.2.2 hw).mpr q).1)]; rfl, rfl, rfl⟩
    · replace hr := hr.go (s_aload_n t159_14 rfl)
      replace hr := hr.go (s_getf t159_15)
      replace hr := hr.go (s_iload_n t159_18 rfl)
      rcases hr.bNe t159_19 with ⟨b19, hr⟩ | ⟨b19, hr⟩
      · replace hr := hr.go (s_k t159_26)
        obtain ⟨rfl, hs⟩ := hr.iret t159_27
        cases o with
        | inl e => exact absurd b4 h.2.1
        | inr t => exact ⟨_, _, hs, by show _ = some (Value.int (bI (decide (tK B t.1 = _)))); rw [decide_eq_false (fun q => b19 ((tr_word h.2.1.2.2.2.2 hw).mpr q).2)]; rfl, rfl, rfl⟩
      · replace hr := hr.go (s_k t159_22)
        replace hr := hr.go (s_goto t159_23)
        obtain ⟨rfl, hs⟩ := hr.iret t159_27
        cases o with
        | inl e => exact absurd b4 h.2.1
        | inr t => exact ⟨_, _, hs, by show _ = some (Value.int (bI (decide (tK B t.1 = _)))); rw [decide_eq_true ((tr_word h.2.1.2.2.2.2 hw).mp ⟨b11, b19⟩)]; rfl, rfl, rfl⟩

theorem ct_isSign {nf : Bool} {xs : List Int32} {d : Nat} {m : xM} {g : xL} {G : xG} {B : eB} {o : eO} {c kc : Int32} (h : sX B o m) (hk : ∀ k v so va : Int32, TR k v so va → ((so = 3 ∧ va = c) ↔ k = kc)) : CT nf xs d 160 [.ref 128, .int c] m g G (PE (some (.int (bI (isK B o kc)))) m g) := by
  refine CT.of (c := 11) (ini := false) (nL := 2) (rt := some .boolean) (tab := zt160) rfl (fun d' r h' N hd hr => ?_)
  replace hr : RR nf xs d' 11 false 2 (some .boolean) zt160 G r h' N (0, [(0, .ref 128), (1, .int c)], [], m, g) := hr
  have k1 : (1 : Int32).toInt = 1 := rfl
  have k3 : (3 : Int32).toInt = 3 := rfl
  replace hr := hr.go (s_aload_n t160_0 rfl)
  replace hr := hr.go (s_getf t160_1)
  rcases hr.zNe t160_4 with ⟨b4, hr⟩ | ⟨b4, hr⟩
  · replace hr := hr.go (s_k t160_27)
    obtain ⟨rfl, hs⟩ := hr.iret t160_28
    cases o with
    | inl e => exact ⟨_, _, hs, rfl, rfl, rfl⟩
    | inr t => exact absurd h.1 b4
  · replace hr := hr.go (s_aload_n t160_7 rfl)
    replace hr := hr.go (s_getf t160_8)
    replace hr := hr.go (s_k t160_11)
    rcases hr.bNe t160_12 with ⟨b12, hr⟩ | ⟨b12, hr⟩
    · replace hr := hr.go (s_k t160_27)
      obtain ⟨rfl, hs⟩ := hr.iret t160_28
      cases o with
      | inl e => exact absurd b4 h.2.1
      | inr t => exact ⟨_, _, hs, by show _ = some (Value.int (bI (decide (tK B t.1 = _)))); rw [decide_eq_false (fun q => b12 ((hk _ _ _ _ h.2.1.2.2.2.2).mpr q).1)]; rfl, rfl, rfl⟩
    · replace hr := hr.go (s_aload_n t160_15 rfl)
      replace hr := hr.go (s_getf t160_16)
      replace hr := hr.go (s_iload_n t160_19 rfl)
      rcases hr.bNe t160_20 with ⟨b20, hr⟩ | ⟨b20, hr⟩
      · replace hr := hr.go (s_k t160_27)
        obtain ⟨rfl, hs⟩ := hr.iret t160_28
        cases o with
        | inl e => exact absurd b4 h.2.1
        | inr t => exact ⟨_, _, hs, by show _ = some (Value.int (bI (decide (tK B t.1 = _)))); rw [decide_eq_false (fun q => b20 ((hk _ _ _ _ h.2.1.2.2.2.2).mpr q).2)]; rfl, rfl, rfl⟩
      · replace hr := hr.go (s_k t160_23)
        replace hr := hr.go (s_goto t160_24)
        obtain ⟨rfl, hs⟩ := hr.iret t160_28
        cases o with
        | inl e => exact absurd b4 h.2.1
        | inr t => exact ⟨_, _, hs, by show _ = some (Value.int (bI (decide (tK B t.1 = _)))); rw [decide_eq_true ((hk _ _ _ _ h.2.1.2.2.2.2).mp ⟨b12, b20⟩)]; rfl, rfl, rfl⟩

theorem ct_goOn {nf : Bool} {xs : List Int32} {d : Nat} {m : xM} {g : xL} {G : xG} {B : eB} {o : eO} (hG : GM G) (hE : EV B) (h : sX B o m) : CT nf xs d 161 [.ref 128] m g G (PF none g (fun m' => sX B (goF o) m' ∧ rf m m')) := by
  refine CT.of (c := 11) (ini := false) (nL := 1) (rt := none) (tab := zt161) rfl (fun d' r h' N hd hr => ?_)
  replace hr : RR nf xs d' 11 false 1 (none) zt161 G r h' N (0, [(0, .ref 128)], [], m, g) := hr
  replace hr := hr.go (s_aload_n t161_0 rfl)
  replace hr := hr.go (s_getf t161_1)
  cases o with
  | inl e =>
    rcases hr.zNe t161_4 with ⟨b4, hr⟩ | ⟨b4, hr⟩
    · obtain ⟨rfl, hs⟩ := hr.ret t161_11
      exact ⟨_, _, hs, rfl, rfl, h, rf.rfl'⟩
    · exact absurd b4 h.2.1
  | inr t =>
    rcases hr.zNe t161_4 with ⟨b4, hr⟩ | ⟨b4, hr⟩
    · exact absurd h.1 b4
    · replace hr := hr.go (s_aload_n t161_7 rfl)
      obtain ⟨m2, ⟨h2, hf2⟩, hr⟩ := hr.fvN t161_8 rfl rfl (ct_tokX hG hE h)
      obtain ⟨rfl, hs⟩ := hr.ret t161_11
      exact ⟨_, _, hs, rfl, rfl, h2, hf2⟩
theorem ct_knot {nf : Bool} {xs : List Int32} {d : Nat} {m : xM} {g : xL} {G : xG} {B : eB} {o : eO} (h : sX B o m) : CT nf xs d 173 [.ref 128] m g G (PF none g (fun m' => sX B (knF o) m' ∧ rf m m')) := by
  refine CT.of (c := 11) (ini := false) (nL := 1) (rt := none) (tab := zt173) rfl (fun d' r h' N hd hr => ?_)
  replace hr : RR nf xs d' 11 false 1 (none) zt173 G r h' N (0, [(0, .ref 128)], [], m, g) := hr
  have k1 : (1 : Int32).toInt = 1 := rfl
  have k2 : (2 : Int32).toInt = 2 := rfl
  have k64 : (64 : Int32).toInt = 64 := rfl
  replace hr := hr.go (s_aload_n t173_0 rfl)
  replace hr := hr.go (s_getf t173_1)
  rcases hr.zEq t173_4 with ⟨b4, hr⟩ | ⟨b4, hr⟩
  · replace hr := hr.go (s_aload_n t173_8 rfl)
    replace hr := hr.go (s_getf t173_9)
    replace hr := hr.go (s_k t173_12)
    rcases hr.bNe t173_14 with ⟨b14, hr⟩ | ⟨b14, hr⟩
    · replace hr := hr.go (s_aload_n t173_25 rfl)
      replace hr := hr.go (s_dup t173_26 rfl)
      replace hr := hr.go (s_getf t173_27)
      replace hr := hr.go (s_k t173_30)
      replace hr := hr.go (s_iadd t173_31)
      replace hr := hr.go (s_putf t173_32)
      obtain ⟨rfl, hs⟩ := hr.ret t173_35
      cases o with
      | inl e => exact absurd b4 h.2.1
      | inr t =>
        have hn : ¬ t.2.1 = 64 := fun q => b14 (by rw [h.2.2.1, q]; rfl)
        refine ⟨_, _, hs, rfl, rfl, ?_, fun a a1 _ _ _ => by rw [xu_row a1], fun k _ _ k3 => by rw [xu_oth (by omega)], fun k _ => by rw [xu_row (by decide)]⟩
        show sX B (if t.2.1 = 64 then .inl (2, t.1) else .inr (t.1, t.2.1 + 1, t.2.2)) _
        rw [if_neg hn]
        obtain ⟨g1, ⟨g2, g3, g4, g5, g6⟩, g7, g8, g9, g10, g11⟩ := h
        exact ⟨by rw [xu_oth (by decide)]; exact g1, ⟨by rw [xu_row (by decide)]; exact g2, by rw [xu_oth (by decide)]; exact g3, by rw [xu_oth (by decide)]; exact g4, by rw [xu_oth (by decide)]; exact g5, by rw [xu_oth (by decide), xu_oth (by decide)]; exact g6⟩, by rw [xu_same, g7, xn_1], by dsimp only; omega, by rw [xu_oth (by decide)]; exact g9, g10, by rw [xu_oth (by decide)]; exact g11⟩
    · replace hr := hr.go (s_aload_n t173_17 rfl)
      replace hr := hr.go (s_k t173_18)
      obtain ⟨m2, ⟨h2, hf2⟩, hr⟩ := hr.fvN t173_19 rfl rfl (ct_wrong (f := 2) h (by decide) (by decide))
      replace hr := hr.go (s_goto t173_22)
      obtain ⟨rfl, hs⟩ := hr.ret t173_35
      cases o with
      | inl e => exact absurd b4 h.2.1
      | inr t =>
        refine ⟨_, _, hs, rfl, rfl, ?_, hf2⟩
        show sX B (if t.2.1 = 64 then .inl (2, t.1) else .inr (t.1, t.2.1 + 1, t.2.2)) _
        rw [if_pos (by
          have := h.2.2.1 ▸ b14
          exact (xn_eq (b := 64) (by have := h.2.2.2.1; omega) (by decide)).mp this)]
        exact h2
  · obtain ⟨rfl, hs⟩ := hr.ret t173_7
    cases o with
    | inl e => exact ⟨_, _, hs, rfl, rfl, h, rf.rfl'⟩
    | inr t => exact absurd h.1 b4

theorem ct_fresher {nf : Bool} {xs : List Int32} {d : Nat} {m : xM} {g : xL} {G : xG} {x : Int32} (hN : G.1 128 3 = some 130) (hL : G.2 130 = (0, 1, 18)) : CT nf xs d 165 [.ref 128, .int x] m g G (PE (some (.int (m 130 (9 + x).toNatClampNeg))) m g) := by
  refine CT.of (c := 11) (ini := false) (nL := 2) (rt := some .int) (tab := zt165) rfl (fun d' r h' N hd hr => ?_)
  replace hr : RR nf xs d' 11 false 2 (some .int) zt165 G r h' N (0, [(0, .ref 128), (1, .int x)], [], m, g) := hr
  have k9 : (9 : Int32).toInt = 9 := rfl
  replace hr := hr.go (s_aload_n t165_0 rfl)
  replace hr := hr.go (s_getr t165_1 (hN))
  replace hr := hr.go (s_k t165_4)
  replace hr := hr.go (s_iload_n t165_6 rfl)
  replace hr := hr.go (s_iadd t165_7)
  replace hr := hr.go (s_iaload t165_8 (hL))
  obtain ⟨rfl, hs⟩ := hr.iret t165_9
  exact ⟨_, _, hs, rfl, rfl, rfl⟩

theorem ct_reads {nf : Bool} {xs : List Int32} {d : Nat} {m : xM} {g : xL} {G : xG} {x y : Int32} (hN : G.1 128 3 = some 130) : CT nf xs d 166 [.ref 128, .int x, .int y] m g G (PE none (xu m 130 (9 + x).toNatClampNeg y) g) := by
  refine CT.of (c := 11) (ini := false) (nL := 3) (rt := none) (tab := zt166) rfl (fun d' r h' N hd hr => ?_)
  replace hr : RR nf xs d' 11 false 3 (none) zt166 G r h' N (0, [(0, .ref 128), (1, .int x), (2, .int y)], [], m, g) := hr
  have k9 : (9 : Int32).toInt = 9 := rfl
  replace hr := hr.go (s_aload_n t166_0 rfl)
  replace hr := hr.go (s_getr t166_1 (hN))
  replace hr := hr.go (s_k t166_4)
  replace hr := hr.go (s_iload_n t166_6 rfl)
  replace hr := hr.go (s_iadd t166_7)
  replace hr := hr.go (s_iload_n t166_8 rfl)
  replace hr := hr.go (s_iastore t166_9)
  obtain ⟨rfl, hs⟩ := hr.ret t166_10
  exact ⟨_, _, hs, rfl, rfl, rfl⟩

def GK (G : xG) : Prop := G.1 128 3 = some 130 ∧ G.2 130 = (0, 1, 18) ∧ G.1 128 19 = some 146 ∧ G.1 128 20 = some 147
theorem sX_row {B : eB} {o : eO} {m m' : xM} (h : sX B o m) (h1 : m' 128 = m 128) (h2 : m' 129 = m 129) : sX B o m' := by
  cases o with
  | inl e =>
    have h : m 128 28 = Int32.ofNat e.1 ∧ ¬ m 128 28 = 0 ∧ m 128 29 = Int32.ofNat (tP B e.2) := h
    show m' 128 28 = Int32.ofNat e.1 ∧ ¬ m' 128 28 = 0 ∧ m' 128 29 = Int32.ofNat (tP B e.2)
    rw [h1]
    exact h
  | inr s =>
    obtain ⟨g1, ⟨g2, g3⟩, g4⟩ := h
    exact ⟨by rw [h1]; exact g1, ⟨by rw [h2]; exact g2, by rw [h1]; exact g3⟩, by rw [h1]; exact g4⟩
theorem ct_puts {nf : Bool} {xs : List Int32} {d : Nat} {m : xM} {g : xL} {G : xG} {B : eB} {o : eO} {x y : Int32} (hN : GK G) (h : sX B o m) : CT nf xs d 172 [.ref 128, .int x, .int y] m g G (PF none g (fun m' => sX B o m' ∧ rf m m')) := by
  refine CT.of (c := 11) (ini := false) (nL := 3) (rt := none) (tab := zt172) rfl (fun d' r h' N hd hr => ?_)
  replace hr : RR nf xs d' 11 false 3 (none) zt172 G r h' N (0, [(0, .ref 128), (1, .int x), (2, .int y)], [], m, g) := hr
  have k1 : (1 : Int32).toInt = 1 := rfl
  have k8 : (8 : Int32).toInt = 8 := rfl
  have k64 : (64 : Int32).toInt = 64 := rfl
  replace hr := hr.go (s_aload_n t172_0 rfl)
  replace hr := hr.go (s_getf t172_1)
  rcases hr.zEq t172_4 with ⟨b4, hr⟩ | ⟨b4, hr⟩
  · replace hr := hr.go (s_aload_n t172_8 rfl)
    replace hr := hr.go (s_getr t172_9 (hN.2.2.1))
    replace hr := hr.go (s_k t172_12)
    replace hr := hr.go (s_aload_n t172_14 rfl)
    replace hr := hr.go (s_k t172_15)
    replace hr := hr.cvI t172_17 rfl rfl (ct_fresher hN.1 hN.2.1)
    replace hr := hr.go (s_iadd t172_20)
    replace hr := hr.go (s_iload_n t172_21 rfl)
    replace hr := hr.go (s_iastore t172_22)
    replace hr := hr.go (s_aload_n t172_23 rfl)
    replace hr := hr.go (s_getr t172_24 (hN.2.2.2))
    replace hr := hr.go (s_k t172_27)
    replace hr := hr.go (s_aload_n t172_29 rfl)
    replace hr := hr.go (s_k t172_30)
    replace hr := hr.cvI t172_32 rfl rfl (ct_fresher hN.1 hN.2.1)
    replace hr := hr.go (s_iadd t172_35)
    replace hr := hr.go (s_iload_n t172_36 rfl)
    replace hr := hr.go (s_iastore t172_37)
    replace hr := hr.go (s_aload_n t172_38 rfl)
    replace hr := hr.go (s_k t172_39)
    replace hr := hr.go (s_aload_n t172_41 rfl)
    replace hr := hr.go (s_k t172_42)
    replace hr := hr.cvI t172_44 rfl rfl (ct_fresher hN.1 hN.2.1)
    replace hr := hr.go (s_k t172_47)
    replace hr := hr.go (s_iadd t172_48)
    replace hr := hr.cvN t172_49 rfl rfl (ct_reads hN.1)
    obtain ⟨rfl, hs⟩ := hr.ret t172_52
    refine ⟨_, _, hs, rfl, rfl, ?_, fun a a1 a2 a3 a4 => by rw [xu_row a2, xu_row a4, xu_row a3], fun k _ _ _ => by rw [xu_row (by decide), xu_row (by decide), xu_row (by decide)], fun k hk => by
      rw [xu_oth (fun q => hk (q.2.trans (by decide))), xu_row (by decide), xu_row (by decide)]⟩
    exact sX_row h (by rw [xu_row (by decide), xu_row (by decide), xu_row (by decide)]) (by rw [xu_row (by decide), xu_row (by decide), xu_row (by decide)])
  · obtain ⟨rfl, hs⟩ := hr.ret t172_7
    exact ⟨_, _, hs, rfl, rfl, h, rf.rfl'⟩

