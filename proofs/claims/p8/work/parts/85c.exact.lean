/-! The exact contracts of one mile hold (by program: wip/x/gG1.py). -/
theorem qX_ck (k : Nat) (q : aQ) (h : q ∈ qKX k) : (q.1 = k ∧ ∃ NS : List aN, ackq qY zIT zmcl qW qPt zMt qKE qKX q NS 6 3000 = true) ∧ amb q 2 = true := (fun h => qbif h (fun hc => (fun h => qmc h (fun e => by subst e; exact ⟨⟨by rw [Nat.eq_of_beq_eq_true hc]; rfl, qnx0, ackq_of qkx0_e qkx0_0⟩, by decide +kernel⟩) (fun h => by cases h))) (fun h => qbif h (fun hc => (fun h => qmc h (fun e => by subst e; exact ⟨⟨by rw [Nat.eq_of_beq_eq_true hc]; rfl, qnx1, ackq_of qkx1_e qkx1_0⟩, by decide +kernel⟩) (fun h => by cases h))) (fun h => qbif h (fun hc => (fun h => qmc h (fun e => by subst e; exact ⟨⟨by rw [Nat.eq_of_beq_eq_true hc]; rfl, qnx2, ackq_of qkx2_e qkx2_0⟩, by decide +kernel⟩) (fun h => by cases h))) (fun h => by cases h)))) h
theorem qE_ok (nf : Bool) (xs : List Int32) (k : Nat) (q : aQ) (h : q ∈ qKE k) : q.1 = k ∧ aCon qW qG (zEv (zXt nf xs) zIT zmcl zMt 952) q (fun _ => True) := by
  unfold qKE at h
  cases hb : Nat.beq k 71 with
  | true => rw [hb] at h; cases h
  | false => rw [hb] at h; exact qB_ok nf xs k q h
theorem qX_ok (nf : Bool) (xs : List Int32) (k : Nat) (q : aQ) (h : q ∈ qKX k) : aCon qW qG (zEv (zXt nf xs) zIT zmcl zMt 966) q (fun _ => True) := (agroup_dp (B := 952) (qXX nf xs) qGok qL (K := qKE) (Kn := qKX) (qE_ok nf xs) (fun k q h => (qX_ck k q h).1) 2 k q h).all (qX_ck k q h).2
