/-! goes, by hand: the loop. -/
theorem aE0 : aE qW [(0, 0, 0)] [0] := ⟨rfl, rfl, fun k t z h1 h2 => by
  cases k with
  | zero =>
    cases h1
    cases h2
    exact ⟨Int.le_refl _, Int.le_refl _⟩
  | succ k => cases h1⟩
theorem asR {so c : Nat} {y : Int} (h1 : c < qW.1.length) (h2 : (asrt qW c : Int) = (so : Int)) : asy qW (2, (so : Int), y) (c : Int) := ⟨c, rfl, h1, h2⟩
theorem qrest {ρc : List Int} {s k H H' : Nat} {d : Int} {cl : zL} {cst : List Value} {h : zH} (hx : aext [0, 128, (s : Int), (k : Int), (H : Int)] ρc) (hE : aE qW (qgN d).2.1 ρc) (hl : aLo ρc (qgN d).2.2.1 cl) (hs : aSt ρc (qgN d).2.2.2.1 cst) (hH : aH qW qG ρc (qgN d).2.2.2.2.1 h) (hd : (H' : Int) = (H : Int) + d) : cst = [] ∧ zget cl 0 = some (.ref 128) ∧ zget cl 1 = some (.int (Int32.ofInt (s : Int))) ∧ zget cl 2 = some (.int (Int32.ofInt ((k + 1 : Nat) : Int))) ∧ aH1 h 128 36 (Int32.ofInt (H' : Int)) := by
  have r1 : ρc[1]? = some ((128 : Nat) : Int) := hx.get rfl
  have r2 : ρc[2]? = some (s : Int) := hx.get rfl
  have r3 : ρc[3]? = some (k : Int) := hx.get rfl
  have r4 : ρc[4]? = some (H : Int) := hx.get rfl
  refine ⟨hs, ?_, ?_, ?_, ?_⟩
  · obtain ⟨v, v1, v2⟩ := hl (0, .inr (.inr (.inl 1))) (List.Mem.head _)
    obtain ⟨n, n1, n2⟩ := (show ∃ n : Nat, ρc[1]? = some (n : Int) ∧ v = .ref n from v2)
    rw [r1] at n1
    injection n1 with n1
    have : n = 128 := by omega
    rw [v1, n2, this]
  · obtain ⟨v, v1, v2⟩ := hl (1, .inl (2, 0)) (List.Mem.tail _ (List.Mem.head _))
    obtain ⟨x, ⟨z, z1, z2⟩, x2⟩ := (show ∃ x : Int32, ai ρc 2 0 x ∧ v = .int x from v2)
    rw [r2] at z1
    cases z1
    rw [v1, x2, z2, Int.add_zero]
  · obtain ⟨v, v1, v2⟩ := hl (2, .inl (3, 1)) (List.Mem.tail _ (List.Mem.tail _ (List.Mem.head _)))
    obtain ⟨x, ⟨z, z1, z2⟩, x2⟩ := (show ∃ x : Int32, ai ρc 3 1 x ∧ v = .int x from v2)
    rw [r3] at z1
    cases z1
    rw [v1, x2, z2]
    rfl
  · exact aH1_of (s := 4) (c := d) hH (qden (k := 36) hE (by decide) r1) ⟨(H : Int), r4, by rw [hd]⟩
theorem qloL {ρ : List Int} {s k : Nat} {cl : zL} (r1 : ρ[1]? = some ((128 : Nat) : Int)) (r2 : ρ[2]? = some (s : Int)) (r3 : ρ[3]? = some (k : Int)) (c0 : zget cl 0 = some (.ref 128)) (c1 : zget cl 1 = some (.int (Int32.ofInt (s : Int)))) (c2 : zget cl 2 = some (.int (Int32.ofInt (k : Int)))) : aLo ρ qgl cl := by
  refine qallc ⟨_, c0, ⟨128, r1, rfl⟩⟩ (qallc ⟨_, c1, ⟨_, ⟨(s : Int), r2, rfl⟩, ?_⟩⟩ (qallc ⟨_, c2, ⟨_, ⟨(k : Int), r3, rfl⟩, ?_⟩⟩ qall0))
  · rw [Int.add_zero]
  · rw [Int.add_zero]
theorem qk50 {h : zH} {s : Nat} (hs : s ≤ 2) {H : Int32} (hH : aH1 h 128 36 H) : ∃ tx : Int32, rd h 145 s = some (.int tx) ∧ 0 ≤ tx.toInt ∧ tx.toInt ≤ 64 := hH.int (a := 145) (k := s) (l := 0) (u := 64) (by decide +kernel) (show s < 6 by omega) (show s < 6 by omega) (by omega) (by rcases (show s = 0 ∨ s = 1 ∨ s = 2 by omega) with rfl | rfl | rfl <;> decide +kernel)
/-- the end of the loop -/
theorem qlast {X : zX} {B : Nat} {h0 h : zH} {s k H c nL : Nat} {ini : Bool} {rt : Option FieldType} {tab : Nat → Option (Instr × Nat)} {cl : zL} (hX : aXX qY X) (hKA : ∀ (mi : Nat) (q : aQ), q ∈ qKA mi → q.1 = mi ∧ aCon qW qG (zEv X zIT zmcl zMt B) q (fun _ => True)) (hm : zMt 186 = some (c, ini, nL, rt, tab)) (hs : s ≤ 2) (h1 : k ≤ 64) (hHl : H ≤ 64) (h3 : qv h0 145 s ≤ k) (c0 : zget cl 0 = some (.ref 128)) (c1 : zget cl 1 = some (.int (Int32.ofInt (s : Int)))) (c2 : zget cl 2 = some (.int (Int32.ofInt (k : Int)))) (hH : aH1 h 128 36 (Int32.ofInt (H : Int))) (hF : aF qW qG [0, 128, (s : Int)] qc94.2.2.2.2.1 h0 h) : ∃ (n : Nat) (r : Option Value) (h' : zH), zRun X zIT zmcl (zEv X zIT zmcl zMt (6 + B)) c ini nL rt tab n 12 cl [] h r h' ∧ aEnd qW qG qc94.2.2.2.2.1 [0, 128, (s : Int)] h0 (aent qc94) qc94.2.2.2.1 r h' := by
  obtain ⟨tx, t1, t2, t3⟩ := qk50 hs hH
  have hq := qg_qv hF
  have ft : qv h0 145 s = tx.toInt := by rw [← hq, qv_on (by unfold qpr; simp [Nat.ble_eq]; omega), qi_int t1]
  have r18 : rd h 128 18 = some (.ref 145) := hH.ref (so := 66) (by decide +kernel) (by decide +kernel) (by decide +kernel) (by decide) (by decide +kernel) (fun a => qun66)
  have E1 := ((((((((aE0.push (t := (2, 49, 49)) (z := 128) (asR (so := 49) (c := 128) (by decide +kernel) (by decide +kernel))).push (t := (0, 0, 2)) (z := (s : Int)) ⟨by omega, by omega⟩).push (t := (0, 0, 64)) (z := (k : Int)) ⟨by omega, by omega⟩).push (t := (0, 0, 64)) (z := (H : Int)) ⟨by omega, by omega⟩).push (t := (2, 66, 66)) (z := 145) (asR (so := 66) (c := 145) (by decide +kernel) (by decide +kernel))).push (t := (0, 0, 0)) (z := 0) ⟨by omega, by omega⟩).push (t := (0, 0, 0)) (z := 0) ⟨by omega, by omega⟩).push (t := (0, 0, 64)) (z := tx.toInt) ⟨t2, t3⟩).pushK (t := (12, 3, 0)) (z := 0) ⟨tx.toInt, (k : Int), rfl, rfl, by omega⟩
  have hE : aE qW [(0, 0, 0), (2, 49, 49), (0, 0, 2), (0, 0, 64), (0, 0, 64), (2, 66, 66), (0, 0, 0), (0, 0, 0), (0, 0, 64), (12, 3, 0)] [0, 128, (s : Int), (k : Int), (H : Int), 145, 0, 0, tx.toInt, 0] := E1
  have a0 := hH.to (q := (1, 0, 36)) (s := 4) (c := 0) (qden (k := 36) (c := 128) (r := 1) hE (by decide) rfl) ⟨(H : Int), rfl, by rw [Int.add_zero]⟩
  have a1 := aH_add (b := .inr (.inr (.inl 5))) a0 (qden (k := 18) (c := 128) (r := 1) hE (by decide) rfl) (by decide +kernel) (by decide +kernel) (by rw [qrdx (qG_real (by decide +kernel) (by decide +kernel))]; exact r18) ⟨145, rfl, rfl⟩
  have a2 := aH_add (q := (5, 2, 0)) (b := .inl (8, 0)) (a := 145) (k := s) (v := .int tx) a1 ⟨rfl, Int32.ofInt (s : Int), ⟨(s : Int), rfl, by rw [Int.add_zero]⟩, ai32 (by omega) (by omega)⟩ (by decide +kernel) (show s < 6 by omega) (by rw [qrdx (qG_off (by decide) (by decide))]; exact t1) ⟨tx, ⟨tx.toInt, rfl, by rw [Int.add_zero, Int32.ofInt_toInt]⟩, rfl⟩
  have hx : aext [0, 128, (s : Int)] [0, 128, (s : Int), (k : Int), (H : Int), 145, 0, 0, tx.toInt, 0] := ⟨[(k : Int), (H : Int), 145, 0, 0, tx.toInt, 0], rfl⟩
  refine qgo_ok hX hKA hm qgZ rfl hx (show 5 ≤ 10 by decide) ⟨hE, qloL (s := s) (k := k) rfl rfl rfl c0 c1 c2, rfl, a2, hF.ext hx⟩ (fun ρc cl' cst' h' y1 y2 y3 y4 y5 y6 => (qgX_no y2).elim)
/-- one knot -/
theorem qknot {X : zX} {B : Nat} {h0 h : zH} {s k H H' c nL : Nat} {ini : Bool} {rt : Option FieldType} {tab : Nat → Option (Instr × Nat)} {cl : zL} {d : Int} {th ta tb : aY} (hX : aXX qY X) (hKA : ∀ (mi : Nat) (q : aQ), q ∈ qKA mi → q.1 = mi ∧ aCon qW qG (zEv X zIT zmcl zMt B) q (fun _ => True)) (hm : zMt 186 = some (c, ini, nL, rt, tab)) (hs : s ≤ 2) (h1 : k ≤ 63) (h3 : (k : Int) + 1 ≤ qv h0 145 s) (c0 : zget cl 0 = some (.ref 128)) (c1 : zget cl 1 = some (.int (Int32.ofInt (s : Int)))) (c2 : zget cl 2 = some (.int (Int32.ofInt (k : Int)))) (hH : aH1 h 128 36 (Int32.ofInt (H : Int))) (hF : aF qW qG [0, 128, (s : Int)] qc94.2.2.2.2.1 h0 h)
    (chk : qgo (qgN d) 5 12 (qgE (0, 0, 63) th ta tb (7, 8, 1), qgl, [], qgm) = true) (hth : asy qW th (H : Int)) (hta : asy qW ta (qv h0 146 k)) (htb : asy qW tb (qv h0 147 k)) (hd : (H' : Int) = (H : Int) + d)
    (next : ∀ (cl' : zL) (h' : zH), zget cl' 0 = some (.ref 128) → zget cl' 1 = some (.int (Int32.ofInt (s : Int))) → zget cl' 2 = some (.int (Int32.ofInt ((k + 1 : Nat) : Int))) → aH1 h' 128 36 (Int32.ofInt (H' : Int)) → aF qW qG [0, 128, (s : Int)] qc94.2.2.2.2.1 h0 h' → ∃ (n : Nat) (r : Option Value) (h'' : zH), zRun X zIT zmcl (zEv X zIT zmcl zMt (6 + B)) c ini nL rt tab n 12 cl' [] h' r h'' ∧ aEnd qW qG qc94.2.2.2.2.1 [0, 128, (s : Int)] h0 (aent qc94) qc94.2.2.2.1 r h'') : ∃ (n : Nat) (r : Option Value) (h' : zH), zRun X zIT zmcl (zEv X zIT zmcl zMt (6 + B)) c ini nL rt tab n 12 cl [] h r h' ∧ aEnd qW qG qc94.2.2.2.2.1 [0, 128, (s : Int)] h0 (aent qc94) qc94.2.2.2.1 r h' := by
  obtain ⟨tx, t1, t2, t3⟩ := qk50 hs hH
  have hq := qg_qv hF
  have ft : qv h0 145 s = tx.toInt := by rw [← hq, qv_on (by unfold qpr; simp [Nat.ble_eq]; omega), qi_int t1]
  obtain ⟨ax, a1, a2, a3⟩ := hH.int (a := 146) (k := k) (l := 0) (u := 2) (by decide +kernel) (show k < 128 by omega) (show k < 128 by omega) (by omega) rfl
  obtain ⟨bx, b1, b2, b3⟩ := hH.int (a := 147) (k := k) (l := -2147483648) (u := 2147483647) (by decide +kernel) (show k < 128 by omega) (show k < 128 by omega) (by omega) rfl
  have fa : qv h0 146 k = ax.toInt := by rw [← hq, qv_on (by unfold qpr; simp [Nat.ble_eq]; omega), qi_int a1]
  have fb : qv h0 147 k = bx.toInt := by rw [← hq, qv_on (by unfold qpr; simp [Nat.ble_eq]; omega), qi_int b1]
  rw [fa] at hta
  rw [fb] at htb
  have r18 : rd h 128 18 = some (.ref 145) := hH.ref (so := 66) (by decide +kernel) (by decide +kernel) (by decide +kernel) (by decide) (by decide +kernel) (fun a => qun66)
  have r19 : rd h 128 19 = some (.ref 146) := hH.ref (so := 67) (by decide +kernel) (by decide +kernel) (by decide +kernel) (by decide) (by decide +kernel) (fun a => qun67)
  have r20 : rd h 128 20 = some (.ref 147) := hH.ref (so := 68) (by decide +kernel) (by decide +kernel) (by decide +kernel) (by decide) (by decide +kernel) (fun a => qun68)
  have E1 := ((((((((((aE0.push (t := (2, 49, 49)) (z := 128) (asR (so := 49) (c := 128) (by decide +kernel) (by decide +kernel))).push (t := (0, 0, 2)) (z := (s : Int)) ⟨by omega, by omega⟩).push (t := (0, 0, 63)) (z := (k : Int)) ⟨by omega, by omega⟩).push (t := th) (z := (H : Int)) hth).push (t := (2, 66, 66)) (z := 145) (asR (so := 66) (c := 145) (by decide +kernel) (by decide +kernel))).push (t := (2, 67, 67)) (z := 146) (asR (so := 67) (c := 146) (by decide +kernel) (by decide +kernel))).push (t := (2, 68, 68)) (z := 147) (asR (so := 68) (c := 147) (by decide +kernel) (by decide +kernel))).push (t := (0, 0, 64)) (z := tx.toInt) ⟨t2, t3⟩).push (t := ta) (z := ax.toInt) hta).push (t := tb) (z := bx.toInt) htb).pushK (t := (7, 8, 1)) (z := 0) ⟨(k : Int), tx.toInt, rfl, rfl, by omega⟩
  have hE : aE qW (qgE (0, 0, 63) th ta tb (7, 8, 1)) [0, 128, (s : Int), (k : Int), (H : Int), 145, 146, 147, tx.toInt, ax.toInt, bx.toInt, 0] := E1
  have m0 := hH.to (q := (1, 0, 36)) (s := 4) (c := 0) (qden (k := 36) (c := 128) (r := 1) hE (by decide) rfl) ⟨(H : Int), rfl, by rw [Int.add_zero]⟩
  have m1 := aH_add (b := .inr (.inr (.inl 5))) m0 (qden (k := 18) (c := 128) (r := 1) hE (by decide) rfl) (by decide +kernel) (by decide +kernel) (by rw [qrdx (qG_real (by decide +kernel) (by decide +kernel))]; exact r18) ⟨145, rfl, rfl⟩
  have m2 := aH_add (b := .inr (.inr (.inl 6))) m1 (qden (k := 19) (c := 128) (r := 1) hE (by decide) rfl) (by decide +kernel) (by decide +kernel) (by rw [qrdx (qG_real (by decide +kernel) (by decide +kernel))]; exact r19) ⟨146, rfl, rfl⟩
  have m3 := aH_add (b := .inr (.inr (.inl 7))) m2 (qden (k := 20) (c := 128) (r := 1) hE (by decide) rfl) (by decide +kernel) (by decide +kernel) (by rw [qrdx (qG_real (by decide +kernel) (by decide +kernel))]; exact r20) ⟨147, rfl, rfl⟩
  have m4 := aH_add (q := (5, 2, 0)) (b := .inl (8, 0)) (a := 145) (k := s) (v := .int tx) m3 ⟨rfl, Int32.ofInt (s : Int), ⟨(s : Int), rfl, by rw [Int.add_zero]⟩, ai32 (by omega) (by omega)⟩ (by decide +kernel) (show s < 6 by omega) (by rw [qrdx (qG_off (by decide) (by decide))]; exact t1) ⟨tx, ⟨tx.toInt, rfl, by rw [Int.add_zero, Int32.ofInt_toInt]⟩, rfl⟩
  have m5 := aH_add (q := (6, 3, 0)) (b := .inl (9, 0)) (a := 146) (k := k) (v := .int ax) m4 ⟨rfl, Int32.ofInt (k : Int), ⟨(k : Int), rfl, by rw [Int.add_zero]⟩, ai32 (by omega) (by omega)⟩ (by decide +kernel) (show k < 128 by omega) (by rw [qrdx (qG_off (by decide) (by decide))]; exact a1) ⟨ax, ⟨ax.toInt, rfl, by rw [Int.add_zero, Int32.ofInt_toInt]⟩, rfl⟩
  have m6 := aH_add (q := (7, 3, 0)) (b := .inl (10, 0)) (a := 147) (k := k) (v := .int bx) m5 ⟨rfl, Int32.ofInt (k : Int), ⟨(k : Int), rfl, by rw [Int.add_zero]⟩, ai32 (by omega) (by omega)⟩ (by decide +kernel) (show k < 128 by omega) (by rw [qrdx (qG_off (by decide) (by decide))]; exact b1) ⟨bx, ⟨bx.toInt, rfl, by rw [Int.add_zero, Int32.ofInt_toInt]⟩, rfl⟩
  have hx : aext [0, 128, (s : Int)] [0, 128, (s : Int), (k : Int), (H : Int), 145, 146, 147, tx.toInt, ax.toInt, bx.toInt, 0] := ⟨[(k : Int), (H : Int), 145, 146, 147, tx.toInt, ax.toInt, bx.toInt, 0], rfl⟩
  refine qgo_ok hX hKA hm chk rfl hx (show 5 ≤ 12 by decide) ⟨hE, qloL (s := s) (k := k) rfl rfl rfl c0 c1 c2, rfl, m6, hF.ext hx⟩ (fun ρc cl' cst' h' y1 y2 y3 y4 y5 y6 => ?_)
  obtain ⟨z1, z2, z3, z4, z5⟩ := qrest y1 y2 y3 y4 y5 hd
  subst z1
  exact next cl' h' z2 z3 z4 z5 y6
theorem qloop {X : zX} {B : Nat} {h0 : zH} {s c nL : Nat} {ini : Bool} {rt : Option FieldType} {tab : Nat → Option (Instr × Nat)} (hX : aXX qY X) (hKA : ∀ (mi : Nat) (q : aQ), q ∈ qKA mi → q.1 = mi ∧ aCon qW qG (zEv X zIT zmcl zMt B) q (fun _ => True)) (hm : zMt 186 = some (c, ini, nL, rt, tab)) (hs : s ≤ 2) (hlw : qlw (qv h0) 0 (qv h0 144 s) (qv h0 145 s) 64) : ∀ (m k H : Nat) (cl : zL) (h : zH), qv h0 144 s ≤ k → k ≤ 64 → (qv h0 145 s - k).toNat ≤ m → qhn (qv h0) 0 (qv h0 144 s).toNat (k - (qv h0 144 s).toNat) = some H → zget cl 0 = some (.ref 128) → zget cl 1 = some (.int (Int32.ofInt (s : Int))) → zget cl 2 = some (.int (Int32.ofInt (k : Int))) → aH1 h 128 36 (Int32.ofInt (H : Int)) → aF qW qG [0, 128, (s : Int)] qc94.2.2.2.2.1 h0 h → ∃ (n : Nat) (r : Option Value) (h' : zH), zRun X zIT zmcl (zEv X zIT zmcl zMt (6 + B)) c ini nL rt tab n 12 cl [] h r h' ∧ aEnd qW qG qc94.2.2.2.2.1 [0, 128, (s : Int)] h0 (aent qc94) qc94.2.2.2.1 r h' := by
  intro m
  induction m with
  | zero =>
    intro k H cl h h1 h2 h3 h4 c0 c1 c2 hH hF
    have hHl := qhn_le _ _ h4
    exact qlast hX hKA hm hs h2 (by omega) (by omega) c0 c1 c2 hH hF
  | succ m ih =>
    intro k H cl h h1 h2 h3 h4 c0 c1 c2 hH hF
    have hHl := qhn_le _ _ h4
    by_cases hkt : qv h0 145 s ≤ k
    · exact qlast hX hKA hm hs h2 (by omega) hkt c0 c1 c2 hH hF
    · have hf0 := hlw.1
      have ht64 := hlw.2.2.1
      have hw := hlw.2.2.2 (by omega)
      have hb := qv_b h0 147 k
      rw [show (qv h0 145 s - qv h0 144 s).toNat = ((k - (qv h0 144 s).toNat) + 1) + ((qv h0 145 s).toNat - (k + 1)) by omega] at hw
      obtain ⟨H', hH'⟩ := qhn_pre _ _ _ hw
      have hHl' := qhn_le _ _ hH'
      have hst : qst (qv h0 146 k) (qv h0 147 k) H = some H' := by
        have e : (match qhn (qv h0) 0 (qv h0 144 s).toNat (k - (qv h0 144 s).toNat) with
          | some H => qst (qv h0 146 (0 + ((qv h0 144 s).toNat + (k - (qv h0 144 s).toNat)))) (qv h0 147 (0 + ((qv h0 144 s).toNat + (k - (qv h0 144 s).toNat)))) H
          | none => none) = some H' := hH'
        rw [h4, show 0 + ((qv h0 144 s).toNat + (k - (qv h0 144 s).toNat)) = k by omega] at e
        exact e
      have hnext : ∀ (cl' : zL) (h' : zH), zget cl' 0 = some (.ref 128) → zget cl' 1 = some (.int (Int32.ofInt (s : Int))) → zget cl' 2 = some (.int (Int32.ofInt ((k + 1 : Nat) : Int))) → aH1 h' 128 36 (Int32.ofInt (H' : Int)) → aF qW qG [0, 128, (s : Int)] qc94.2.2.2.2.1 h0 h' → ∃ (n : Nat) (r : Option Value) (h'' : zH), zRun X zIT zmcl (zEv X zIT zmcl zMt (6 + B)) c ini nL rt tab n 12 cl' [] h' r h'' ∧ aEnd qW qG qc94.2.2.2.2.1 [0, 128, (s : Int)] h0 (aent qc94) qc94.2.2.2.1 r h'' := fun cl' h' g0 g1 g2 gH gF =>
        ih (k + 1) H' cl' h' (by omega) (by omega) (by omega) (by rw [show k + 1 - (qv h0 144 s).toNat = (k - (qv h0 144 s).toNat) + 1 by omega]; exact hH') g0 g1 g2 gH gF
      rcases qst_inv hst with ⟨q1, q2⟩ | ⟨q1, q2, q3, q4⟩ | ⟨q1, q2, q3, q4⟩ | ⟨q1, q2, q3, q4⟩
      · exact qknot hX hKA hm hs (by omega) (by omega) c0 c1 c2 hH hF qgA ⟨by omega, by omega⟩ ⟨by omega, by omega⟩ hb (by omega) hnext
      · exact qknot hX hKA hm hs (by omega) (by omega) c0 c1 c2 hH hF qgB ⟨by omega, by omega⟩ ⟨by omega, by omega⟩ ⟨q2, q3⟩ (by omega) hnext
      · exact qknot hX hKA hm hs (by omega) (by omega) c0 c1 c2 hH hF qgC ⟨by omega, by omega⟩ ⟨by omega, by omega⟩ ⟨by omega, by omega⟩ (by omega) hnext
      · by_cases q5 : qv h0 147 k ≤ 259
        · exact qknot hX hKA hm hs (by omega) (by omega) c0 c1 c2 hH hF qgDd ⟨by omega, by omega⟩ ⟨by omega, by omega⟩ ⟨hb.1, q5⟩ (by omega) hnext
        · exact qknot hX hKA hm hs (by omega) (by omega) c0 c1 c2 hH hF qgEe ⟨by omega, by omega⟩ ⟨by omega, by omega⟩ ⟨by omega, hb.2⟩ (by omega) hnext
/-- the contract -/
theorem qhandG {X : zX} {B : Nat} (hX : aXX qY X) (hKA : ∀ (mi : Nat) (q : aQ), q ∈ qKA mi → q.1 = mi ∧ aCon qW qG (zEv X zIT zmcl zMt B) q (fun _ => True)) : aCon qW qG (zEv X zIT zmcl zMt (6 + B + 1)) qc94 (fun _ => True) := by
  intro ρ0 h0 vs _ hE hv hH
  have hr : ρ0[1]? = some ((128 : Nat) : Int) := qcell (so := 49) hE rfl (fun a => qun49)
  obtain ⟨z, p2, q2⟩ := hE.has (k := 2) rfl
  have q2 : 0 ≤ z ∧ z ≤ 2 := q2
  have hl : ρ0.length = 3 := hE.1
  have hρ : ρ0 = [0, 128, ((z.toNat : Nat) : Int)] := by
    match ρ0, hl, hE.2.1, hr, p2 with
    | [a, b, c], _, h1, h2, h3 =>
      cases h1
      injection h2 with h2
      injection h3 with h3
      subst h2
      rw [show ((z.toNat : Nat) : Int) = z by omega, h3]
      rfl
  obtain ⟨s, es⟩ : ∃ s : Nat, s = z.toNat := ⟨_, rfl⟩
  rw [← es] at hρ
  have hs : s ≤ 2 := by omega
  subst hρ
  have hp1 : qp1 (qv h0) := by
    obtain ⟨v, v1, v2⟩ := hH.2.1 128 78 (by decide +kernel) (by decide +kernel)
    rw [qrdg (qg78 _)] at v1
    cases v1
    rcases v2 with v2 | ⟨e, he, -⟩
    · have ht : apl (afm qW (asrt qW 128)) 78 = (0, 1, 1) := by decide +kernel
      rw [ht] at v2
      obtain ⟨u, u1, u2, u3⟩ := v2
      cases u1
      have b := qbo_01 (qp1 (qv h0))
      rw [ai32 (by omega) (by omega)] at u2 u3
      exact qbo_1 (by omega)
    · cases he
  have hlw : qlw (qv h0) 0 (qv h0 144 s) (qv h0 145 s) 64 := by
    rcases (show s = 0 ∨ s = 1 ∨ s = 2 by omega) with rfl | rfl | rfl
    · exact hp1.1
    · exact hp1.2.1
    · exact hp1.2.2
  have hn : ∀ (a k : Nat), ∀ e ∈ aem qc94, ¬ aden [0, 128, (s : Int)] e.1 a k := fun a k e he => by cases he
  obtain ⟨fx, f1, f2, f3⟩ := qint (a := 144) (k := s) (l := 0) (u := 64) hH (by decide +kernel) (show s < 6 by omega) (show s < 6 by omega) (hn _ _) (by rcases (show s = 0 ∨ s = 1 ∨ s = 2 by omega) with rfl | rfl | rfl <;> decide +kernel)
  have ff : qv h0 144 s = fx.toInt := by rw [qv_on (by unfold qpr; simp [Nat.ble_eq]; omega), qi_int f1]
  obtain ⟨v17, g1, g2⟩ := qreal (a := 128) (k := 17) hH (by decide +kernel) (by decide +kernel) (by decide +kernel) (hn _ _)
  have r17 : rd h0 128 17 = some (.ref 144) := by
    have ht : apl (afm qW (asrt qW 128)) 17 = (2, 65, 65) := by decide +kernel
    rw [ht] at g2
    obtain ⟨n, rfl, n1, n2⟩ := (show ∃ n : Nat, v17 = .ref n ∧ n < qW.1.length ∧ ((asrt qW n : Int) = ((65 : Nat) : Int) ∨ (asrt qW n : Int) = ((65 : Nat) : Int)) from g2)
    rw [g1, qun65 n1 (n2.elim id id)]
  have E1 := (hE.push (t := (2, 65, 65)) (z := 144) (asR (so := 65) (c := 144) (by decide +kernel) (by decide +kernel))).push (t := (0, 0, 64)) (z := fx.toInt) ⟨f2, f3⟩
  have hE' : aE qW [(0, 0, 0), (2, 49, 49), (0, 0, 2), (2, 65, 65), (0, 0, 64)] [0, 128, (s : Int), 144, fx.toInt] := E1
  have hx : aext [0, 128, (s : Int)] [0, 128, (s : Int), 144, fx.toInt] := ⟨[144, fx.toInt], rfl⟩
  have m0 : aH qW qG [0, 128, (s : Int), 144, fx.toInt] [] h0 := hH.ext hx
  have m1 := aH_add (b := .inr (.inr (.inl 3))) m0 (qden (k := 17) (c := 128) (r := 1) hE' (by decide) rfl) (by decide +kernel) (by decide +kernel) (by rw [qrdx (qG_real (by decide +kernel) (by decide +kernel))]; exact r17) ⟨144, rfl, rfl⟩
  have m2 := aH_add (q := (3, 2, 0)) (b := .inl (4, 0)) (a := 144) (k := s) (v := .int fx) m1 ⟨rfl, Int32.ofInt (s : Int), ⟨(s : Int), rfl, by rw [Int.add_zero]⟩, ai32 (by omega) (by omega)⟩ (by decide +kernel) (show s < 6 by omega) (by rw [qrdx (qG_off (by decide) (by decide))]; exact f1) ⟨fx, ⟨fx.toInt, rfl, by rw [Int.add_zero, Int32.ofInt_toInt]⟩, rfl⟩
  cases hm : zMt 186 with
  | none => exact absurd hm (by decide +kernel)
  | some w =>
    obtain ⟨c, ini, nL, rt, tab⟩ := w
    have hlo : aLo [0, 128, (s : Int), 144, fx.toInt] [(0, .inr (.inr (.inl 1))), (1, .inl (2, 0))] (lv_args 0 vs) := fun p hp => (aloc_ok _ vs 0 (hv.ext hx) p hp).2
    obtain ⟨n, r, h', e1, e2⟩ := qgo_ok (pc := 0) hX hKA hm qgS rfl hx (show 5 ≤ 5 by decide) ⟨hE', hlo, rfl, m2, aF.rf⟩ (fun ρc cl' cst' h' y1 y2 y3 y4 y5 y6 => by
      have y1 : aext [0, 128, (s : Int), 144, fx.toInt] ρc := y1
      have r1 : ρc[1]? = some ((128 : Nat) : Int) := y1.get rfl
      have r2 : ρc[2]? = some (s : Int) := y1.get rfl
      have r4 : ρc[4]? = some fx.toInt := y1.get rfl
      have z0 : cst' = [] := y4
      subst z0
      have k0 : zget cl' 0 = some (.ref 128) := by
        obtain ⟨v, v1, v2⟩ := y3 (0, .inr (.inr (.inl 1))) (List.Mem.head _)
        obtain ⟨n, n1, n2⟩ := (show ∃ n : Nat, ρc[1]? = some (n : Int) ∧ v = .ref n from v2)
        rw [r1] at n1
        injection n1 with n1
        have : n = 128 := by omega
        rw [v1, n2, this]
      have k1 : zget cl' 1 = some (.int (Int32.ofInt (s : Int))) := by
        obtain ⟨v, v1, v2⟩ := y3 (1, .inl (2, 0)) (List.Mem.tail _ (List.Mem.head _))
        obtain ⟨x, ⟨z, z1, z2⟩, x2⟩ := (show ∃ x : Int32, ai ρc 2 0 x ∧ v = .int x from v2)
        rw [r2] at z1
        cases z1
        rw [v1, x2, z2, Int.add_zero]
      have k2 : zget cl' 2 = some (.int (Int32.ofInt ((fx.toInt.toNat : Nat) : Int))) := by
        obtain ⟨v, v1, v2⟩ := y3 (2, .inl (4, 0)) (List.Mem.tail _ (List.Mem.tail _ (List.Mem.head _)))
        obtain ⟨x, ⟨z, z1, z2⟩, x2⟩ := (show ∃ x : Int32, ai ρc 4 0 x ∧ v = .int x from v2)
        rw [r4] at z1
        cases z1
        rw [v1, x2, z2, Int.add_zero, show ((fx.toInt.toNat : Nat) : Int) = fx.toInt by omega]
      have kH : aH1 h' 128 36 (Int32.ofInt ((0 : Nat) : Int)) := aH1_of (s := 0) (c := 0) y5 (qden (k := 36) y2 (by decide) r1) (ai_c y2 0)
      exact qloop hX hKA hm hs hlw _ fx.toInt.toNat 0 cl' h' (by omega) (by omega) (Nat.le_refl _) (by rw [ff, Nat.sub_self]; rfl) k0 k1 k2 kH y6)
    have hlen : (lg_sl vs).length ≤ nL := by
      rw [alg_len hv]
      have hb : (match zMt 186 with
        | some w => Nat.ble ((aarg qc94).map acat).sum w.2.2.1
        | none => false) = true := by decide +kernel
      rw [hm] at hb
      exact able hb
    exact ⟨r, h', zEv_run hm hlen e1, e2⟩
