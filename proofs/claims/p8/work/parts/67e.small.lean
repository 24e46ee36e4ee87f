/-! What a line of a text tells, as functions of the tokens; small methods of the class Reader. -/
def cN (w : Nat) : Nat := [1, 5, 3, 2, 2, 2, 1, 1].getD w 1
def mN (w : Nat) : Nat := [1, 6, 6, 8, 5, 3, 1, 1].getD w 1
theorem cN_b : ∀ w : Nat, cN w ≤ 5 ∧ 1 ≤ cN w := by
  intro w
  rcases w with _ | _ | _ | _ | _ | _ | _ | _ | w
  all_goals first | decide | exact ⟨(by decide : 1 ≤ 5), (by decide : 1 ≤ 1)⟩
theorem mN_b : ∀ w : Nat, mN w ≤ 8 ∧ 1 ≤ mN w := by
  intro w
  rcases w with _ | _ | _ | _ | _ | _ | _ | _ | w
  all_goals first | decide | exact ⟨(by decide : 1 ≤ 8), (by decide : 1 ≤ 1)⟩
def mxV (w c : Nat) : Int32 := zmost.getD (w * 5 + c) 0
def lsV (w c : Nat) (row : List Int32) : Int32 := if w = 0 then 1 else if w = 5 ∧ c = 1 then row.getD 0 0 else 0
/-- this joke is told at this mile already -/
def tld (rows : List (List Int32)) (j v : Int32) : Bool := rows.any (fun r => decide (r.getD 0 0 = j) && decide (r.getD 1 0 = v))
/-- an end of the class's Reader: refused (fault, token), or what it tells -/
def OC {α : Type} (B : eB) (o : (Nat × Nat) ⊕ α) (g : xL) (Q : α → xM → Prop) : Option Value → xM → xL → Prop := fun r m' g' => g' = g ∧ match o with
  | .inl e => r = some (.int 0) ∧ m' 2 5 = Int32.ofNat e.1 ∧ m' 2 6 = Int32.ofNat (tP B e.2)
  | .inr v => r = some (.int 1) ∧ Q v m'
def endF (B : eB) (i : Nat) : (Nat × Nat) ⊕ Unit := if tK B i = 4 then .inr () else .inl (1, i)
def numF (B : eB) (w c : Nat) (row : List Int32) (rows : List (List Int32)) (i : Nat) : (Nat × Nat) ⊕ Int32 :=
  if ¬ tK B i = 2 then .inl (1, i) else if (tV B i).toInt < (lsV w c row).toInt ∨ (mxV w c).toInt < (tV B i).toInt then .inl (2, i) else if w = 3 ∧ tld rows (row.getD 0 0) (tV B i) = true then .inl (3, i) else .inr (tV B i)
/-- a name: into table w; js: the jokes -/
def namF (B : eB) (w : Nat) (rows js : List (List Int32)) (i : Nat) : (Nat × Nat) ⊕ Int32 :=
  if ¬ tK B i = 3 then .inl (1, i) else if w = 3 then (match fnd (tV B i) js 0 with
    | some j => .inr (Int32.ofNat j)
    | none => .inl (4, i)) else (match fnd (tV B i) rows 0 with
    | some _ => .inl (3, i)
    | none => .inr (tV B i))
/-- the cells of the class's Reader and of the plan at P -/
def GP (G : xG) (P : Nat) : Prop := GS G ∧ G.1 2 0 = some 3 ∧ G.1 2 1 = some 6 ∧ G.2 6 = (0, 1, 72) ∧ 7 ≤ P ∧ (∀ w : Nat, w < 8 → G.1 P w = some (P + 1 + 2 * w) ∧ G.1 (P + 1 + 2 * w) 2 = some (P + 2 + 2 * w) ∧ ∃ len : Nat, G.2 (P + 2 + 2 * w) = (0, 1, len)) ∧ G.1 P 8 = some (P + 17) ∧ G.1 (P + 17) 0 = some (P + 18) ∧ G.1 (P + 17) 1 = some (P + 19) ∧ G.1 (P + 17) 2 = some (P + 20) ∧ G.1 (P + 17) 3 = some (P + 21) ∧ G.2 (P + 21) = (0, 1, 3)
theorem xn_w {w : Nat} : Int32.ofNat (32 + w) - 32 = Int32.ofNat w := by
  have := xn_sub (s := 32) (e := 32 + w) (by omega)
  rw [show 32 + w - 32 = w by omega] at this
  exact this
theorem ct_refuse {nf : Bool} {xs : List Int32} {d : Nat} {m : xM} {g : xL} {G : xG} {x : Int32} (h0 : G.1 2 0 = some 3) : CT nf xs d 28 [.ref 2, .int x] m g G (PE (some (.int 0)) (xu (xu m 2 5 x) 2 6 (m 3 6)) g) := by
  refine CT.of (c := 4) (ini := false) (nL := 2) (rt := some .boolean) (tab := zt28) rfl (fun d' r h' N hd hr => ?_)
  replace hr : RR nf xs d' 4 false 2 (some .boolean) zt28 G r h' N (0, [(0, .ref 2), (1, .int x)], [], m, g) := hr
  replace hr := hr.go (s_aload_n t28_0 rfl)
  replace hr := hr.go (s_iload_n t28_1 rfl)
  replace hr := hr.go (s_putf t28_2)
  replace hr := hr.go (s_aload_n t28_5 rfl)
  replace hr := hr.go (s_aload_n t28_6 rfl)
  replace hr := hr.go (s_getr t28_7 (h0))
  replace hr := hr.go (s_getf t28_10)
  replace hr := hr.go (s_putf t28_13)
  replace hr := hr.go (s_k t28_16)
  obtain ⟨rfl, hs⟩ := hr.iret t28_17
  exact ⟨_, _, hs, rfl, by rw [xu_oth (show ¬ (3 = 2 ∧ 6 = 5) by decide)], rfl⟩

theorem ct_ref {nf : Bool} {xs : List Int32} {d : Nat} {m : xM} {g : xL} {G : xG} {α : Type} {B : eB} {i f : Nat} {Q : α → xM → Prop} (h0 : G.1 2 0 = some 3) (hs : sC B i m) : CT nf xs d 28 [.ref 2, .int (Int32.ofNat f)] m g G (OC B (.inl (f, i)) g Q) := by
  refine (ct_refuse h0).mono (fun r m' g' h => ?_)
  obtain ⟨rfl, rfl, rfl⟩ := h
  exact ⟨rfl, rfl, by rw [xu_oth (by decide), xu_same], by rw [xu_same]; exact hs.2.2.2.2.2.2⟩
theorem ct_readEnd {nf : Bool} {xs : List Int32} {d : Nat} {m : xM} {g : xL} {G : xG} {B : eB} {i P : Nat} (hG : GP G P) (hE : EV B) (hs0 : sC B i m) : CT nf xs d 30 [.ref 2] m g G (OC B (endF B i) g (fun _ m' => sC B (i + 1) m' ∧ ∀ a : Nat, ¬ a = 3 → m' a = m a)) := by
  refine CT.of (c := 4) (ini := false) (nL := 1) (rt := some .boolean) (tab := zt30) rfl (fun d' r h' N hd hr => ?_)
  replace hr : RR nf xs d' 4 false 1 (some .boolean) zt30 G r h' N (0, [(0, .ref 2)], [], m, g) := hr
  have k1 : (1 : Int32).toInt = 1 := rfl
  have k4 : (4 : Int32).toInt = 4 := rfl
  replace hr := hr.go (s_aload_n t30_0 rfl)
  replace hr := hr.go (s_getr t30_1 (hG.2.1))
  replace hr := hr.go (s_getf t30_4)
  replace hr := hr.go (s_k t30_7)
  rw [hs0.2.2.2.2.1] at hr
  rcases hr.bEq t30_8 with ⟨b8, hr⟩ | ⟨b8, hr⟩
  · replace hr := hr.go (s_aload_n t30_17 rfl)
    replace hr := hr.go (s_getr t30_18 (hG.2.1))
    obtain ⟨m2, ⟨hs2, hf_m2⟩, hr⟩ := hr.fvN t30_21 rfl rfl (ct_advS hG.1 hE hs0)
    replace hr := hr.go (s_k t30_24)
    obtain ⟨rfl, hs⟩ := hr.iret t30_25
    unfold endF
    rw [if_pos b8]
    exact ⟨_, _, hs, rfl, rfl, hs2, hf_m2⟩
  · replace hr := hr.go (s_aload_n t30_11 rfl)
    replace hr := hr.go (s_k t30_12)
    obtain ⟨_, m1, _, ⟨rfl, rfl, ho⟩, hr⟩ := hr.callv t30_13 rfl rfl (ct_ref (B := B) (i := i) (f := 1) (α := Unit) (Q := fun _ _ => True) hG.2.1 hs0)
    obtain ⟨rfl, hs⟩ := hr.iret t30_16
    unfold endF
    rw [if_neg b8]
    exact ⟨_, _, hs, rfl, rfl, ho⟩

theorem ct_table {nf : Bool} {xs : List Int32} {d : Nat} {m : xM} {g : xL} {G : xG} {P w : Nat} (hG : GP G P) (hw : w < 8) : CT nf xs d 22 [.ref P, .int (Int32.ofNat (32 + w))] m g G (PE (some (.ref (P + 1 + 2 * w))) m g) := by
  refine CT.of (c := 3) (ini := false) (nL := 2) (rt := some (.object "LaughLine$Table")) (tab := zt22) rfl (fun d' r h' N hd hr => ?_)
  replace hr : RR nf xs d' 3 false 2 (some (.object "LaughLine$Table")) zt22 G r h' N (0, [(0, .ref P), (1, .int (Int32.ofNat (32 + w)))], [], m, g) := hr
  replace hr := hr.go (s_iload_n t22_0 rfl)
  rcases (show w = 0 ∨ w = 1 ∨ w = 2 ∨ w = 3 ∨ w = 4 ∨ w = 5 ∨ w = 6 ∨ w = 7 by omega) with rfl | rfl | rfl | rfl | rfl | rfl | rfl | rfl
  · replace hr := hr.go (s_tswitch (q := 44) t22_1 (by decide) (by decide) rfl rfl)
    replace hr := hr.go (s_aload_n t22_44 rfl)
    replace hr := hr.go (s_getr t22_45 ((hG.2.2.2.2.2.1 0 (by decide)).1))
    obtain ⟨rfl, hs⟩ := hr.aret t22_48
    exact ⟨_, _, hs, rfl, rfl, rfl⟩
  · replace hr := hr.go (s_tswitch (q := 49) t22_1 (by decide) (by decide) rfl rfl)
    replace hr := hr.go (s_aload_n t22_49 rfl)
    replace hr := hr.go (s_getr t22_50 ((hG.2.2.2.2.2.1 1 (by decide)).1))
    obtain ⟨rfl, hs⟩ := hr.aret t22_53
    exact ⟨_, _, hs, rfl, rfl, rfl⟩
  · replace hr := hr.go (s_tswitch (q := 54) t22_1 (by decide) (by decide) rfl rfl)
    replace hr := hr.go (s_aload_n t22_54 rfl)
    replace hr := hr.go (s_getr t22_55 ((hG.2.2.2.2.2.1 2 (by decide)).1))
    obtain ⟨rfl, hs⟩ := hr.aret t22_58
    exact ⟨_, _, hs, rfl, rfl, rfl⟩
  · replace hr := hr.go (s_tswitch (q := 59) t22_1 (by decide) (by decide) rfl rfl)
    replace hr := hr.go (s_aload_n t22_59 rfl)
    replace hr := hr.go (s_getr t22_60 ((hG.2.2.2.2.2.1 3 (by decide)).1))
    obtain ⟨rfl, hs⟩ := hr.aret t22_63
    exact ⟨_, _, hs, rfl, rfl, rfl⟩
  · replace hr := hr.go (s_tswitch (q := 64) t22_1 (by decide) (by decide) rfl rfl)
    replace hr := hr.go (s_aload_n t22_64 rfl)
    replace hr := hr.go (s_getr t22_65 ((hG.2.2.2.2.2.1 4 (by decide)).1))
    obtain ⟨rfl, hs⟩ := hr.aret t22_68
    exact ⟨_, _, hs, rfl, rfl, rfl⟩
  · replace hr := hr.go (s_tswitch (q := 69) t22_1 (by decide) (by decide) rfl rfl)
    replace hr := hr.go (s_aload_n t22_69 rfl)
    replace hr := hr.go (s_getr t22_70 ((hG.2.2.2.2.2.1 5 (by decide)).1))
    obtain ⟨rfl, hs⟩ := hr.aret t22_73
    exact ⟨_, _, hs, rfl, rfl, rfl⟩
  · replace hr := hr.go (s_tswitch (q := 74) t22_1 (by decide) (by decide) rfl rfl)
    replace hr := hr.go (s_aload_n t22_74 rfl)
    replace hr := hr.go (s_getr t22_75 ((hG.2.2.2.2.2.1 6 (by decide)).1))
    obtain ⟨rfl, hs⟩ := hr.aret t22_78
    exact ⟨_, _, hs, rfl, rfl, rfl⟩
  · replace hr := hr.go (s_tswitchD (q := 79) t22_1 (by right; decide) rfl)
    replace hr := hr.go (s_aload_n t22_79 rfl)
    replace hr := hr.go (s_getr t22_80 ((hG.2.2.2.2.2.1 7 (by decide)).1))
    obtain ⟨rfl, hs⟩ := hr.aret t22_83
    exact ⟨_, _, hs, rfl, rfl, rfl⟩
theorem most_len : zmost.length = 40 := by decide +kernel
theorem ct_mostOf {nf : Bool} {xs : List Int32} {d : Nat} {m : xM} {g : xL} {G : xG} {w c : Nat} (hw : w < 8) (hc : c < 5) : CT nf xs d 34 [.int (Int32.ofNat (32 + w)), .int (Int32.ofNat c)] m g G (PE (some (.int (mxV w c))) m g) := by
  refine CT.of (c := 4) (ini := false) (nL := 3) (rt := some .int) (tab := zt34) rfl (fun d' r h' N hd hr => ?_)
  replace hr : RR nf xs d' 4 false 3 (some .int) zt34 G r h' N (0, [(0, .int (Int32.ofNat (32 + w))), (1, .int (Int32.ofNat c))], [], m, g) := hr
  have k5 : (5 : Int32).toInt = 5 := rfl
  have k32 : (32 : Int32).toInt = 32 := rfl
  replace hr := hr.go (s_iload_n t34_0 rfl)
  replace hr := hr.go (s_k t34_1)
  replace hr := hr.go (s_isub t34_3)
  replace hr := hr.go (s_k t34_4)
  replace hr := hr.go (s_imul t34_5)
  replace hr := hr.go (s_iload_n t34_6 rfl)
  replace hr := hr.go (s_iadd t34_7)
  replace hr := hr.go (s_istore_n (ls' := [(2, _), (0, _), (1, _)]) t34_8 rfl)
  have q1 : (((Int32.ofNat (32 + w) - 32) * 5) + Int32.ofNat c).toInt = ((w * 5 + c : Nat) : Int) := by rw [xn_w, show ((5 : Int32)) = Int32.ofNat 5 from rfl, xn_mul, xn_add, xn_int (by omega)]
  replace hr := hr.go (s_iload_n t34_9 rfl)
  rcases hr.zLt t34_10 with ⟨b10, hr⟩ | ⟨b10, hr⟩
  · replace hr := hr.go (s_k t34_29)
    obtain ⟨rfl, hs⟩ := hr.iret t34_30
    exact (by omega : False).elim
  · replace hr := hr.go (s_iload_n t34_13 rfl)
    replace hr := hr.go (s_getstatic t34_14 rfl)
    replace hr := hr.go (s_alenX t34_17 rfl)
    have q2 : (Int32.ofNat zmost.length).toInt = 40 := by rw [most_len]; rfl
    rcases hr.bGe t34_18 with ⟨b18, hr⟩ | ⟨b18, hr⟩
    · replace hr := hr.go (s_k t34_29)
      obtain ⟨rfl, hs⟩ := hr.iret t34_30
      exact (by omega : False).elim
    · replace hr := hr.go (s_getstatic t34_21 rfl)
      replace hr := hr.go (s_iload_n t34_24 rfl)
      replace hr := hr.go (s_ialoadX t34_25 rfl)
      replace hr := hr.go (s_goto t34_26)
      obtain ⟨rfl, hs⟩ := hr.iret t34_30
      exact ⟨_, _, hs, by rw [xn_w, show ((5 : Int32)) = Int32.ofNat 5 from rfl, xn_ix (by omega)]; rfl, rfl, rfl⟩

theorem xn_eq {a b : Nat} (ha : a < 2147483648) (hb : b < 2147483648) : Int32.ofNat a = Int32.ofNat b ↔ a = b := ⟨fun h => xn_inj ha hb h, fun h => by rw [h]⟩
theorem ct_least {nf : Bool} {xs : List Int32} {d : Nat} {m : xM} {g : xL} {G : xG} {B : eB} {t cc cols most len w c : Nat} {rows : List (List Int32)} {row : List Int32} (hc : G.1 t 2 = some cc) (hl : G.2 cc = (0, 1, len)) (ht : tbC t cc cols most rows m) (h8 : most ≤ 8) (h5 : cols ≤ 5) (hfull : rows.length < most) (hw : w < 8) (hcc : c < cols) (hrow : 0 < c → m cc (rows.length * cols + 0) = row.getD 0 0) : CT nf xs d 33 [.ref t, .int (Int32.ofNat (32 + w)), .int (Int32.ofNat c)] m g G (PE (some (.int (lsV w c row))) m g) := by
  refine CT.of (c := 4) (ini := false) (nL := 4) (rt := some .int) (tab := zt33) rfl (fun d' r h' N hd hr => ?_)
  replace hr : RR nf xs d' 4 false 4 (some .int) zt33 G r h' N (0, [(0, .ref t), (1, .int (Int32.ofNat (32 + w))), (2, .int (Int32.ofNat c))], [], m, g) := hr
  have z1 : Int32.ofNat (32 + w) = (32 : Int32) ↔ 32 + w = 32 := xn_eq (b := 32) (by omega) (by decide)
  have z2 : Int32.ofNat (32 + w) = (37 : Int32) ↔ 32 + w = 37 := xn_eq (b := 37) (by omega) (by decide)
  have z3 : Int32.ofNat c = (1 : Int32) ↔ c = 1 := xn_eq (b := 1) (by omega) (by decide)
  replace hr := hr.go (s_iload_n t33_0 rfl)
  replace hr := hr.go (s_k t33_1)
  rcases hr.bNe t33_3 with ⟨b3, hr⟩ | ⟨b3, hr⟩
  · replace hr := hr.go (s_iload_n t33_8 rfl)
    replace hr := hr.go (s_k t33_9)
    rcases hr.bNe t33_11 with ⟨b11, hr⟩ | ⟨b11, hr⟩
    · skip
      replace hr := hr.go (s_k t33_23)
      replace hr := hr.go (s_istore_n (ls' := [(3, _), (0, _), (1, _), (2, _)]) t33_24 rfl)
      replace hr := hr.go (s_iload_n t33_25 rfl)
      rcases hr.zEq t33_26 with ⟨b26, hr⟩ | ⟨b26, hr⟩
      · skip
        replace hr := hr.go (s_k t33_41)
        obtain ⟨rfl, hs⟩ := hr.iret t33_42
        refine ⟨_, _, hs, congrArg (fun z => some (Value.int z)) ?_, rfl, rfl⟩
        unfold lsV
        rw [if_neg (fun q => b3 (z1.mpr (by omega))), if_neg (fun q => b11 (z2.mpr (by omega)))]
      · exact absurd b26 (by decide)
    · replace hr := hr.go (s_iload_n t33_14 rfl)
      replace hr := hr.go (s_k t33_15)
      rcases hr.bNe t33_16 with ⟨b16, hr⟩ | ⟨b16, hr⟩
      · skip
        replace hr := hr.go (s_k t33_23)
        replace hr := hr.go (s_istore_n (ls' := [(3, _), (0, _), (1, _), (2, _)]) t33_24 rfl)
        replace hr := hr.go (s_iload_n t33_25 rfl)
        rcases hr.zEq t33_26 with ⟨b26, hr⟩ | ⟨b26, hr⟩
        · skip
          replace hr := hr.go (s_k t33_41)
          obtain ⟨rfl, hs⟩ := hr.iret t33_42
          refine ⟨_, _, hs, congrArg (fun z => some (Value.int z)) ?_, rfl, rfl⟩
          unfold lsV
          rw [if_neg (fun q => b3 (z1.mpr (by omega))), if_neg (fun q => b16 (z3.mpr (by omega)))]
        · exact absurd b26 (by decide)
      · replace hr := hr.go (s_k t33_19)
        replace hr := hr.go (s_goto t33_20)
        replace hr := hr.go (s_istore_n (ls' := [(3, _), (0, _), (1, _), (2, _)]) t33_24 rfl)
        replace hr := hr.go (s_iload_n t33_25 rfl)
        rcases hr.zEq t33_26 with ⟨b26, hr⟩ | ⟨b26, hr⟩
        · exact absurd b26 (by decide)
        · replace hr := hr.go (s_aload_n t33_29 rfl)
          replace hr := hr.go (s_aload_n t33_30 rfl)
          replace hr := hr.go (s_getf t33_31)
          replace hr := hr.go (s_k t33_34)
          rw [ht.2.2.1] at hr
          replace hr := hr.cvI t33_35 rfl rfl (ct_at (ro := rows.length) (k := 0) hc hl ht.1 ht.2.1 h8 h5 hfull (by omega))
          replace hr := hr.go (s_goto t33_38)
          obtain ⟨rfl, hs⟩ := hr.iret t33_42
          refine ⟨_, _, hs, congrArg (fun z => some (Value.int z)) ?_, rfl, rfl⟩
          unfold lsV
          rw [if_neg (fun q => b3 (z1.mpr (by omega))), if_pos ⟨by have := z2.mp b11; omega, z3.mp b16⟩]
          exact hrow (by have := z3.mp b16; omega)
  · replace hr := hr.go (s_k t33_6)
    obtain ⟨rfl, hs⟩ := hr.iret t33_7
    refine ⟨_, _, hs, congrArg (fun z => some (Value.int z)) ?_, rfl, rfl⟩
    unfold lsV
    rw [if_pos (by have := z1.mp b3; omega)]
