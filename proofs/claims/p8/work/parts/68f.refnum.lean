/-! The reference's lines: numbers, names, what is full. -/
/-- all cells but the reference's own stay, and its fields but those of the scanner and of the fault -/
def rg (m m' : xM) : Prop := (∀ a : Nat, ¬ a = 128 → m' a = m a) ∧ ∀ k : Nat, ¬ (24 ≤ k ∧ k ≤ 29) → m' 128 k = m 128 k
theorem rg.rfl' {m : xM} : rg m m := ⟨fun _ _ => rfl, fun _ _ => rfl⟩
theorem rg.trans {a b c : xM} (h1 : rg a b) (h2 : rg b c) : rg a c := ⟨fun x p => (h2.1 x p).trans (h1.1 x p), fun k p => (h2.2 k p).trans (h1.2 k p)⟩
theorem ct_tokG {nf : Bool} {xs : List Int32} {d : Nat} {m : xM} {g : xL} {G : xG} {B : eB} {s : Nat × Nat × Nat} (hG : GM G) (hE : EV B) (h : sX B (.inr s) m) : CT nf xs d 154 [.ref 128] m g G (PF none g (fun m' => sX B (.inr (s.1 + 1, s.2)) m' ∧ rg m m')) := by
  refine (ct_tokP (B := B) (i := s.1 + 1) hG hE h.2.1.1 h.2.1.2.1 h.2.1.2.2.1).mono (fun r m' g' q => ?_)
  obtain ⟨rfl, rfl, q1, q2, q3⟩ := q
  exact ⟨rfl, rfl, ⟨by rw [q3 28 (by omega)]; exact h.1, q1, by rw [q3 33 (by omega)]; exact h.2.2.1, h.2.2.2.1, by rw [q3 32 (by omega)]; exact h.2.2.2.2.1, h.2.2.2.2.2.1, by rw [q3 29 (by omega)]; exact h.2.2.2.2.2.2⟩, q2, fun k k1 => q3 k (by omega)⟩
def nuO (B : eB) (lo mo : Int32) (o : eO) : eO := match o with
  | .inl e => .inl e
  | .inr s => if ¬ tK B s.1 = 2 then .inl (1, s.1) else if (tV B s.1).toInt < lo.toInt ∨ mo.toInt < (tV B s.1).toInt then .inl (2, s.1) else .inr (s.1 + 1, s.2)
def nuV (B : eB) (lo mo : Int32) (o : eO) : Int32 := match o with
  | .inl _ => lo
  | .inr s => if ¬ tK B s.1 = 2 then lo else if (tV B s.1).toInt < lo.toInt ∨ mo.toInt < (tV B s.1).toInt then lo else tV B s.1
theorem nv_lm {v va lo mo : Int32} (h : nv v va) (hm : mo.toInt ≤ 99999) : (v.toInt < lo.toInt ∨ mo.toInt < v.toInt) ↔ (va.toInt < lo.toInt ∨ mo.toInt < va.toInt) := by
  rcases h with ⟨q, q1, q2⟩ | ⟨q1, q2⟩
  · rw [q]
  · exact ⟨fun _ => Or.inr (by omega), fun _ => Or.inr (by omega)⟩
theorem nv_eq {v va mo : Int32} (h : nv v va) (hm : mo.toInt ≤ 99999) (hv : va.toInt ≤ mo.toInt) : va = v := by
  rcases h with ⟨q, q1, q2⟩ | ⟨q1, q2⟩
  · exact q.symm
  · omega
theorem ct_wrongG {nf : Bool} {xs : List Int32} {d : Nat} {m : xM} {g : xL} {G : xG} {B : eB} {o : eO} {f : Nat} (h : sX B o m) (hf : ¬ f = 0) (hf2 : f < 9) : CT nf xs d 158 [.ref 128, .int (Int32.ofNat f)] m g G (PF none g (fun m' => sX B (wrF f o) m' ∧ rg m m')) := by
  refine CT.of (c := 11) (ini := false) (nL := 2) (rt := none) (tab := zt158) rfl (fun d' r h' N hd hr => ?_)
  replace hr : RR nf xs d' 11 false 2 (none) zt158 G r h' N (0, [(0, .ref 128), (1, .int (Int32.ofNat f))], [], m, g) := hr
  replace hr := hr.go (s_aload_n t158_0 rfl)
  replace hr := hr.go (s_getf t158_1)
  rcases hr.zEq t158_4 with ⟨b4, hr⟩ | ⟨b4, hr⟩
  · replace hr := hr.go (s_aload_n t158_8 rfl)
    replace hr := hr.go (s_iload_n t158_9 rfl)
    replace hr := hr.go (s_putf t158_10)
    replace hr := hr.go (s_aload_n t158_13 rfl)
    replace hr := hr.go (s_aload_n t158_14 rfl)
    replace hr := hr.go (s_getf t158_15)
    replace hr := hr.go (s_putf t158_18)
    obtain ⟨rfl, hs⟩ := hr.ret t158_21
    cases o with
    | inl e => exact absurd b4 h.2.1
    | inr t =>
      refine ⟨_, _, hs, rfl, rfl, ⟨?_, ?_, ?_⟩, fun a a1 => by rw [xu_row a1, xu_row a1], fun k k1 => by rw [xu_oth (by omega), xu_oth (by omega)]⟩
      · rw [xu_oth (by decide), xu_same]
      · rw [xu_oth (by decide), xu_same]; exact ofN_0 (by omega) hf
      · rw [xu_same, xu_oth (by decide)]; exact h.2.1.2.2.2.1
  · obtain ⟨rfl, hs⟩ := hr.ret t158_7
    cases o with
    | inl e => exact ⟨_, _, hs, rfl, rfl, h, rg.rfl'⟩
    | inr t => exact absurd h.1 b4

theorem ct_numeral {nf : Bool} {xs : List Int32} {d : Nat} {m : xM} {g : xL} {G : xG} {B : eB} {o : eO} {lo mo : Int32} (hG : GM G) (hE : EV B) (hm : mo.toInt ≤ 99999) (h : sX B o m) : CT nf xs d 162 [.ref 128, .int lo, .int mo] m g G (PF (some (.int (nuV B lo mo o))) g (fun m' => sX B (nuO B lo mo o) m' ∧ rg m m')) := by
  refine CT.of (c := 11) (ini := false) (nL := 4) (rt := some .int) (tab := zt162) rfl (fun d' r h' N hd hr => ?_)
  replace hr : RR nf xs d' 11 false 4 (some .int) zt162 G r h' N (0, [(0, .ref 128), (1, .int lo), (2, .int mo)], [], m, g) := hr
  cases o with
  | inl e =>
    replace hr := hr.go (s_aload_n t162_0 rfl)
    replace hr := hr.go (s_getf t162_1)
    rcases hr.zEq t162_4 with ⟨b4, hr⟩ | ⟨b4, hr⟩
    · exact absurd b4 h.2.1
    · replace hr := hr.go (s_iload_n t162_7 rfl)
      obtain ⟨rfl, hs⟩ := hr.iret t162_8
      exact ⟨_, _, hs, rfl, rfl, h, rg.rfl'⟩
  | inr s =>
    replace hr := hr.go (s_aload_n t162_0 rfl)
    replace hr := hr.go (s_getf t162_1)
    rcases hr.zEq t162_4 with ⟨b4, hr⟩ | ⟨b4, hr⟩
    · replace hr := hr.go (s_aload_n t162_9 rfl)
      replace hr := hr.go (s_getf t162_10)
      replace hr := hr.go (s_k t162_13)
      rcases hr.bEq t162_14 with ⟨b14, hr⟩ | ⟨b14, hr⟩
      · have hk := (tr_num h.2.1.2.2.2.2).mp b14
        have hnv := tr_nv h.2.1.2.2.2.2 hk
        replace hr := hr.go (s_aload_n t162_25 rfl)
        replace hr := hr.go (s_getf t162_26)
        replace hr := hr.go (s_iload_n t162_29 rfl)
        rcases hr.bLt t162_30 with ⟨b30, hr⟩ | ⟨b30, hr⟩
        · have hlm : (tV B s.1).toInt < lo.toInt ∨ mo.toInt < (tV B s.1).toInt := (nv_lm hnv hm).mpr (Or.inl b30)
          replace hr := hr.go (s_aload_n t162_41 rfl)
          replace hr := hr.go (s_k t162_42)
          obtain ⟨m1, ⟨h1, hf1⟩, hr⟩ := hr.fvN t162_43 rfl rfl (ct_wrongG (f := 2) h (by decide) (by decide))
          skip
          replace hr := hr.go (s_aload_n t162_46 rfl)
          replace hr := hr.go (s_getf t162_47)
          rcases hr.zEq t162_50 with ⟨b50, hr⟩ | ⟨b50, hr⟩
          · exact absurd b50 h1.2.1
          · replace hr := hr.go (s_iload_n t162_53 rfl)
            obtain ⟨rfl, hs⟩ := hr.iret t162_54
            refine ⟨_, _, hs, ?_, rfl, ?_, hf1⟩
            · show _ = some (Value.int (if ¬ tK B s.1 = 2 then lo else if (tV B s.1).toInt < lo.toInt ∨ mo.toInt < (tV B s.1).toInt then lo else tV B s.1)); rw [if_neg (fun q => q hk), if_pos hlm]
            · show sX B (if ¬ tK B s.1 = 2 then .inl (1, s.1) else if (tV B s.1).toInt < lo.toInt ∨ mo.toInt < (tV B s.1).toInt then .inl (2, s.1) else .inr (s.1 + 1, s.2)) _; rw [if_neg (fun q => q hk), if_pos hlm]; exact h1
        · replace hr := hr.go (s_aload_n t162_33 rfl)
          replace hr := hr.go (s_getf t162_34)
          replace hr := hr.go (s_iload_n t162_37 rfl)
          rcases hr.bLe t162_38 with ⟨b38, hr⟩ | ⟨b38, hr⟩
          · skip
            replace hr := hr.go (s_aload_n t162_46 rfl)
            replace hr := hr.go (s_getf t162_47)
            rcases hr.zEq t162_50 with ⟨b50, hr⟩ | ⟨b50, hr⟩
            · replace hr := hr.go (s_aload_n t162_55 rfl)
              replace hr := hr.go (s_getf t162_56)
              replace hr := hr.go (s_istore_n (ls' := [(3, _), (0, _), (1, _), (2, _)]) t162_59 rfl)
              replace hr := hr.go (s_aload_n t162_60 rfl)
              obtain ⟨m2, ⟨h2, hf2⟩, hr⟩ := hr.fvN t162_61 rfl rfl (ct_tokG hG hE h)
              replace hr := hr.go (s_iload_n t162_64 rfl)
              obtain ⟨rfl, hs⟩ := hr.iret t162_65
              have hlm : ¬ ((tV B s.1).toInt < lo.toInt ∨ mo.toInt < (tV B s.1).toInt) := fun q => by have := (nv_lm hnv hm).mp q; omega
              refine ⟨_, _, hs, ?_, rfl, ?_, hf2⟩
              · show _ = some (Value.int (if ¬ tK B s.1 = 2 then lo else if (tV B s.1).toInt < lo.toInt ∨ mo.toInt < (tV B s.1).toInt then lo else tV B s.1)); rw [if_neg (fun q => q hk), if_neg hlm, nv_eq hnv hm (by omega)]
              · show sX B (if ¬ tK B s.1 = 2 then .inl (1, s.1) else if (tV B s.1).toInt < lo.toInt ∨ mo.toInt < (tV B s.1).toInt then .inl (2, s.1) else .inr (s.1 + 1, s.2)) _; rw [if_neg (fun q => q hk), if_neg hlm]; exact h2
            · exact absurd h.1 b50
          · have hlm : (tV B s.1).toInt < lo.toInt ∨ mo.toInt < (tV B s.1).toInt := (nv_lm hnv hm).mpr (Or.inr b38)
            replace hr := hr.go (s_aload_n t162_41 rfl)
            replace hr := hr.go (s_k t162_42)
            obtain ⟨m1, ⟨h1, hf1⟩, hr⟩ := hr.fvN t162_43 rfl rfl (ct_wrongG (f := 2) h (by decide) (by decide))
            skip
            replace hr := hr.go (s_aload_n t162_46 rfl)
            replace hr := hr.go (s_getf t162_47)
            rcases hr.zEq t162_50 with ⟨b50, hr⟩ | ⟨b50, hr⟩
            · exact absurd b50 h1.2.1
            · replace hr := hr.go (s_iload_n t162_53 rfl)
              obtain ⟨rfl, hs⟩ := hr.iret t162_54
              refine ⟨_, _, hs, ?_, rfl, ?_, hf1⟩
              · show _ = some (Value.int (if ¬ tK B s.1 = 2 then lo else if (tV B s.1).toInt < lo.toInt ∨ mo.toInt < (tV B s.1).toInt then lo else tV B s.1)); rw [if_neg (fun q => q hk), if_pos hlm]
              · show sX B (if ¬ tK B s.1 = 2 then .inl (1, s.1) else if (tV B s.1).toInt < lo.toInt ∨ mo.toInt < (tV B s.1).toInt then .inl (2, s.1) else .inr (s.1 + 1, s.2)) _; rw [if_neg (fun q => q hk), if_pos hlm]; exact h1
      · have hk : ¬ tK B s.1 = 2 := fun q => b14 ((tr_num h.2.1.2.2.2.2).mpr q)
        replace hr := hr.go (s_aload_n t162_17 rfl)
        replace hr := hr.go (s_k t162_18)
        obtain ⟨m1, ⟨h1, hf1⟩, hr⟩ := hr.fvN t162_19 rfl rfl (ct_wrongG (f := 1) h (by decide) (by decide))
        replace hr := hr.go (s_goto t162_22)
        skip
        replace hr := hr.go (s_aload_n t162_46 rfl)
        replace hr := hr.go (s_getf t162_47)
        rcases hr.zEq t162_50 with ⟨b50, hr⟩ | ⟨b50, hr⟩
        · exact absurd b50 h1.2.1
        · replace hr := hr.go (s_iload_n t162_53 rfl)
          obtain ⟨rfl, hs⟩ := hr.iret t162_54
          refine ⟨_, _, hs, ?_, rfl, ?_, hf1⟩
          · show _ = some (Value.int (if ¬ tK B s.1 = 2 then lo else _)); rw [if_pos hk]
          · show sX B (if ¬ tK B s.1 = 2 then .inl (1, s.1) else _) _; rw [if_pos hk]; exact h1
    · exact absurd h.1 b4
theorem lp163 {nf : Bool} {xs : List Int32} {d : Nat} {g : xL} {G : xG} {r : Option Value} {h' : zH} {m : xM} {a fr len : Nat} {v : Int32} {rows : List (List Int32)} (ha : G.2 a = (0, 1, len)) (hl8 : rows.length ≤ 8) (hfr : fr ≤ 8) (hrow : ∀ i : Nat, i < rows.length → m a (fr + i) = (rows.getD i []).getD 0 0) : ∀ (N i : Nat), i ≤ rows.length → RR nf xs d 11 false 5 (some .int) zt163 G r h' N (3, [(4, .int (Int32.ofNat i)), (0, .ref a), (1, .int (Int32.ofNat fr)), (2, .int (Int32.ofNat rows.length)), (3, .int v)], [], m, g) → ∃ (m' : xM) (g' : xL), HS h' m' g' G ∧ PE (some (.int (oI (fnd v (rows.drop i) i)))) m g r m' g' := by
  have q2 : (Int32.ofNat rows.length).toInt = (rows.length : Int) := xn_int (by omega)
  intro N
  induction N with
  | zero => intro i _ hr; exact hr.no.elim
  | succ N ih =>
    intro i hle hr
    have q1 : (Int32.ofNat i).toInt = (i : Int) := xn_int (by omega)
    replace hr := hr.go1 (s_iload t163_3 rfl)
    replace hr := hr.go (s_iload_n t163_5 rfl)
    rcases hr.bGe t163_6 with ⟨b6, hr⟩ | ⟨b6, hr⟩
    · replace hr := hr.go (s_k t163_28)
      obtain ⟨rfl, hs⟩ := hr.iret t163_29
      rw [List.drop_eq_nil_of_le (show rows.length ≤ i by omega)]
      exact ⟨_, _, hs, rfl, rfl, rfl⟩
    · have hi : i < rows.length := by omega
      have hd : rows.drop i = rows.getD i [] :: rows.drop (i + 1) := by
        rw [List.getD_eq_getElem?_getD, List.getElem?_eq_getElem hi]
        exact List.drop_eq_getElem_cons hi
      replace hr := hr.go (s_aload_n t163_9 rfl)
      replace hr := hr.go (s_iload_n t163_10 rfl)
      replace hr := hr.go (s_iload t163_11 rfl)
      replace hr := hr.go (s_iadd t163_13)
      replace hr := hr.go (s_iaload t163_14 (ha))
      rw [xn_add, xn_nat (by omega), hrow i hi] at hr
      replace hr := hr.go (s_iload_n t163_15 rfl)
      rcases hr.bNe t163_16 with ⟨b16, hr⟩ | ⟨b16, hr⟩
      · replace hr := hr.go (s_iinc (ls' := [(4, _), (0, _), (1, _), (2, _), (3, _)]) t163_22 rfl rfl)
        replace hr := hr.go (s_goto t163_25)
        rw [hd]
        obtain ⟨m1, g1, w1, w2, w3⟩ := ih (i + 1) (by omega) (by rw [← xn_1i]; exact hr)
        refine ⟨m1, g1, w1, ?_, w3⟩
        rw [w2]
        show some (Value.int (oI (fnd v (rows.drop (i + 1)) (i + 1)))) = some (Value.int (oI (if (rows.getD i []).getD 0 0 = v then some i else fnd v (rows.drop (i + 1)) (i + 1))))
        rw [if_neg b16]
      · replace hr := hr.go (s_iload t163_19 rfl)
        obtain ⟨rfl, hs⟩ := hr.iret t163_21
        rw [hd]
        refine ⟨_, _, hs, ?_, rfl, rfl⟩
        show some (Value.int (Int32.ofNat i)) = some (Value.int (oI (if (rows.getD i []).getD 0 0 = v then some i else fnd v (rows.drop (i + 1)) (i + 1))))
        rw [if_pos b16]
        rfl
theorem ct_found {nf : Bool} {xs : List Int32} {d : Nat} {m : xM} {g : xL} {G : xG} {a fr len : Nat} {v : Int32} {rows : List (List Int32)} (ha : G.2 a = (0, 1, len)) (hl8 : rows.length ≤ 8) (hfr : fr ≤ 8) (hrow : ∀ i : Nat, i < rows.length → m a (fr + i) = (rows.getD i []).getD 0 0) : CT nf xs d 163 [.ref a, .int (Int32.ofNat fr), .int (Int32.ofNat rows.length), .int v] m g G (PE (some (.int (oI (fnd v rows 0)))) m g) := by
  refine CT.of (c := 11) (ini := false) (nL := 5) (rt := some .int) (tab := zt163) rfl (fun d' r h' N hd hr => ?_)
  replace hr : RR nf xs d' 11 false 5 (some .int) zt163 G r h' N (0, [(0, .ref a), (1, .int (Int32.ofNat fr)), (2, .int (Int32.ofNat rows.length)), (3, .int v)], [], m, g) := hr
  replace hr := hr.go (s_k t163_0)
  replace hr := hr.go (s_istore (ls' := [(4, _), (0, _), (1, _), (2, _), (3, _)]) t163_1 rfl)
  exact lp163 ha hl8 hfr hrow N 0 (Nat.zero_le _) hr
def frO (B : eB) (rows : List (List Int32)) (s : Nat × Nat × Nat) : eO := if ¬ tK B s.1 = 3 then .inl (1, s.1) else (match fnd (tV B s.1) rows 0 with
  | some _ => .inl (3, s.1)
  | none => .inr (s.1 + 1, s.2))
def frV (B : eB) (rows : List (List Int32)) (s : Nat × Nat × Nat) : Int32 := if ¬ tK B s.1 = 3 then 0 else (match fnd (tV B s.1) rows 0 with
  | some _ => 0
  | none => tV B s.1)
theorem ct_fresh {nf : Bool} {xs : List Int32} {d : Nat} {m : xM} {g : xL} {G : xG} {B : eB} {s : Nat × Nat × Nat} {a fr len : Nat} {rows : List (List Int32)} (hG : GM G) (hE : EV B) (h : sX B (.inr s) m) (ha : G.2 a = (0, 1, len)) (hl8 : rows.length ≤ 8) (hfr : fr ≤ 8) (hrow : ∀ i : Nat, i < rows.length → m a (fr + i) = (rows.getD i []).getD 0 0) : CT nf xs d 164 [.ref 128, .ref a, .int (Int32.ofNat fr), .int (Int32.ofNat rows.length)] m g G (PF (some (.int (frV B rows s))) g (fun m' => sX B (frO B rows s) m' ∧ rg m m')) := by
  refine CT.of (c := 11) (ini := false) (nL := 5) (rt := some .int) (tab := zt164) rfl (fun d' r h' N hd hr => ?_)
  replace hr : RR nf xs d' 11 false 5 (some .int) zt164 G r h' N (0, [(0, .ref 128), (1, .ref a), (2, .int (Int32.ofNat fr)), (3, .int (Int32.ofNat rows.length))], [], m, g) := hr
  have km1 : (-1 : Int32).toInt = -1 := rfl
  have k1 : (1 : Int32).toInt = 1 := rfl
  have k3 : (3 : Int32).toInt = 3 := rfl
  replace hr := hr.go (s_aload_n t164_0 rfl)
  replace hr := hr.go (s_getf t164_1)
  rcases hr.zEq t164_4 with ⟨b4, hr⟩ | ⟨b4, hr⟩
  · replace hr := hr.go (s_aload_n t164_9 rfl)
    replace hr := hr.go (s_getf t164_10)
    replace hr := hr.go (s_k t164_13)
    rcases hr.bEq t164_14 with ⟨b14, hr⟩ | ⟨b14, hr⟩
    · have hk := (tr_name h.2.1.2.2.2.2).mp b14
      have hva := tr_nm h.2.1.2.2.2.2 hk
      replace hr := hr.go (s_aload_n t164_25 rfl)
      replace hr := hr.go (s_iload_n t164_26 rfl)
      replace hr := hr.go (s_iload_n t164_27 rfl)
      replace hr := hr.go (s_aload_n t164_28 rfl)
      replace hr := hr.go (s_getf t164_29)
      rw [hva] at hr
      replace hr := hr.csI t164_32 rfl rfl (ct_found (rows := rows) ha hl8 hfr hrow)
      replace hr := hr.go (s_k t164_35)
      rcases hr.bEq t164_36 with ⟨b36, hr⟩ | ⟨b36, hr⟩
      · skip
        replace hr := hr.go (s_aload_n t164_44 rfl)
        replace hr := hr.go (s_getf t164_45)
        rcases hr.zEq t164_48 with ⟨b48, hr⟩ | ⟨b48, hr⟩
        · replace hr := hr.go (s_aload_n t164_53 rfl)
          replace hr := hr.go (s_getf t164_54)
          rw [hva] at hr
          replace hr := hr.go (s_istore (ls' := [(4, _), (0, _), (1, _), (2, _), (3, _)]) t164_57 rfl)
          replace hr := hr.go (s_aload_n t164_59 rfl)
          obtain ⟨m2, ⟨h2, hf2⟩, hr⟩ := hr.fvN t164_60 rfl rfl (ct_tokG hG hE h)
          replace hr := hr.go (s_iload t164_63 rfl)
          obtain ⟨rfl, hs⟩ := hr.iret t164_65
          have hq := (oI_m1 hl8).mp b36
          exact ⟨_, _, hs, by unfold frV; rw [if_neg (fun q => q hk), hq], rfl, by unfold frO; rw [if_neg (fun q => q hk), hq]; exact h2, hf2⟩
        · exact absurd h.1 b48
      · replace hr := hr.go (s_aload_n t164_39 rfl)
        replace hr := hr.go (s_k t164_40)
        obtain ⟨m1, ⟨h1, hf1⟩, hr⟩ := hr.fvN t164_41 rfl rfl (ct_wrongG (f := 3) h (by decide) (by decide))
        skip
        replace hr := hr.go (s_aload_n t164_44 rfl)
        replace hr := hr.go (s_getf t164_45)
        rcases hr.zEq t164_48 with ⟨b48, hr⟩ | ⟨b48, hr⟩
        · exact absurd b48 h1.2.1
        · replace hr := hr.go (s_k t164_51)
          obtain ⟨rfl, hs⟩ := hr.iret t164_52
          cases hq : fnd (tV B s.1) rows 0 with
          | none => exact absurd ((oI_m1 hl8).mpr hq) b36
          | some j => exact ⟨_, _, hs, by unfold frV; rw [if_neg (fun q => q hk), hq], rfl, by unfold frO; rw [if_neg (fun q => q hk), hq]; exact h1, hf1⟩
    · have hk : ¬ tK B s.1 = 3 := fun q => b14 ((tr_name h.2.1.2.2.2.2).mpr q)
      replace hr := hr.go (s_aload_n t164_17 rfl)
      replace hr := hr.go (s_k t164_18)
      obtain ⟨m1, ⟨h1, hf1⟩, hr⟩ := hr.fvN t164_19 rfl rfl (ct_wrongG (f := 1) h (by decide) (by decide))
      replace hr := hr.go (s_goto t164_22)
      skip
      replace hr := hr.go (s_aload_n t164_44 rfl)
      replace hr := hr.go (s_getf t164_45)
      rcases hr.zEq t164_48 with ⟨b48, hr⟩ | ⟨b48, hr⟩
      · exact absurd b48 h1.2.1
      · replace hr := hr.go (s_k t164_51)
        obtain ⟨rfl, hs⟩ := hr.iret t164_52
        exact ⟨_, _, hs, by unfold frV; rw [if_pos hk], rfl, by unfold frO; rw [if_pos hk]; exact h1, hf1⟩
  · exact absurd h.1 b4

