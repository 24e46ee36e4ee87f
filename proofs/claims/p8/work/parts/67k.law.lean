/-! The class Reader: a line. -/
noncomputable def exC (B : eB) (i kn : Nat) : (Nat × Nat) ⊕ (Nat × Nat) := @Classical.epsilon ((Nat × Nat) ⊕ (Nat × Nat)) ⟨.inl (0, 0)⟩ (fun o => ∃ f : Nat, gxs B f i kn 0 true [] = some o)
theorem exC_eq {B : eB} {f i kn : Nat} {o : (Nat × Nat) ⊕ (Nat × Nat)} (h : gxs B f i kn 0 true [] = some o) : exC B i kn = o := by
  have h1 : ∃ f : Nat, gxs B f i kn 0 true [] = some (exC B i kn) := @Classical.epsilon_spec ((Nat × Nat) ⊕ (Nat × Nat)) (fun o => ∃ f : Nat, gxs B f i kn 0 true [] = some o) ⟨o, f, h⟩
  obtain ⟨f', h1⟩ := h1
  exact gxs_det h1 h
abbrev eT : Type := Nat → List (List Int32)
/-- tables, laws that are told, knots counted, token -/
abbrev eS : Type := eT × (Nat → Bool) × Nat × Nat
def rul (x : Int32) : Option Nat := if x = 41 then some 0 else if x = 42 then some 1 else if x = 43 then some 2 else none
def eup {α : Type} (f : Nat → α) (k : Nat) (v : α) : Nat → α := fun j => if j = k then v else f j
noncomputable def lawF (B : eB) (L : Nat → Bool) (kn i : Nat) : (Nat × Nat) ⊕ ((Nat → Bool) × Nat × Nat) := match rul (tK B (i + 1)) with
  | none => .inl (1, i + 1)
  | some k => if L k = true then .inl (3, i + 1) else (match exC B (i + 2) kn with
    | .inl e => .inl e
    | .inr s => .inr (eup L k true, s.1, s.2 + 1))
def rowF (B : eB) (w : Nat) (rows : List (List Int32)) : Nat → Nat → List Int32 → Nat → (Nat × Nat) ⊕ (List Int32 × Nat)
  | 0, _, row, i => .inr (row, i)
  | f + 1, c, row, i => match numF B w c row rows i with
    | .inl e => .inl e
    | .inr v => rowF B w rows f (c + 1) (row ++ [v]) (i + 1)
/-- a row up to its ';' -/
def rendF (B : eB) (o : (Nat × Nat) ⊕ (List Int32 × Nat)) : (Nat × Nat) ⊕ (List Int32 × Nat) := match o with
  | .inl e => .inl e
  | .inr s => (match endF B s.2 with
    | .inl e => .inl e
    | .inr _ => .inr (s.1, s.2 + 1))
def tabF (B : eB) (w : Nat) (rows js : List (List Int32)) (i : Nat) : (Nat × Nat) ⊕ (List Int32 × Nat) :=
  if mN w ≤ rows.length then .inl (if mN w = 1 then 3 else 2, i)
  else if 1 ≤ w ∧ w ≤ 3 then (match namF B w rows js (i + 1) with
    | .inl e => .inl e
    | .inr v => rendF B (rowF B w rows (cN w - 1) 1 [v] (i + 2)))
  else rendF B (rowF B w rows (cN w) 0 [] (i + 1))
/-- which word a line begins with -/
def wrd (x : Int32) : Option Nat := if 32 ≤ x.toInt ∧ x.toInt ≤ 40 then some (x.toNatClampNeg - 32) else none
noncomputable def linF (B : eB) (s : eS) : (Nat × Nat) ⊕ eS := match wrd (tK B s.2.2.2) with
  | none => .inl (1, s.2.2.2)
  | some w => if w = 8 then (match lawF B s.2.1 s.2.2.1 s.2.2.2 with
      | .inl e => .inl e
      | .inr q => .inr (s.1, q))
    else (match tabF B w (s.1 w) (s.1 2) s.2.2.2 with
      | .inl e => .inl e
      | .inr q => .inr (eup s.1 w (s.1 w ++ [q.1]), s.2.1, s.2.2.1, q.2))
/-- what a text has told so far, in the class's cells -/
def AC (B : eB) (P : Nat) (s : eS) (m : xM) : Prop := sC B s.2.2.2 m ∧ (∀ w : Nat, w < 8 → tbC (P + 1 + 2 * w) (P + 2 + 2 * w) (cN w) (mN w) (s.1 w) m) ∧ (∀ k : Nat, k < 3 → s.2.1 k = decide (0 ≤ (m (P + 21) k).toInt)) ∧ 0 ≤ (m (P + 17) 4).toInt ∧ m 2 4 = Int32.ofNat s.2.2.1 ∧ s.2.2.1 ≤ 64 ∧ ft m
theorem ct_stands {nf : Bool} {xs : List Int32} {d : Nat} {m : xM} {g : xL} {G : xG} {P k : Nat} (hG : GP G P) (hk : k < 3) : CT nf xs d 2 [.ref (P + 17), .int (Int32.ofNat k)] m g G (PE (some (.int (bI (decide (0 ≤ (m (P + 21) k).toInt))))) m g) := by
  refine CT.of (c := 0) (ini := false) (nL := 2) (rt := some .boolean) (tab := zt2) rfl (fun d' r h' N hd hr => ?_)
  replace hr : RR nf xs d' 0 false 2 (some .boolean) zt2 G r h' N (0, [(0, .ref (P + 17)), (1, .int (Int32.ofNat k))], [], m, g) := hr
  have k1 : (1 : Int32).toInt = 1 := rfl
  have k2 : (2 : Int32).toInt = 2 := rfl
  have q1 : (Int32.ofNat k).toInt = (k : Int) := xn_int (by omega)
  have q2 : (Int32.ofNat k).toNatClampNeg = k := xn_nat (by omega)
  replace hr := hr.go (s_iload_n t2_0 rfl)
  rcases hr.zLt t2_1 with ⟨b1, hr⟩ | ⟨b1, hr⟩
  · replace hr := hr.go (s_k t2_22)
    obtain ⟨rfl, hs⟩ := hr.iret t2_23
    exact (by omega : False).elim
  · replace hr := hr.go (s_iload_n t2_4 rfl)
    replace hr := hr.go (s_k t2_5)
    rcases hr.bGt t2_6 with ⟨b6, hr⟩ | ⟨b6, hr⟩
    · replace hr := hr.go (s_k t2_22)
      obtain ⟨rfl, hs⟩ := hr.iret t2_23
      exact (by omega : False).elim
    · replace hr := hr.go (s_aload_n t2_9 rfl)
      replace hr := hr.go (s_getr t2_10 (hG.2.2.2.2.2.2.2.2.2.2.1))
      replace hr := hr.go (s_iload_n t2_13 rfl)
      replace hr := hr.go (s_iaload t2_14 (hG.2.2.2.2.2.2.2.2.2.2.2))
      rcases hr.zLt t2_15 with ⟨b15, hr⟩ | ⟨b15, hr⟩
      · replace hr := hr.go (s_k t2_22)
        obtain ⟨rfl, hs⟩ := hr.iret t2_23
        exact ⟨_, _, hs, by rw [q2] at b15; rw [decide_eq_false (by omega : ¬ 0 ≤ (m (P + 21) k).toInt)]; rfl, rfl, rfl⟩
      · replace hr := hr.go (s_k t2_18)
        replace hr := hr.go (s_goto t2_19)
        obtain ⟨rfl, hs⟩ := hr.iret t2_23
        exact ⟨_, _, hs, by rw [q2] at b15; rw [decide_eq_true b15]; rfl, rfl, rfl⟩

theorem ct_lbegin {nf : Bool} {xs : List Int32} {d : Nat} {m : xM} {g : xL} {G : xG} {P k : Nat} (hG : GP G P) (hk : k < 3) : CT nf xs d 3 [.ref (P + 17), .int (Int32.ofNat k)] m g G (PE none (xu m (P + 20) k (m (P + 17) 4)) g) := by
  refine CT.of (c := 0) (ini := false) (nL := 2) (rt := none) (tab := zt3) rfl (fun d' r h' N hd hr => ?_)
  replace hr : RR nf xs d' 0 false 2 (none) zt3 G r h' N (0, [(0, .ref (P + 17)), (1, .int (Int32.ofNat k))], [], m, g) := hr
  have k2 : (2 : Int32).toInt = 2 := rfl
  have q1 : (Int32.ofNat k).toInt = (k : Int) := xn_int (by omega)
  have q2 : (Int32.ofNat k).toNatClampNeg = k := xn_nat (by omega)
  replace hr := hr.go (s_iload_n t3_0 rfl)
  rcases hr.zLt t3_1 with ⟨b1, hr⟩ | ⟨b1, hr⟩
  · obtain ⟨rfl, hs⟩ := hr.ret t3_19
    exact (by omega : False).elim
  · replace hr := hr.go (s_iload_n t3_4 rfl)
    replace hr := hr.go (s_k t3_5)
    rcases hr.bGt t3_6 with ⟨b6, hr⟩ | ⟨b6, hr⟩
    · obtain ⟨rfl, hs⟩ := hr.ret t3_19
      exact (by omega : False).elim
    · replace hr := hr.go (s_aload_n t3_9 rfl)
      replace hr := hr.go (s_getr t3_10 (hG.2.2.2.2.2.2.2.2.2.1))
      replace hr := hr.go (s_iload_n t3_13 rfl)
      replace hr := hr.go (s_aload_n t3_14 rfl)
      replace hr := hr.go (s_getf t3_15)
      replace hr := hr.go (s_iastore t3_18)
      obtain ⟨rfl, hs⟩ := hr.ret t3_19
      exact ⟨_, _, hs, rfl, by rw [q2], rfl⟩

theorem ct_lend {nf : Bool} {xs : List Int32} {d : Nat} {m : xM} {g : xL} {G : xG} {P k : Nat} (hG : GP G P) (hk : k < 3) : CT nf xs d 4 [.ref (P + 17), .int (Int32.ofNat k)] m g G (PE none (xu m (P + 21) k (m (P + 17) 4)) g) := by
  refine CT.of (c := 0) (ini := false) (nL := 2) (rt := none) (tab := zt4) rfl (fun d' r h' N hd hr => ?_)
  replace hr : RR nf xs d' 0 false 2 (none) zt4 G r h' N (0, [(0, .ref (P + 17)), (1, .int (Int32.ofNat k))], [], m, g) := hr
  have k2 : (2 : Int32).toInt = 2 := rfl
  have q1 : (Int32.ofNat k).toInt = (k : Int) := xn_int (by omega)
  have q2 : (Int32.ofNat k).toNatClampNeg = k := xn_nat (by omega)
  replace hr := hr.go (s_iload_n t4_0 rfl)
  rcases hr.zLt t4_1 with ⟨b1, hr⟩ | ⟨b1, hr⟩
  · obtain ⟨rfl, hs⟩ := hr.ret t4_19
    exact (by omega : False).elim
  · replace hr := hr.go (s_iload_n t4_4 rfl)
    replace hr := hr.go (s_k t4_5)
    rcases hr.bGt t4_6 with ⟨b6, hr⟩ | ⟨b6, hr⟩
    · obtain ⟨rfl, hs⟩ := hr.ret t4_19
      exact (by omega : False).elim
    · replace hr := hr.go (s_aload_n t4_9 rfl)
      replace hr := hr.go (s_getr t4_10 (hG.2.2.2.2.2.2.2.2.2.2.1))
      replace hr := hr.go (s_iload_n t4_13 rfl)
      replace hr := hr.go (s_aload_n t4_14 rfl)
      replace hr := hr.go (s_getf t4_15)
      replace hr := hr.go (s_iastore t4_18)
      obtain ⟨rfl, hs⟩ := hr.ret t4_19
      exact ⟨_, _, hs, rfl, by rw [q2], rfl⟩

theorem rul_n {x : Int32} (h : ¬ (41 ≤ x.toInt ∧ x.toInt ≤ 43)) : rul x = none := by
  unfold rul
  rw [if_neg (fun q => by rw [q] at h; exact h (by decide)), if_neg (fun q => by rw [q] at h; exact h (by decide)), if_neg (fun q => by rw [q] at h; exact h (by decide))]
theorem rul_k {x : Int32} (h1 : 41 ≤ x.toInt) (h2 : x.toInt ≤ 43) : ∃ k : Nat, k < 3 ∧ rul x = some k ∧ x - 41 = Int32.ofNat k := by
  rcases (show x.toInt = 41 ∨ x.toInt = 42 ∨ x.toInt = 43 by omega) with q | q | q
  · rw [show x = 41 from Int32.toInt_inj.mp q]; exact ⟨0, by decide, by decide, by decide⟩
  · rw [show x = 42 from Int32.toInt_inj.mp q]; exact ⟨1, by decide, by decide, by decide⟩
  · rw [show x = 43 from Int32.toInt_inj.mp q]; exact ⟨2, by decide, by decide, by decide⟩
/-- a small one less 41 -/
theorem m41 {x : Int32} (h0 : 0 ≤ x.toInt) (h1 : x.toInt ≤ 100) : (x - 41).toInt = x.toInt - 41 := by
  rw [Int32.toInt_sub, show (41 : Int32).toInt = 41 from rfl]
  exact Int.bmod_eq_of_le (by omega) (by omega)
theorem tK_b {B : eB} (hE : EV B) (i : Nat) : 0 ≤ (tK B i).toInt ∧ (tK B i).toInt ≤ 53 := by
  have h := (tok_same (b := B.1) (wd := B.2.1) (n := B.2.2) (p := tps B i) (old := 0) hE.1 (tps_le hE i) hE.2.1).1
  have h : TR (tK B i) _ _ _ := h
  rcases h with q | q | q | q | ⟨w, w1, q, -⟩ | ⟨-, q⟩
  · rw [q.1]; decide
  · rw [q.1]; decide
  · rw [q.1]; decide
  · rw [q.1]; decide
  · have e : tK B i = Int32.ofNat (32 + w) := q.trans (xn_add (p := 32) (k := w))
    rw [e, xn_int (by omega)]
    omega
  · rcases q with q | q | q | q | q | q | q | q | q | q | q | q | q <;> (rw [q.1]; decide)
theorem ct_readLaw {nf : Bool} {xs : List Int32} {d : Nat} {m : xM} {g : xL} {G : xG} {B : eB} {P i kn : Nat} {L : Nat → Bool} (hG : GP G P) (hE : EV B) (hs0 : sC B i m) (hL : ∀ k : Nat, k < 3 → L k = decide (0 ≤ (m (P + 21) k).toInt)) (hz : 0 ≤ (m (P + 17) 4).toInt) (hkn : m 2 4 = Int32.ofNat kn) (hkb : kn ≤ 64) (hft : ft m) : CT nf xs d 36 [.ref 2, .ref (P + 17)] m g G (OC B (lawF B L kn i) g (fun q m' => i < q.2.2 ∧ sC B q.2.2 m' ∧ (∀ k : Nat, k < 3 → q.1 k = decide (0 ≤ (m' (P + 21) k).toInt)) ∧ 0 ≤ (m' (P + 17) 4).toInt ∧ m' 2 4 = Int32.ofNat q.2.1 ∧ q.2.1 ≤ 64 ∧ ft m' ∧ ∀ a : Nat, ¬ a = 2 → ¬ a = 3 → ¬ a = 6 → ¬ a = P + 17 → ¬ a = P + 18 → ¬ a = P + 19 → ¬ a = P + 20 → ¬ a = P + 21 → m' a = m a)) := by
  refine CT.of (c := 4) (ini := false) (nL := 3) (rt := some .boolean) (tab := zt36) rfl (fun d' r h' N hd hr => ?_)
  replace hr : RR nf xs d' 4 false 3 (some .boolean) zt36 G r h' N (0, [(0, .ref 2), (1, .ref (P + 17))], [], m, g) := hr
  have k1 : (1 : Int32).toInt = 1 := rfl
  have k2 : (2 : Int32).toInt = 2 := rfl
  have k3 : (3 : Int32).toInt = 3 := rfl
  have k41 : (41 : Int32).toInt = 41 := rfl
  have h7 := hG.2.2.2.2.1
  replace hr := hr.go (s_aload_n t36_0 rfl)
  replace hr := hr.go (s_getr t36_1 (hG.2.1))
  obtain ⟨m1, ⟨hs1, hf1⟩, hr⟩ := hr.fvN t36_4 rfl rfl (ct_advS hG.1 hE hs0)
  replace hr := hr.go (s_aload_n t36_7 rfl)
  replace hr := hr.go (s_getr t36_8 (hG.2.1))
  replace hr := hr.go (s_getf t36_11)
  rw [hs1.2.2.2.2.1] at hr
  have hkb2 := tK_b hE (i + 1)
  have q41 : (tK B (i + 1) - 41).toInt = (tK B (i + 1)).toInt - 41 := m41 hkb2.1 (by omega)
  replace hr := hr.go (s_k t36_14)
  replace hr := hr.go (s_isub t36_16)
  replace hr := hr.go (s_istore_n (ls' := [(2, _), (0, _), (1, _)]) t36_17 rfl)
  replace hr := hr.go (s_iload_n t36_18 rfl)
  rcases hr.zLt t36_19 with ⟨b19, hr⟩ | ⟨b19, hr⟩
  · replace hr := hr.go (s_aload_n t36_27 rfl)
    replace hr := hr.go (s_k t36_28)
    obtain ⟨_, m9, _, ⟨rfl, rfl, ho⟩, hr⟩ := hr.callv t36_29 rfl rfl (ct_ref (B := B) (i := i + 1) (f := 1) (α := Unit) (Q := fun _ _ => True) hG.2.1 hs1)
    obtain ⟨rfl, hs⟩ := hr.iret t36_32
    unfold lawF
    rw [rul_n (by omega)]
    exact ⟨_, _, hs, rfl, rfl, ho⟩
  · replace hr := hr.go (s_iload_n t36_22 rfl)
    replace hr := hr.go (s_k t36_23)
    rcases hr.bLe t36_24 with ⟨b24, hr⟩ | ⟨b24, hr⟩
    · obtain ⟨k, hk, hrul, e41⟩ := rul_k (x := tK B (i + 1)) (by omega) (by omega)
      rw [e41] at hr
      replace hr := hr.go (s_aload_n t36_33 rfl)
      replace hr := hr.go (s_iload_n t36_34 rfl)
      replace hr := hr.cvI t36_35 rfl rfl (ct_stands hG hk)
      rcases hr.zEq t36_38 with ⟨b38, hr⟩ | ⟨b38, hr⟩
      · replace hr := hr.go (s_aload_n t36_47 rfl)
        replace hr := hr.go (s_getr t36_48 (hG.2.1))
        obtain ⟨m2, ⟨hs2, hf2⟩, hr⟩ := hr.fvN t36_51 rfl rfl (ct_advS hG.1 hE hs1)
        replace hr := hr.go (s_aload_n t36_54 rfl)
        replace hr := hr.go (s_iload_n t36_55 rfl)
        replace hr := hr.cvN t36_56 rfl rfl (ct_lbegin hG hk)
        replace hr := hr.go (s_aload_n t36_59 rfl)
        replace hr := hr.go (s_aload_n t36_60 rfl)
        obtain ⟨r1, m4, g4, ⟨f, o, hx, rfl, ho⟩, hr⟩ := hr.callv t36_61 rfl rfl (ct_expr (kn := kn) hG hE (sC_row hs2 (xu_row (by omega)) (xu_row (by omega)) (xu_row (by omega))) (by rw [xu_row (by omega), hf2 2 (by omega), hf1 2 (by omega)]; exact hkn) hkb (by rw [xu_row (by omega), hf2 _ (by omega), hf1 _ (by omega)]; exact hz) (ft_row hft (by rw [xu_row (by omega), hf2 2 (by omega), hf1 2 (by omega)])))
        have hxg := hx
        have hx := exC_eq hx
        cases o with
        | inl e =>
          obtain ⟨rfl, ho⟩ := ho
          rcases hr.zNe t36_64 with ⟨b64, hr⟩ | ⟨b64, hr⟩
          · exact absurd b64 (by decide)
          · replace hr := hr.go (s_k t36_67)
            obtain ⟨rfl, hs⟩ := hr.iret t36_68
            unfold lawF
            rw [hrul]
            dsimp only
            rw [if_neg (by rw [hL k hk, ← hf1 _ (by omega), bI_0 b38]; decide), hx]
            exact ⟨_, _, hs, rfl, rfl, ho⟩
        | inr s =>
          obtain ⟨rfl, hs4, h44, hk4, hb4, hz4, hft4, hf4⟩ := ho
          rcases hr.zNe t36_64 with ⟨b64, hr⟩ | ⟨b64, hr⟩
          · replace hr := hr.go (s_aload_n t36_69 rfl)
            replace hr := hr.go (s_iload_n t36_70 rfl)
            replace hr := hr.cvN t36_71 rfl rfl (ct_lend hG hk)
            replace hr := hr.go (s_aload_n t36_74 rfl)
            obtain ⟨r1, m6, g6, ⟨rfl, ho⟩, hr⟩ := hr.callv t36_75 rfl rfl (ct_readEnd (i := s.2) hG hE (sC_row hs4 (xu_row (by omega)) (xu_row (by omega)) (xu_row (by omega))))
            unfold endF at ho
            rw [if_pos h44] at ho
            obtain ⟨rfl, hs6, hf6⟩ := ho
            obtain ⟨rfl, hs⟩ := hr.iret t36_78
            unfold lawF
            rw [hrul]
            dsimp only
            rw [if_neg (by rw [hL k hk, ← hf1 _ (by omega), bI_0 b38]; decide), hx]
            refine ⟨_, _, hs, rfl, rfl, by have := gxs_i _ _ _ _ _ _ _ hxg; dsimp only; omega, hs6, fun j hj => ?_, ?_, ?_, hb4, ft_row hft4 (by rw [hf6 2 (by omega), xu_row (by omega)]), fun a a1 a2 a3 a4 a5 a6 a7 a8 => ?_⟩
            · rw [hf6 _ (by omega)]
              show (if j = k then true else L j) = _
              by_cases hjk : j = k
              · rw [if_pos hjk, hjk, xu_same, decide_eq_true hz4]
              · rw [if_neg hjk, xu_oth (by omega), hf4 _ (by omega) (by omega) (by omega) (by omega) (by omega) (by omega), xu_row (by omega), hf2 _ (by omega), hf1 _ (by omega)]
                exact hL j hj
            · rw [hf6 _ (by omega), xu_oth (by omega)]; exact hz4
            · rw [hf6 _ (by omega), xu_row (by omega)]; exact hk4
            · rw [hf6 a a2, xu_row a8, hf4 a a1 a2 a3 a4 a5 a6, xu_row a7, hf2 a a2, hf1 a a2]
          · exact absurd b64 (by decide)
      · replace hr := hr.go (s_aload_n t36_41 rfl)
        replace hr := hr.go (s_k t36_42)
        obtain ⟨_, m9, _, ⟨rfl, rfl, ho⟩, hr⟩ := hr.callv t36_43 rfl rfl (ct_ref (B := B) (i := i + 1) (f := 3) (α := Unit) (Q := fun _ _ => True) hG.2.1 hs1)
        obtain ⟨rfl, hs⟩ := hr.iret t36_46
        unfold lawF
        rw [hrul]
        dsimp only
        rw [if_pos (by rw [hL k hk, ← hf1 _ (by omega)]; exact bI_1 b38)]
        exact ⟨_, _, hs, rfl, rfl, ho⟩
    · replace hr := hr.go (s_aload_n t36_27 rfl)
      replace hr := hr.go (s_k t36_28)
      obtain ⟨_, m9, _, ⟨rfl, rfl, ho⟩, hr⟩ := hr.callv t36_29 rfl rfl (ct_ref (B := B) (i := i + 1) (f := 1) (α := Unit) (Q := fun _ _ => True) hG.2.1 hs1)
      obtain ⟨rfl, hs⟩ := hr.iret t36_32
      unfold lawF
      rw [rul_n (by omega)]
      exact ⟨_, _, hs, rfl, rfl, ho⟩

