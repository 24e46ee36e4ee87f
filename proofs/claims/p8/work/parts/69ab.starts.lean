/-! The reference: its row 0 begun, exactly (by program: wip/x/gV8.py). -/
/-- seats and tellings of the row that now is, as the first halves have them -/
def bSe (R : Nat) (f : Nat → Int32) (p : Nat) : Int32 := if p < R then f p else 0
def bTe (J : Nat) (f : Nat → Int64) (p : Nat) : Int64 := if p < J then f p else 0
def GS0 (G : xG) : Prop := (∀ k : Nat, 37 ≤ k → k ≤ 51 → G.1 128 k = some (113 + k)) ∧ G.1 128 3 = some 130 ∧ G.1 128 7 = some 134 ∧ G.1 128 12 = some 139 ∧ G.2 130 = (0, 1, 18) ∧ G.2 134 = (0, 1, 12)
theorem ix0 {k : Nat} : (6 : Int32) * 0 + Int32.ofNat k = Int32.ofNat k := by
  rw [show (6 : Int32) * 0 = 0 from rfl, Int32.zero_add]
theorem lp188y {nf : Bool} {xs : List Int32} {d : Nat} {g : xL} {G : xG} {r : Option Value} {h' : zH} {b i : Int32} {m0 : xM} (hG : GS0 G) : ∀ (N : Nat) (k : Int32) (m : xM), (∀ c : Nat, ¬ c = 163 → m c = m0 c) → RR nf xs d 11 false 5 none zt188 G r h' N (180, [(2, .int k), (4, .int b), (3, .int i), (0, .ref 128), (1, .int 0)], [], m, g) → ∃ (m' : xM) (g' : xL), HS h' m' g' G ∧ r = none ∧ g' = g ∧ ∀ c : Nat, ¬ c = 163 → m' c = m0 c := by
  intro N
  induction N with
  | zero => intro k m _ hr; exact hr.no.elim
  | succ N ih =>
    intro k m hm hr
    replace hr := hr.go1 (s_iload_n t188_180 rfl)
    replace hr := hr.go (s_k t188_181)
    rcases hr.bGe t188_183 with ⟨b183, hr⟩ | ⟨b183, hr⟩
    · obtain ⟨rfl, hs⟩ := hr.ret t188_204
      exact ⟨_, _, hs, rfl, rfl, hm⟩
    · replace hr := hr.go (s_aload_n t188_186 rfl)
      replace hr := hr.go (s_getr t188_187 (hG.1 50 (by decide) (by decide)))
      replace hr := hr.go (s_k t188_190)
      replace hr := hr.go (s_iload_n t188_192 rfl)
      replace hr := hr.go (s_imul t188_193)
      replace hr := hr.go (s_iload_n t188_194 rfl)
      replace hr := hr.go (s_iadd t188_195)
      replace hr := hr.go (s_k t188_196)
      replace hr := hr.go (s_iastore t188_197)
      replace hr := hr.go (s_iinc (ls' := [(2, _), (4, _), (3, _), (0, _), (1, _)]) t188_198 rfl rfl)
      replace hr := hr.go (s_goto t188_201)
      exact ih _ _ (fun c hc => (xu_row hc).trans (hm c hc)) hr
theorem bd188y {nf : Bool} {xs : List Int32} {d : Nat} {g : xL} {G : xG} {r : Option Value} {h' : zH} {k R J N : Nat} {b : Int32} {m : xM} (hG : GS0 G) (hR : m 130 1 = Int32.ofNat R) (hJ : m 130 2 = Int32.ofNat J) (hR6 : R ≤ 6) (hJ6 : J ≤ 6) (hk : k < 6) (hb : b = 1 ∧ k < R ∨ b = 0 ∧ R ≤ k) (hr : RR nf xs d 11 false 5 none zt188 G r h' N (74, [(4, .int b), (3, .int (Int32.ofNat k)), (2, .int (Int32.ofNat k)), (0, .ref 128), (1, .int 0)], [], m, g)) : ∃ (m2 : xM) (g2 : xL), (∀ c : Nat, c < 156 ∨ 162 < c → m2 c = m c) ∧ (∀ c : Nat, ¬ c = 164 → g2 c = g c) ∧ (∀ q : Nat, m2 156 q = if q = k then bSe R (m 134) k else m 156 q) ∧ (∀ q : Nat, g2 164 q = if q = k then bTe J (g 139) k else g 164 q) ∧ RR nf xs d 11 false 5 none zt188 G r h' N (44, [(2, .int (Int32.ofNat (k + 1))), (4, .int b), (3, .int (Int32.ofNat k)), (0, .ref 128), (1, .int 0)], [], m2, g2) := by
  have qk : (Int32.ofNat k).toInt = (k : Int) := xn_int (by omega)
  have qJ : (Int32.ofNat J).toInt = (J : Int) := xn_int (by omega)
  rcases hb with ⟨rfl, hk2⟩ | ⟨rfl, hk2⟩
  · replace hr := hr.go (s_aload_n t188_74 rfl)
    replace hr := hr.go (s_getr t188_75 (hG.1 43 (by decide) (by decide)))
    replace hr := hr.go (s_iload_n t188_78 rfl)
    replace hr := hr.go (s_iload t188_79 rfl)
    replace hr := hr.bzF t188_81 (by decide)
    replace hr := hr.go (s_aload_n t188_84 rfl)
    replace hr := hr.go (s_getr t188_85 (hG.2.2.1))
    replace hr := hr.go (s_iload_n t188_88 rfl)
    replace hr := hr.go (s_iaload t188_89 (hG.2.2.2.2.2))
    replace hr := hr.go (s_goto t188_90)
    replace hr := hr.go (s_iastore t188_94)
    replace hr := hr.go (s_aload_n t188_95 rfl)
    replace hr := hr.go (s_getr t188_96 (hG.1 44 (by decide) (by decide)))
    replace hr := hr.go (s_iload_n t188_99 rfl)
    replace hr := hr.go (s_k t188_100)
    replace hr := hr.go (s_iastore t188_101)
    replace hr := hr.go (s_aload_n t188_102 rfl)
    replace hr := hr.go (s_getr t188_103 (hG.1 45 (by decide) (by decide)))
    replace hr := hr.go (s_iload_n t188_106 rfl)
    replace hr := hr.go (s_iload t188_107 rfl)
    replace hr := hr.bzF t188_109 (by decide)
    replace hr := hr.go (s_k t188_112)
    replace hr := hr.go (s_goto t188_113)
    replace hr := hr.go (s_iastore t188_117)
    replace hr := hr.go (s_aload_n t188_118 rfl)
    replace hr := hr.go (s_getr t188_119 (hG.1 46 (by decide) (by decide)))
    replace hr := hr.go (s_iload_n t188_122 rfl)
    replace hr := hr.go (s_k t188_123)
    replace hr := hr.go (s_iastore t188_124)
    replace hr := hr.go (s_aload_n t188_125 rfl)
    replace hr := hr.go (s_getr t188_126 (hG.1 47 (by decide) (by decide)))
    replace hr := hr.go (s_iload_n t188_129 rfl)
    replace hr := hr.go (s_k t188_130)
    replace hr := hr.go (s_iastore t188_131)
    replace hr := hr.go (s_aload_n t188_132 rfl)
    replace hr := hr.go (s_getr t188_133 (hG.1 48 (by decide) (by decide)))
    replace hr := hr.go (s_iload_n t188_136 rfl)
    replace hr := hr.go (s_k t188_137)
    replace hr := hr.go (s_iastore t188_138)
    replace hr := hr.go (s_aload_n t188_139 rfl)
    replace hr := hr.go (s_getr t188_140 (hG.1 49 (by decide) (by decide)))
    replace hr := hr.go (s_iload_n t188_143 rfl)
    replace hr := hr.go (s_k t188_144)
    replace hr := hr.go (s_iastore t188_145)
    replace hr := hr.go (s_aload_n t188_146 rfl)
    replace hr := hr.go (s_getr t188_147 (hG.1 51 (by decide) (by decide)))
    replace hr := hr.go (s_iload_n t188_150 rfl)
    replace hr := hr.go (s_iload_n t188_151 rfl)
    replace hr := hr.go (s_aload_n t188_152 rfl)
    replace hr := hr.go (s_getr t188_153 (hG.2.1))
    replace hr := hr.go (s_k t188_156)
    replace hr := hr.go (s_iaload t188_157 (hG.2.2.2.2.1))
    repeat rw [xu_row (b := 130) (by decide)] at hr
    rw [show m 130 (Int32.toNatClampNeg 2) = Int32.ofNat J from hJ] at hr
    rcases hr.bGe t188_158 with ⟨b158, hr⟩ | ⟨b158, hr⟩
    · replace hr := hr.go (s_lconst t188_170)
      replace hr := hr.go (s_lastore t188_171)
      rw [xn_nat (show k < 2147483648 by omega)] at hr
      replace hr := hr.go (s_iinc (ls' := [(2, _), (4, _), (3, _), (0, _), (1, _)]) t188_172 rfl rfl)
      rw [xn_1i] at hr
      replace hr := hr.go (s_goto t188_175)
      refine ⟨_, _, fun c hc => ?_, fun c hc => xu_row hc, fun q => ?_, fun q => ?_, hr⟩
      · repeat rw [xu_row (by omega)]
      · repeat rw [xu_row (by decide)]
        rw [xu_at, show bSe R (m 134) k = m 134 k from if_pos hk2]
      · rw [xu_at, show bTe J (g 139) k = 0 from if_neg (by omega)]
        rfl
    · replace hr := hr.go (s_aload_n t188_161 rfl)
      replace hr := hr.go (s_getr t188_162 (hG.2.2.2.1))
      replace hr := hr.go (s_iload_n t188_165 rfl)
      replace hr := hr.go (s_laload t188_166)
      replace hr := hr.go (s_goto t188_167)
      replace hr := hr.go (s_lastore t188_171)
      rw [xn_nat (show k < 2147483648 by omega)] at hr
      replace hr := hr.go (s_iinc (ls' := [(2, _), (4, _), (3, _), (0, _), (1, _)]) t188_172 rfl rfl)
      rw [xn_1i] at hr
      replace hr := hr.go (s_goto t188_175)
      refine ⟨_, _, fun c hc => ?_, fun c hc => xu_row hc, fun q => ?_, fun q => ?_, hr⟩
      · repeat rw [xu_row (by omega)]
      · repeat rw [xu_row (by decide)]
        rw [xu_at, show bSe R (m 134) k = m 134 k from if_pos hk2]
      · rw [xu_at, show bTe J (g 139) k = g 139 k from if_pos (by omega)]
  · replace hr := hr.go (s_aload_n t188_74 rfl)
    replace hr := hr.go (s_getr t188_75 (hG.1 43 (by decide) (by decide)))
    replace hr := hr.go (s_iload_n t188_78 rfl)
    replace hr := hr.go (s_iload t188_79 rfl)
    replace hr := hr.bzT t188_81 (by decide)
    replace hr := hr.go (s_k t188_93)
    replace hr := hr.go (s_iastore t188_94)
    replace hr := hr.go (s_aload_n t188_95 rfl)
    replace hr := hr.go (s_getr t188_96 (hG.1 44 (by decide) (by decide)))
    replace hr := hr.go (s_iload_n t188_99 rfl)
    replace hr := hr.go (s_k t188_100)
    replace hr := hr.go (s_iastore t188_101)
    replace hr := hr.go (s_aload_n t188_102 rfl)
    replace hr := hr.go (s_getr t188_103 (hG.1 45 (by decide) (by decide)))
    replace hr := hr.go (s_iload_n t188_106 rfl)
    replace hr := hr.go (s_iload t188_107 rfl)
    replace hr := hr.bzT t188_109 (by decide)
    replace hr := hr.go (s_k t188_116)
    replace hr := hr.go (s_iastore t188_117)
    replace hr := hr.go (s_aload_n t188_118 rfl)
    replace hr := hr.go (s_getr t188_119 (hG.1 46 (by decide) (by decide)))
    replace hr := hr.go (s_iload_n t188_122 rfl)
    replace hr := hr.go (s_k t188_123)
    replace hr := hr.go (s_iastore t188_124)
    replace hr := hr.go (s_aload_n t188_125 rfl)
    replace hr := hr.go (s_getr t188_126 (hG.1 47 (by decide) (by decide)))
    replace hr := hr.go (s_iload_n t188_129 rfl)
    replace hr := hr.go (s_k t188_130)
    replace hr := hr.go (s_iastore t188_131)
    replace hr := hr.go (s_aload_n t188_132 rfl)
    replace hr := hr.go (s_getr t188_133 (hG.1 48 (by decide) (by decide)))
    replace hr := hr.go (s_iload_n t188_136 rfl)
    replace hr := hr.go (s_k t188_137)
    replace hr := hr.go (s_iastore t188_138)
    replace hr := hr.go (s_aload_n t188_139 rfl)
    replace hr := hr.go (s_getr t188_140 (hG.1 49 (by decide) (by decide)))
    replace hr := hr.go (s_iload_n t188_143 rfl)
    replace hr := hr.go (s_k t188_144)
    replace hr := hr.go (s_iastore t188_145)
    replace hr := hr.go (s_aload_n t188_146 rfl)
    replace hr := hr.go (s_getr t188_147 (hG.1 51 (by decide) (by decide)))
    replace hr := hr.go (s_iload_n t188_150 rfl)
    replace hr := hr.go (s_iload_n t188_151 rfl)
    replace hr := hr.go (s_aload_n t188_152 rfl)
    replace hr := hr.go (s_getr t188_153 (hG.2.1))
    replace hr := hr.go (s_k t188_156)
    replace hr := hr.go (s_iaload t188_157 (hG.2.2.2.2.1))
    repeat rw [xu_row (b := 130) (by decide)] at hr
    rw [show m 130 (Int32.toNatClampNeg 2) = Int32.ofNat J from hJ] at hr
    rcases hr.bGe t188_158 with ⟨b158, hr⟩ | ⟨b158, hr⟩
    · replace hr := hr.go (s_lconst t188_170)
      replace hr := hr.go (s_lastore t188_171)
      rw [xn_nat (show k < 2147483648 by omega)] at hr
      replace hr := hr.go (s_iinc (ls' := [(2, _), (4, _), (3, _), (0, _), (1, _)]) t188_172 rfl rfl)
      rw [xn_1i] at hr
      replace hr := hr.go (s_goto t188_175)
      refine ⟨_, _, fun c hc => ?_, fun c hc => xu_row hc, fun q => ?_, fun q => ?_, hr⟩
      · repeat rw [xu_row (by omega)]
      · repeat rw [xu_row (by decide)]
        rw [xu_at, show bSe R (m 134) k = 0 from if_neg (by omega)]
      · rw [xu_at, show bTe J (g 139) k = 0 from if_neg (by omega)]
        rfl
    · replace hr := hr.go (s_aload_n t188_161 rfl)
      replace hr := hr.go (s_getr t188_162 (hG.2.2.2.1))
      replace hr := hr.go (s_iload_n t188_165 rfl)
      replace hr := hr.go (s_laload t188_166)
      replace hr := hr.go (s_goto t188_167)
      replace hr := hr.go (s_lastore t188_171)
      rw [xn_nat (show k < 2147483648 by omega)] at hr
      replace hr := hr.go (s_iinc (ls' := [(2, _), (4, _), (3, _), (0, _), (1, _)]) t188_172 rfl rfl)
      rw [xn_1i] at hr
      replace hr := hr.go (s_goto t188_175)
      refine ⟨_, _, fun c hc => ?_, fun c hc => xu_row hc, fun q => ?_, fun q => ?_, hr⟩
      · repeat rw [xu_row (by omega)]
      · repeat rw [xu_row (by decide)]
        rw [xu_at, show bSe R (m 134) k = 0 from if_neg (by omega)]
      · rw [xu_at, show bTe J (g 139) k = g 139 k from if_pos (by omega)]
theorem lp188x {nf : Bool} {xs : List Int32} {d : Nat} {G : xG} {r : Option Value} {h' : zH} {R J : Nat} {m0 : xM} {g0 : xL} (hG : GS0 G) (hR : m0 130 1 = Int32.ofNat R) (hJ : m0 130 2 = Int32.ofNat J) (hR6 : R ≤ 6) (hJ6 : J ≤ 6) : ∀ (N k : Nat) (b i : Int32) (m : xM) (g : xL), (∀ c : Nat, c < 156 ∨ 162 < c → m c = m0 c) → (∀ c : Nat, ¬ c = 164 → g c = g0 c) → (∀ q : Nat, q < k → m 156 q = bSe R (m0 134) q) → (∀ q : Nat, q < k → g 164 q = bTe J (g0 139) q) → k ≤ 6 → RR nf xs d 11 false 5 none zt188 G r h' N (44, [(2, .int (Int32.ofNat k)), (4, .int b), (3, .int i), (0, .ref 128), (1, .int 0)], [], m, g) → ∃ (m' : xM) (g' : xL), HS h' m' g' G ∧ r = none ∧ (∀ c : Nat, c < 156 ∨ 163 < c → m' c = m0 c) ∧ (∀ c : Nat, ¬ c = 164 → g' c = g0 c) ∧ (∀ q : Nat, q < 6 → m' 156 q = bSe R (m0 134) q) ∧ ∀ q : Nat, q < 6 → g' 164 q = bTe J (g0 139) q := by
  intro N
  induction N with
  | zero => intro k b i m g _ _ _ _ _ hr; exact hr.no.elim
  | succ N ih =>
    intro k b i m g h1 h2 h3 h4 hk hr
    have qk : (Int32.ofNat k).toInt = (k : Int) := xn_int (by omega)
    have qR : (Int32.ofNat R).toInt = (R : Int) := xn_int (by omega)
    have k6 : (6 : Int32).toInt = 6 := rfl
    have w130 : m 130 = m0 130 := h1 130 (by decide)
    have w134 : m 134 = m0 134 := h1 134 (by decide)
    have w139 : g 139 = g0 139 := h2 139 (by decide)
    replace hr := hr.go1 (s_iload_n t188_44 rfl)
    replace hr := hr.go (s_k t188_45)
    rcases hr.bGe t188_47 with ⟨b47, hr⟩ | ⟨b47, hr⟩
    · replace hr := hr.go (s_k t188_178)
      replace hr := hr.go (s_istore_n (ls' := [(2, _), (4, _), (3, _), (0, _), (1, _)]) t188_179 rfl)
      obtain ⟨m', g', hs, e1, e2, e3⟩ := lp188y hG N _ m (fun c _ => rfl) hr
      subst e2
      exact ⟨m', _, hs, e1, fun c hc => (e3 c (by omega)).trans (h1 c (by omega)), h2, fun q hq => by rw [e3 156 (by decide)]; exact h3 q (by omega), fun q hq => h4 q (by omega)⟩
    · replace hr := hr.go (s_k t188_50)
      replace hr := hr.go (s_iload_n t188_52 rfl)
      replace hr := hr.go (s_imul t188_53)
      replace hr := hr.go (s_iload_n t188_54 rfl)
      replace hr := hr.go (s_iadd t188_55)
      rw [ix0] at hr
      replace hr := hr.go (s_istore_n (ls' := [(3, _), (2, _), (4, _), (0, _), (1, _)]) t188_56 rfl)
      replace hr := hr.go (s_iload_n t188_57 rfl)
      replace hr := hr.go (s_aload_n t188_58 rfl)
      replace hr := hr.go (s_getr t188_59 (hG.2.1))
      replace hr := hr.go (s_k t188_62)
      replace hr := hr.go (s_iaload t188_63 (hG.2.2.2.2.1))
      rw [show m 130 (Int32.toNatClampNeg 1) = Int32.ofNat R from (congrFun w130 1).trans hR] at hr
      rcases hr.bGe t188_64 with ⟨b64, hr⟩ | ⟨b64, hr⟩
      · replace hr := hr.go (s_k t188_71)
        replace hr := hr.go (s_istore (ls' := [(4, _), (3, _), (2, _), (0, _), (1, _)]) t188_72 rfl)
        obtain ⟨m2, g2, f1, f2, f3, f4, hr⟩ := bd188y (k := k) (R := R) (J := J) hG (by rw [w130, hR]) (by rw [w130, hJ]) hR6 hJ6 (by omega) (Or.inr ⟨rfl, by omega⟩) hr
        refine ih (k + 1) _ _ m2 g2 (fun c hc => (f1 c hc).trans (h1 c hc)) (fun c hc => (f2 c hc).trans (h2 c hc)) (fun q hq => ?_) (fun q hq => ?_) (by omega) hr
        · rw [f3 q]
          by_cases e : q = k
          · rw [if_pos e, w134, e]
          · rw [if_neg e]; exact h3 q (by omega)
        · rw [f4 q]
          by_cases e : q = k
          · rw [if_pos e, w139, e]
          · rw [if_neg e]; exact h4 q (by omega)
      · replace hr := hr.go (s_k t188_67)
        replace hr := hr.go (s_goto t188_68)
        replace hr := hr.go (s_istore (ls' := [(4, _), (3, _), (2, _), (0, _), (1, _)]) t188_72 rfl)
        obtain ⟨m2, g2, f1, f2, f3, f4, hr⟩ := bd188y (k := k) (R := R) (J := J) hG (by rw [w130, hR]) (by rw [w130, hJ]) hR6 hJ6 (by omega) (Or.inl ⟨rfl, by omega⟩) hr
        refine ih (k + 1) _ _ m2 g2 (fun c hc => (f1 c hc).trans (h1 c hc)) (fun c hc => (f2 c hc).trans (h2 c hc)) (fun q hq => ?_) (fun q hq => ?_) (by omega) hr
        · rw [f3 q]
          by_cases e : q = k
          · rw [if_pos e, w134, e]
          · rw [if_neg e]; exact h3 q (by omega)
        · rw [f4 q]
          by_cases e : q = k
          · rw [if_pos e, w139, e]
          · rw [if_neg e]; exact h4 q (by omega)
theorem ct_startsX {nf : Bool} {xs : List Int32} {d : Nat} {m : xM} {g : xL} {G : xG} {R J : Nat} (hG : GS0 G) (hR : m 130 1 = Int32.ofNat R) (hJ : m 130 2 = Int32.ofNat J) (hR6 : R ≤ 6) (hJ6 : J ≤ 6) : CT nf xs d 188 [.ref 128, .int 0] m g G (fun r m' g' => r = none ∧ (∀ c : Nat, c < 150 ∨ 163 < c → m' c = m c) ∧ (∀ c : Nat, ¬ c = 164 → g' c = g c) ∧ m' 150 0 = 0 ∧ m' 151 0 = 0 ∧ m' 155 0 = 0 ∧ (∀ q : Nat, q < 6 → m' 156 q = bSe R (m 134) q) ∧ ∀ q : Nat, q < 6 → g' 164 q = bTe J (g 139) q) := by
  refine CT.of (c := 11) (ini := false) (nL := 5) (rt := none) (tab := zt188) rfl (fun d' r h' N hd' hr => ?_)
  replace hr : RR nf xs d' 11 false 5 none zt188 G r h' N (0, [(0, .ref 128), (1, .int 0)], [], m, g) := hr
  have qR : (Int32.ofNat R).toInt = (R : Int) := xn_int (by omega)
  have q0 : (0 : Int32).toInt = 0 := rfl
  replace hr := hr.go (s_aload_n t188_0 rfl)
  replace hr := hr.go (s_getr t188_1 (hG.1 37 (by decide) (by decide)))
  replace hr := hr.go (s_iload_n t188_4 rfl)
  replace hr := hr.go (s_k t188_5)
  replace hr := hr.go (s_iastore t188_6)
  replace hr := hr.go (s_aload_n t188_7 rfl)
  replace hr := hr.go (s_getr t188_8 (hG.1 38 (by decide) (by decide)))
  replace hr := hr.go (s_iload_n t188_11 rfl)
  replace hr := hr.go (s_k t188_12)
  replace hr := hr.go (s_iastore t188_13)
  replace hr := hr.go (s_aload_n t188_14 rfl)
  replace hr := hr.go (s_getr t188_15 (hG.1 39 (by decide) (by decide)))
  replace hr := hr.go (s_iload_n t188_18 rfl)
  replace hr := hr.go (s_k t188_19)
  replace hr := hr.go (s_iastore t188_20)
  replace hr := hr.go (s_aload_n t188_21 rfl)
  replace hr := hr.go (s_getr t188_22 (hG.1 40 (by decide) (by decide)))
  replace hr := hr.go (s_iload_n t188_25 rfl)
  replace hr := hr.go (s_k t188_26)
  replace hr := hr.go (s_iastore t188_27)
  replace hr := hr.go (s_aload_n t188_28 rfl)
  replace hr := hr.go (s_getr t188_29 (hG.1 41 (by decide) (by decide)))
  replace hr := hr.go (s_iload_n t188_32 rfl)
  replace hr := hr.go (s_k t188_33)
  replace hr := hr.go (s_iastore t188_34)
  replace hr := hr.go (s_aload_n t188_35 rfl)
  replace hr := hr.go (s_getr t188_36 (hG.1 42 (by decide) (by decide)))
  replace hr := hr.go (s_iload_n t188_39 rfl)
  replace hr := hr.go (s_k t188_40)
  replace hr := hr.go (s_iastore t188_41)
  obtain ⟨m0, hm0⟩ : ∃ m0 : xM, m0 = xu (xu (xu (xu (xu (xu m 150 (Int32.toNatClampNeg 0) 0) 151 (Int32.toNatClampNeg 0) 0) 152 (Int32.toNatClampNeg 0) 0) 153 (Int32.toNatClampNeg 0) 0) 154 (Int32.toNatClampNeg 0) 0) 155 (Int32.toNatClampNeg 0) 0 := ⟨_, rfl⟩
  have w130 : m0 130 = m 130 := by rw [hm0]; repeat rw [xu_row (by decide)]
  replace hr : RR nf xs d' 11 false 5 none zt188 G r h' N (42, [(0, .ref 128), (1, .int 0)], [], m0, g) := by rw [hm0]; exact hr
  replace hr := hr.go (s_k t188_42)
  replace hr := hr.go (s_istore_n (ls' := [(2, _), (0, _), (1, _)]) t188_43 rfl)
  replace hr := hr.go (s_iload_n t188_44 rfl)
  replace hr := hr.go (s_k t188_45)
  replace hr := hr.brF t188_47 (by decide)
  replace hr := hr.go (s_k t188_50)
  replace hr := hr.go (s_iload_n t188_52 rfl)
  replace hr := hr.go (s_imul t188_53)
  replace hr := hr.go (s_iload_n t188_54 rfl)
  replace hr := hr.go (s_iadd t188_55)
  rw [show (6 : Int32) * 0 + 0 = Int32.ofNat 0 from rfl] at hr
  replace hr := hr.go (s_istore_n (ls' := [(3, _), (2, _), (0, _), (1, _)]) t188_56 rfl)
  replace hr := hr.go (s_iload_n t188_57 rfl)
  replace hr := hr.go (s_aload_n t188_58 rfl)
  replace hr := hr.go (s_getr t188_59 (hG.2.1))
  replace hr := hr.go (s_k t188_62)
  replace hr := hr.go (s_iaload t188_63 (hG.2.2.2.2.1))
  rw [show m0 130 (Int32.toNatClampNeg 1) = Int32.ofNat R from (congrFun w130 1).trans hR] at hr
  rcases hr.bGe t188_64 with ⟨b64, hr⟩ | ⟨b64, hr⟩
  · replace hr := hr.go (s_k t188_71)
    replace hr := hr.go (s_istore (ls' := [(4, _), (3, _), (2, _), (0, _), (1, _)]) t188_72 rfl)
    obtain ⟨m2, g2, f1, f2, f3, f4, hr⟩ := bd188y (k := 0) (R := R) (J := J) hG (by rw [w130]; exact hR) (by rw [w130]; exact hJ) hR6 hJ6 (by omega) (Or.inr ⟨rfl, by omega⟩) hr
    obtain ⟨m', g', hs, e1, e2, e3, e4, e5⟩ := lp188x (m0 := m0) (g0 := g) hG (by rw [w130]; exact hR) (by rw [w130]; exact hJ) hR6 hJ6 _ 1 _ _ m2 g2 f1 f2 (fun q hq => by rw [f3 q, if_pos (by omega), show q = 0 by omega]) (fun q hq => by rw [f4 q, if_pos (by omega), show q = 0 by omega]) (by decide) hr
    refine ⟨m', g', hs, e1, fun c hc => ?_, e3, ?_, ?_, ?_, fun q hq => ?_, e5⟩
    · rw [e2 c (by omega), hm0]
      repeat rw [xu_row (by omega)]
    · rw [e2 150 (by decide), hm0]
      repeat rw [xu_row (a := 155) (by decide)]
      repeat rw [xu_row (by decide)]
      exact xu_same
    · rw [e2 151 (by decide), hm0]
      repeat rw [xu_row (a := 155) (by decide)]
      repeat rw [xu_row (by decide)]
      exact xu_same
    · rw [e2 155 (by decide), hm0]
      exact xu_same
    · rw [e4 q hq, hm0]
      repeat rw [xu_row (by decide)]
  · replace hr := hr.go (s_k t188_67)
    replace hr := hr.go (s_goto t188_68)
    replace hr := hr.go (s_istore (ls' := [(4, _), (3, _), (2, _), (0, _), (1, _)]) t188_72 rfl)
    obtain ⟨m2, g2, f1, f2, f3, f4, hr⟩ := bd188y (k := 0) (R := R) (J := J) hG (by rw [w130]; exact hR) (by rw [w130]; exact hJ) hR6 hJ6 (by omega) (Or.inl ⟨rfl, by omega⟩) hr
    obtain ⟨m', g', hs, e1, e2, e3, e4, e5⟩ := lp188x (m0 := m0) (g0 := g) hG (by rw [w130]; exact hR) (by rw [w130]; exact hJ) hR6 hJ6 _ 1 _ _ m2 g2 f1 f2 (fun q hq => by rw [f3 q, if_pos (by omega), show q = 0 by omega]) (fun q hq => by rw [f4 q, if_pos (by omega), show q = 0 by omega]) (by decide) hr
    refine ⟨m', g', hs, e1, fun c hc => ?_, e3, ?_, ?_, ?_, fun q hq => ?_, e5⟩
    · rw [e2 c (by omega), hm0]
      repeat rw [xu_row (by omega)]
    · rw [e2 150 (by decide), hm0]
      repeat rw [xu_row (a := 155) (by decide)]
      repeat rw [xu_row (by decide)]
      exact xu_same
    · rw [e2 151 (by decide), hm0]
      repeat rw [xu_row (a := 155) (by decide)]
      repeat rw [xu_row (by decide)]
      exact xu_same
    · rw [e2 155 (by decide), hm0]
      exact xu_same
    · rw [e4 q hq, hm0]
      repeat rw [xu_row (by decide)]
theorem ct_beginsX {nf : Bool} {xs : List Int32} {d : Nat} {m : xM} {g : xL} {G : xG} {R J : Nat} (hG : GS0 G) (hR : m 130 1 = Int32.ofNat R) (hJ : m 130 2 = Int32.ofNat J) (hR6 : R ≤ 6) (hJ6 : J ≤ 6) : CT nf xs d 189 [.ref 128] m g G (fun r m' g' => r = none ∧ (∀ c : Nat, c < 150 ∨ 163 < c → m' c = m c) ∧ (∀ c : Nat, ¬ c = 164 → g' c = g c) ∧ m' 150 0 = 0 ∧ m' 151 0 = 0 ∧ m' 155 0 = 0 ∧ (∀ q : Nat, q < 6 → m' 156 q = bSe R (m 134) q) ∧ ∀ q : Nat, q < 6 → g' 164 q = bTe J (g 139) q) := by
  refine CT.of (c := 11) (ini := false) (nL := 1) (rt := none) (tab := zt189) rfl (fun d' r h' N hd hr => ?_)
  replace hr : RR nf xs d' 11 false 1 (none) zt189 G r h' N (0, [(0, .ref 128)], [], m, g) := hr
  replace hr := hr.go (s_aload_n t189_0 rfl)
  replace hr := hr.go (s_k t189_1)
  obtain ⟨_, m1, g1, ⟨rfl, hq⟩, hr⟩ := hr.callv t189_2 rfl rfl (ct_startsX hG hR hJ hR6 hJ6)
  replace hr : RR nf xs d' 11 false 1 (none) zt189 G r h' N (5, [(0, .ref 128)], [], m1, g1) := hr
  skip
  obtain ⟨rfl, hs⟩ := hr.ret t189_5
  exact ⟨_, _, hs, rfl, hq⟩
