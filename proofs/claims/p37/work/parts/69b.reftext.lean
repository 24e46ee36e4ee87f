/-! Joined: 69b.reftext, 69ba.bits, 69c.clsbegin, 69ca.begin. -/
section
/-! The reference: a whole text. -/
/-- the tables in the reference's first halves -/
def TB (T : Nat → List (List Int32)) (m : xM) : Prop := (∀ w : Nat, w < 8 → (T w).length ≤ mN w) ∧ (∀ w : Nat, 1 ≤ w → w ≤ 5 → m 130 w = Int32.ofNat (T w).length) ∧
  (∀ w : Nat, (w = 1 ∨ w = 2 ∨ w = 4 ∨ w = 5) → ∀ r : Nat, r < (T w).length → ∀ c : Nat, c < cN w → m (ar w c) r = ((T w).getD r []).getD c 0) ∧
  ∀ w : Nat, (w = 0 ∨ w = 6 ∨ w = 7) → m 130 w = tpV (df w) (T w)
theorem TB.of {T : Nat → List (List Int32)} {m m' : xM} (h : TB T m) (hF : FM0 m m') : TB T m' := by
  obtain ⟨h1, h2, h3, h4⟩ := h
  refine ⟨h1, fun w w1 w2 => (hF 130 w (Or.inl ⟨rfl, by omega⟩)).trans (h2 w w1 w2), fun w hw r hr c hc => (hF (ar w c) r ?_).trans (h3 w hw r hr c hc), fun w hw => (hF 130 w (Or.inl ⟨rfl, by omega⟩)).trans (h4 w hw)⟩
  rcases hw with rfl | rfl | rfl | rfl
  · have l := h1 1 (by decide)
    have l : (T 1).length ≤ 6 := l
    have hc : c < 5 := hc
    exact Or.inr (Or.inl ⟨⟨show 131 ≤ 131 + c by omega, show 131 + c ≤ 138 by omega⟩, by omega⟩)
  · have l := h1 2 (by decide)
    have l : (T 2).length ≤ 6 := l
    have hc : c < 3 := hc
    exact Or.inr (Or.inl ⟨⟨show 131 ≤ 136 + c by omega, show 136 + c ≤ 138 by omega⟩, by omega⟩)
  · have l := h1 4 (by decide)
    have l : (T 4).length ≤ 5 := l
    have hc : c < 2 := hc
    exact Or.inr (Or.inr (Or.inl ⟨show 140 + c = 140 ∨ 140 + c = 141 by omega, by omega⟩))
  · have l := h1 5 (by decide)
    have l : (T 5).length ≤ 3 := l
    have hc : c < 2 := hc
    exact Or.inr (Or.inr (Or.inr ⟨show 142 + c = 142 ∨ 142 + c = 143 by omega, by omega⟩))
/-- the row that now is, behind a good text -/
def TS (T : Nat → List (List Int32)) (m : xM) (g : xL) : Prop := m 150 0 = 0 ∧ m 151 0 = 0 ∧ m 155 0 = 0 ∧ (∀ p : Nat, p < (T 1).length → m 156 p = ((T 1).getD p []).getD 3 0) ∧ ∀ j : Nat, j < (T 2).length → ∀ v : Nat, v < 64 → bl (g 164 j) v = tld (T 3) (Int32.ofNat j) (Int32.ofNat v)
/-- how a text ends in the reference -/
def TE (B : eB) (s : eS) (q : Nat) (m : xM) (g : xL) : Option Value → xM → xL → Prop := fun r m' g' => ∃ (f : Nat) (o : (Nat × Nat) ⊕ (eS × Nat)), lnsF B f s q = some o ∧ match o with
  | .inl e => r = some (.int (-1)) ∧ m' 128 30 = Int32.ofNat e.1 ∧ m' 128 31 = Int32.ofNat (tP B e.2) ∧ FM m m' ∧ FG g g'
  | .inr p => r = some (.int (Int32.ofNat p.2)) ∧ m' 128 30 = 0 ∧ m' 128 31 = -1 ∧ TB p.1.1 m' ∧ (m' 128 53 = 0 ∧ m' 128 54 = 0 ∧ m' 128 67 = 0 ∧ m' 128 68 = -1) ∧ TS p.1.1 m' g'
theorem en181F {nf : Bool} {xs : List Int32} {d : Nat} {G : xG} {r : Option Value} {h' : zH} {N : Nat} {m : xM} {g : xL} {B : eB} {e : Nat × Nat} {x y : Int32} (h : sX B (.inl e) m) (hr : RR nf xs d 11 false 3 (some .int) zt181 G r h' N (182, [(2, .int y), (0, .ref 128), (1, .int x)], [], m, g)) : ∃ (m' : xM) (g' : xL), HS h' m' g' G ∧ r = some (.int (-1)) ∧ m' 128 30 = Int32.ofNat e.1 ∧ m' 128 31 = Int32.ofNat (tP B e.2) ∧ FM m m' ∧ FG g g' := by
  replace hr := hr.go (s_aload_n t181_182 rfl)
  replace hr := hr.go (s_aload_n t181_183 rfl)
  replace hr := hr.go (s_getf t181_184)
  replace hr := hr.go (s_putf t181_187)
  replace hr := hr.go (s_aload_n t181_190 rfl)
  replace hr := hr.go (s_aload_n t181_191 rfl)
  replace hr := hr.go (s_getf t181_192)
  replace hr := hr.go (s_putf t181_195)
  replace hr := hr.go (s_aload_n t181_198 rfl)
  replace hr := hr.go (s_getf t181_199)
  rcases hr.zEq t181_202 with ⟨b202, hr⟩ | ⟨b202, hr⟩
  · exact absurd ((xu_oth (by decide)).symm.trans ((xu_oth (by decide)).symm.trans b202)) h.2.1
  · replace hr := hr.go (s_k t181_205)
    obtain ⟨rfl, hs⟩ := hr.iret t181_206
    refine ⟨_, _, hs, rfl, ?_, ?_, FM.x128 (FM.x128 FM.rf (by decide)) (by decide), FG.rf⟩
    · rw [xu_oth (by decide), xu_same]; exact h.1
    · rw [xu_same, xu_oth (by decide)]; exact h.2.2
theorem en181G {nf : Bool} {xs : List Int32} {d : Nat} {G : xG} {r : Option Value} {h' : zH} {N : Nat} {m : xM} {g : xL} {B : eB} {s : eS} {x y : Int32} (hG : GT G) (hA : AR B s m g) (hr : RR nf xs d 11 false 3 (some .int) zt181 G r h' N (182, [(2, .int y), (0, .ref 128), (1, .int x)], [], m, g)) : ∃ (m' : xM) (g' : xL), HS h' m' g' G ∧ r = some (.int (m 128 22)) ∧ m' 128 30 = 0 ∧ m' 128 31 = -1 ∧ TB s.1 m' ∧ (m' 128 53 = 0 ∧ m' 128 54 = 0 ∧ m' 128 67 = 0 ∧ m' 128 68 = -1) ∧ TS s.1 m' g' := by
  have h := hA.1
  replace hr := hr.go (s_aload_n t181_182 rfl)
  replace hr := hr.go (s_aload_n t181_183 rfl)
  replace hr := hr.go (s_getf t181_184)
  replace hr := hr.go (s_putf t181_187)
  replace hr := hr.go (s_aload_n t181_190 rfl)
  replace hr := hr.go (s_aload_n t181_191 rfl)
  replace hr := hr.go (s_getf t181_192)
  replace hr := hr.go (s_putf t181_195)
  replace hr := hr.go (s_aload_n t181_198 rfl)
  replace hr := hr.go (s_getf t181_199)
  rcases hr.zEq t181_202 with ⟨b202, hr⟩ | ⟨b202, hr⟩
  · replace hr := hr.go (s_aload_n t181_207 rfl)
    replace hr := hr.go (s_getr t181_208 (hG.1.2.1.1))
    obtain ⟨w1, ⟨z1, y1⟩, hr⟩ := hr.fsN t181_211 rfl rfl (ct_half (n := 9) (hG.2.2.1 130 18 (by decide)) (by decide) (by decide))
    have e1 : w1 128 = (xu (xu m 128 30 (m 128 28)) 128 31 ((xu m 128 30 (m 128 28)) 128 29)) 128 := (z1 128 (by decide))
    replace hr := hr.go (s_aload_n t181_214 rfl)
    replace hr := hr.go (s_getr t181_215 (hG.1.2.2.1 4 (by decide) (by decide)))
    obtain ⟨w2, ⟨z2, y2⟩, hr⟩ := hr.fsN t181_218 rfl rfl (ct_half (n := 6) (hG.2.2.1 131 12 (by decide)) (by decide) (by decide))
    have e2 : w2 128 = (xu (xu m 128 30 (m 128 28)) 128 31 ((xu m 128 30 (m 128 28)) 128 29)) 128 := (z2 128 (by decide)).trans e1
    replace hr := hr.go (s_aload_n t181_221 rfl)
    replace hr := hr.go (s_getr t181_222 (hG.1.2.2.1 5 (by decide) (by decide)))
    obtain ⟨w3, ⟨z3, y3⟩, hr⟩ := hr.fsN t181_225 rfl rfl (ct_half (n := 6) (hG.2.2.1 132 12 (by decide)) (by decide) (by decide))
    have e3 : w3 128 = (xu (xu m 128 30 (m 128 28)) 128 31 ((xu m 128 30 (m 128 28)) 128 29)) 128 := (z3 128 (by decide)).trans e2
    replace hr := hr.go (s_aload_n t181_228 rfl)
    replace hr := hr.go (s_getr t181_229 (hG.1.2.2.1 6 (by decide) (by decide)))
    obtain ⟨w4, ⟨z4, y4⟩, hr⟩ := hr.fsN t181_232 rfl rfl (ct_half (n := 6) (hG.2.2.1 133 12 (by decide)) (by decide) (by decide))
    have e4 : w4 128 = (xu (xu m 128 30 (m 128 28)) 128 31 ((xu m 128 30 (m 128 28)) 128 29)) 128 := (z4 128 (by decide)).trans e3
    replace hr := hr.go (s_aload_n t181_235 rfl)
    replace hr := hr.go (s_getr t181_236 (hG.1.2.2.1 7 (by decide) (by decide)))
    obtain ⟨w5, ⟨z5, y5⟩, hr⟩ := hr.fsN t181_239 rfl rfl (ct_half (n := 6) (hG.2.2.1 134 12 (by decide)) (by decide) (by decide))
    have e5 : w5 128 = (xu (xu m 128 30 (m 128 28)) 128 31 ((xu m 128 30 (m 128 28)) 128 29)) 128 := (z5 128 (by decide)).trans e4
    replace hr := hr.go (s_aload_n t181_242 rfl)
    replace hr := hr.go (s_getr t181_243 (hG.1.2.2.1 8 (by decide) (by decide)))
    obtain ⟨w6, ⟨z6, y6⟩, hr⟩ := hr.fsN t181_246 rfl rfl (ct_half (n := 6) (hG.2.2.1 135 12 (by decide)) (by decide) (by decide))
    have e6 : w6 128 = (xu (xu m 128 30 (m 128 28)) 128 31 ((xu m 128 30 (m 128 28)) 128 29)) 128 := (z6 128 (by decide)).trans e5
    replace hr := hr.go (s_aload_n t181_249 rfl)
    replace hr := hr.go (s_getr t181_250 (hG.1.2.2.1 9 (by decide) (by decide)))
    obtain ⟨w7, ⟨z7, y7⟩, hr⟩ := hr.fsN t181_253 rfl rfl (ct_half (n := 6) (hG.2.2.1 136 12 (by decide)) (by decide) (by decide))
    have e7 : w7 128 = (xu (xu m 128 30 (m 128 28)) 128 31 ((xu m 128 30 (m 128 28)) 128 29)) 128 := (z7 128 (by decide)).trans e6
    replace hr := hr.go (s_aload_n t181_256 rfl)
    replace hr := hr.go (s_getr t181_257 (hG.1.2.2.1 10 (by decide) (by decide)))
    obtain ⟨w8, ⟨z8, y8⟩, hr⟩ := hr.fsN t181_260 rfl rfl (ct_half (n := 6) (hG.2.2.1 137 12 (by decide)) (by decide) (by decide))
    have e8 : w8 128 = (xu (xu m 128 30 (m 128 28)) 128 31 ((xu m 128 30 (m 128 28)) 128 29)) 128 := (z8 128 (by decide)).trans e7
    replace hr := hr.go (s_aload_n t181_263 rfl)
    replace hr := hr.go (s_getr t181_264 (hG.1.2.2.1 11 (by decide) (by decide)))
    obtain ⟨w9, ⟨z9, y9⟩, hr⟩ := hr.fsN t181_267 rfl rfl (ct_half (n := 6) (hG.2.2.1 138 12 (by decide)) (by decide) (by decide))
    have e9 : w9 128 = (xu (xu m 128 30 (m 128 28)) 128 31 ((xu m 128 30 (m 128 28)) 128 29)) 128 := (z9 128 (by decide)).trans e8
    replace hr := hr.go (s_k t181_270)
    replace hr := hr.go (s_istore_n (ls' := [(2, _), (0, _), (1, _)]) t181_271 rfl)
    replace hr := hr.go (s_iload_n t181_272 rfl)
    replace hr := hr.go (s_k t181_273)
    replace hr := hr.brF t181_275 (by decide)
    replace hr := hr.go (s_aload_n t181_278 rfl)
    replace hr := hr.go (s_getr t181_279 (hG.1.2.2.1 12 (by decide) (by decide)))
    replace hr := hr.go (s_iload_n t181_282 rfl)
    replace hr := hr.go (s_aload_n t181_283 rfl)
    replace hr := hr.go (s_getr t181_284 (hG.1.2.2.1 12 (by decide) (by decide)))
    replace hr := hr.go (s_k t181_287)
    replace hr := hr.go (s_iload_n t181_289 rfl)
    replace hr := hr.go (s_iadd t181_290)
    replace hr := hr.go (s_laload t181_291)
    replace hr := hr.go (s_lastore t181_292)
    replace hr := hr.go (s_iinc (ls' := [(2, .int 1), (0, _), (1, _)]) t181_293 rfl rfl)
    replace hr := hr.go (s_goto t181_296)
    replace hr := hr.go (s_iload_n t181_272 rfl)
    replace hr := hr.go (s_k t181_273)
    replace hr := hr.brF t181_275 (by decide)
    replace hr := hr.go (s_aload_n t181_278 rfl)
    replace hr := hr.go (s_getr t181_279 (hG.1.2.2.1 12 (by decide) (by decide)))
    replace hr := hr.go (s_iload_n t181_282 rfl)
    replace hr := hr.go (s_aload_n t181_283 rfl)
    replace hr := hr.go (s_getr t181_284 (hG.1.2.2.1 12 (by decide) (by decide)))
    replace hr := hr.go (s_k t181_287)
    replace hr := hr.go (s_iload_n t181_289 rfl)
    replace hr := hr.go (s_iadd t181_290)
    replace hr := hr.go (s_laload t181_291)
    replace hr := hr.go (s_lastore t181_292)
    replace hr := hr.go (s_iinc (ls' := [(2, .int 2), (0, _), (1, _)]) t181_293 rfl rfl)
    replace hr := hr.go (s_goto t181_296)
    replace hr := hr.go (s_iload_n t181_272 rfl)
    replace hr := hr.go (s_k t181_273)
    replace hr := hr.brF t181_275 (by decide)
    replace hr := hr.go (s_aload_n t181_278 rfl)
    replace hr := hr.go (s_getr t181_279 (hG.1.2.2.1 12 (by decide) (by decide)))
    replace hr := hr.go (s_iload_n t181_282 rfl)
    replace hr := hr.go (s_aload_n t181_283 rfl)
    replace hr := hr.go (s_getr t181_284 (hG.1.2.2.1 12 (by decide) (by decide)))
    replace hr := hr.go (s_k t181_287)
    replace hr := hr.go (s_iload_n t181_289 rfl)
    replace hr := hr.go (s_iadd t181_290)
    replace hr := hr.go (s_laload t181_291)
    replace hr := hr.go (s_lastore t181_292)
    replace hr := hr.go (s_iinc (ls' := [(2, .int 3), (0, _), (1, _)]) t181_293 rfl rfl)
    replace hr := hr.go (s_goto t181_296)
    replace hr := hr.go (s_iload_n t181_272 rfl)
    replace hr := hr.go (s_k t181_273)
    replace hr := hr.brF t181_275 (by decide)
    replace hr := hr.go (s_aload_n t181_278 rfl)
    replace hr := hr.go (s_getr t181_279 (hG.1.2.2.1 12 (by decide) (by decide)))
    replace hr := hr.go (s_iload_n t181_282 rfl)
    replace hr := hr.go (s_aload_n t181_283 rfl)
    replace hr := hr.go (s_getr t181_284 (hG.1.2.2.1 12 (by decide) (by decide)))
    replace hr := hr.go (s_k t181_287)
    replace hr := hr.go (s_iload_n t181_289 rfl)
    replace hr := hr.go (s_iadd t181_290)
    replace hr := hr.go (s_laload t181_291)
    replace hr := hr.go (s_lastore t181_292)
    replace hr := hr.go (s_iinc (ls' := [(2, .int 4), (0, _), (1, _)]) t181_293 rfl rfl)
    replace hr := hr.go (s_goto t181_296)
    replace hr := hr.go (s_iload_n t181_272 rfl)
    replace hr := hr.go (s_k t181_273)
    replace hr := hr.brF t181_275 (by decide)
    replace hr := hr.go (s_aload_n t181_278 rfl)
    replace hr := hr.go (s_getr t181_279 (hG.1.2.2.1 12 (by decide) (by decide)))
    replace hr := hr.go (s_iload_n t181_282 rfl)
    replace hr := hr.go (s_aload_n t181_283 rfl)
    replace hr := hr.go (s_getr t181_284 (hG.1.2.2.1 12 (by decide) (by decide)))
    replace hr := hr.go (s_k t181_287)
    replace hr := hr.go (s_iload_n t181_289 rfl)
    replace hr := hr.go (s_iadd t181_290)
    replace hr := hr.go (s_laload t181_291)
    replace hr := hr.go (s_lastore t181_292)
    replace hr := hr.go (s_iinc (ls' := [(2, .int 5), (0, _), (1, _)]) t181_293 rfl rfl)
    replace hr := hr.go (s_goto t181_296)
    replace hr := hr.go (s_iload_n t181_272 rfl)
    replace hr := hr.go (s_k t181_273)
    replace hr := hr.brF t181_275 (by decide)
    replace hr := hr.go (s_aload_n t181_278 rfl)
    replace hr := hr.go (s_getr t181_279 (hG.1.2.2.1 12 (by decide) (by decide)))
    replace hr := hr.go (s_iload_n t181_282 rfl)
    replace hr := hr.go (s_aload_n t181_283 rfl)
    replace hr := hr.go (s_getr t181_284 (hG.1.2.2.1 12 (by decide) (by decide)))
    replace hr := hr.go (s_k t181_287)
    replace hr := hr.go (s_iload_n t181_289 rfl)
    replace hr := hr.go (s_iadd t181_290)
    replace hr := hr.go (s_laload t181_291)
    replace hr := hr.go (s_lastore t181_292)
    replace hr := hr.go (s_iinc (ls' := [(2, .int 6), (0, _), (1, _)]) t181_293 rfl rfl)
    replace hr := hr.go (s_goto t181_296)
    replace hr := hr.go (s_iload_n t181_272 rfl)
    replace hr := hr.go (s_k t181_273)
    replace hr := hr.brT t181_275 (by decide)
    replace hr := hr.go (s_aload_n t181_299 rfl)
    replace hr := hr.go (s_getr t181_300 (hG.1.2.2.1 13 (by decide) (by decide)))
    obtain ⟨w10, ⟨z10, y10⟩, hr⟩ := hr.fsN t181_303 rfl rfl (ct_half (n := 5) (hG.2.2.1 140 10 (by decide)) (by decide) (by decide))
    have e10 : w10 128 = (xu (xu m 128 30 (m 128 28)) 128 31 ((xu m 128 30 (m 128 28)) 128 29)) 128 := (z10 128 (by decide)).trans e9
    replace hr := hr.go (s_aload_n t181_306 rfl)
    replace hr := hr.go (s_getr t181_307 (hG.1.2.2.1 14 (by decide) (by decide)))
    obtain ⟨w11, ⟨z11, y11⟩, hr⟩ := hr.fsN t181_310 rfl rfl (ct_half (n := 5) (hG.2.2.1 141 10 (by decide)) (by decide) (by decide))
    have e11 : w11 128 = (xu (xu m 128 30 (m 128 28)) 128 31 ((xu m 128 30 (m 128 28)) 128 29)) 128 := (z11 128 (by decide)).trans e10
    replace hr := hr.go (s_aload_n t181_313 rfl)
    replace hr := hr.go (s_getr t181_314 (hG.1.2.2.1 15 (by decide) (by decide)))
    obtain ⟨w12, ⟨z12, y12⟩, hr⟩ := hr.fsN t181_317 rfl rfl (ct_half (n := 3) (hG.2.2.1 142 6 (by decide)) (by decide) (by decide))
    have e12 : w12 128 = (xu (xu m 128 30 (m 128 28)) 128 31 ((xu m 128 30 (m 128 28)) 128 29)) 128 := (z12 128 (by decide)).trans e11
    replace hr := hr.go (s_aload_n t181_320 rfl)
    replace hr := hr.go (s_getr t181_321 (hG.1.2.2.1 16 (by decide) (by decide)))
    obtain ⟨w13, ⟨z13, y13⟩, hr⟩ := hr.fsN t181_324 rfl rfl (ct_half (n := 3) (hG.2.2.1 143 6 (by decide)) (by decide) (by decide))
    have e13 : w13 128 = (xu (xu m 128 30 (m 128 28)) 128 31 ((xu m 128 30 (m 128 28)) 128 29)) 128 := (z13 128 (by decide)).trans e12
    replace hr := hr.go (s_aload_n t181_327 rfl)
    replace hr := hr.go (s_getr t181_328 (hG.1.2.2.1 17 (by decide) (by decide)))
    obtain ⟨w14, ⟨z14, y14⟩, hr⟩ := hr.fsN t181_331 rfl rfl (ct_half (n := 3) (hG.2.2.1 144 6 (by decide)) (by decide) (by decide))
    have e14 : w14 128 = (xu (xu m 128 30 (m 128 28)) 128 31 ((xu m 128 30 (m 128 28)) 128 29)) 128 := (z14 128 (by decide)).trans e13
    replace hr := hr.go (s_aload_n t181_334 rfl)
    replace hr := hr.go (s_getr t181_335 (hG.1.2.2.1 18 (by decide) (by decide)))
    obtain ⟨w15, ⟨z15, y15⟩, hr⟩ := hr.fsN t181_338 rfl rfl (ct_half (n := 3) (hG.2.2.1 145 6 (by decide)) (by decide) (by decide))
    have e15 : w15 128 = (xu (xu m 128 30 (m 128 28)) 128 31 ((xu m 128 30 (m 128 28)) 128 29)) 128 := (z15 128 (by decide)).trans e14
    replace hr := hr.go (s_aload_n t181_341 rfl)
    replace hr := hr.go (s_getr t181_342 (hG.1.2.2.1 19 (by decide) (by decide)))
    obtain ⟨w16, ⟨z16, y16⟩, hr⟩ := hr.fsN t181_345 rfl rfl (ct_half (n := 64) (hG.2.2.1 146 128 (by decide)) (by decide) (by decide))
    have e16 : w16 128 = (xu (xu m 128 30 (m 128 28)) 128 31 ((xu m 128 30 (m 128 28)) 128 29)) 128 := (z16 128 (by decide)).trans e15
    replace hr := hr.go (s_aload_n t181_348 rfl)
    replace hr := hr.go (s_getr t181_349 (hG.1.2.2.1 20 (by decide) (by decide)))
    obtain ⟨w17, ⟨z17, y17⟩, hr⟩ := hr.fsN t181_352 rfl rfl (ct_half (n := 64) (hG.2.2.1 147 128 (by decide)) (by decide) (by decide))
    have e17 : w17 128 = (xu (xu m 128 30 (m 128 28)) 128 31 ((xu m 128 30 (m 128 28)) 128 29)) 128 := (z17 128 (by decide)).trans e16
    replace hr := hr.go (s_aload_n t181_355 rfl)
    replace hr := hr.go (s_k t181_356)
    replace hr := hr.go (s_putf t181_357)
    replace hr := hr.go (s_aload_n t181_360 rfl)
    replace hr := hr.go (s_k t181_361)
    replace hr := hr.go (s_putf t181_362)
    replace hr := hr.go (s_aload_n t181_365 rfl)
    replace hr := hr.go (s_k t181_366)
    replace hr := hr.go (s_putf t181_367)
    replace hr := hr.go (s_aload_n t181_370 rfl)
    replace hr := hr.go (s_k t181_371)
    replace hr := hr.go (s_putf t181_372)
    replace hr := hr.go (s_aload_n t181_375 rfl)
    obtain ⟨_, w, g1, ⟨rfl, hq⟩, hr⟩ := hr.callv t181_376 rfl rfl (ct_beginsX (R := (s.1 1).length) (J := (s.1 2).length) ⟨hG.2.1, hG.1.2.1.1, hG.1.2.2.1 7 (by decide) (by decide), hG.1.2.2.1 12 (by decide) (by decide), hG.2.2.1 130 18 (by decide), hG.2.2.1 134 12 (by decide)⟩ (by rw [xu_row (by decide), xu_row (by decide), xu_row (by decide), xu_row (by decide), z17 130 (by decide), z16 130 (by decide), z15 130 (by decide), z14 130 (by decide), z13 130 (by decide), z12 130 (by decide), z11 130 (by decide), z10 130 (by decide), z9 130 (by decide), z8 130 (by decide), z7 130 (by decide), z6 130 (by decide), z5 130 (by decide), z4 130 (by decide), z3 130 (by decide), z2 130 (by decide), y1 1 (by decide), xu_row (by decide), xu_row (by decide)]; exact hA.2.2.1 1 (by decide) (by decide)) (by rw [xu_row (by decide), xu_row (by decide), xu_row (by decide), xu_row (by decide), z17 130 (by decide), z16 130 (by decide), z15 130 (by decide), z14 130 (by decide), z13 130 (by decide), z12 130 (by decide), z11 130 (by decide), z10 130 (by decide), z9 130 (by decide), z8 130 (by decide), z7 130 (by decide), z6 130 (by decide), z5 130 (by decide), z4 130 (by decide), z3 130 (by decide), z2 130 (by decide), y1 2 (by decide), xu_row (by decide), xu_row (by decide)]; exact hA.2.2.1 2 (by decide) (by decide)) (hA.2.1 1 (by decide)) (hA.2.1 2 (by decide)))
    replace hr : RR nf xs d 11 false 3 (some .int) zt181 G r h' N (379, _, [], w, g1) := hr
    replace hr := hr.go (s_aload_n t181_379 rfl)
    replace hr := hr.go (s_getf t181_380)
    obtain ⟨rfl, hs⟩ := hr.iret t181_383
    have hw := fun (a : Nat) (ha : a < 150) => hq.1 a (Or.inl ha)
    have ew : w 128 = _ := hw 128 (by decide)
    have eh : ∀ a n : Nat, (a, n) ∈ ([(130, 9), (131, 6), (132, 6), (133, 6), (134, 6), (135, 6), (136, 6), (137, 6), (138, 6), (140, 5), (141, 5), (142, 3), (143, 3)] : List (Nat × Nat)) → ∀ j : Nat, j < n → w a j = m a (n + j) := by
      intro a n hm j hj
      simp only [List.mem_cons, Prod.mk.injEq, List.not_mem_nil, or_false] at hm
      rcases hm with ⟨rfl, rfl⟩ | ⟨rfl, rfl⟩ | ⟨rfl, rfl⟩ | ⟨rfl, rfl⟩ | ⟨rfl, rfl⟩ | ⟨rfl, rfl⟩ | ⟨rfl, rfl⟩ | ⟨rfl, rfl⟩ | ⟨rfl, rfl⟩ | ⟨rfl, rfl⟩ | ⟨rfl, rfl⟩ | ⟨rfl, rfl⟩ | ⟨rfl, rfl⟩
      · rw [hw 130 (by decide), xu_row (by decide), xu_row (by decide), xu_row (by decide), xu_row (by decide), z17 130 (by decide), z16 130 (by decide), z15 130 (by decide), z14 130 (by decide), z13 130 (by decide), z12 130 (by decide), z11 130 (by decide), z10 130 (by decide), z9 130 (by decide), z8 130 (by decide), z7 130 (by decide), z6 130 (by decide), z5 130 (by decide), z4 130 (by decide), z3 130 (by decide), z2 130 (by decide), y1 j hj, xu_row (by decide), xu_row (by decide)]
      · rw [hw 131 (by decide), xu_row (by decide), xu_row (by decide), xu_row (by decide), xu_row (by decide), z17 131 (by decide), z16 131 (by decide), z15 131 (by decide), z14 131 (by decide), z13 131 (by decide), z12 131 (by decide), z11 131 (by decide), z10 131 (by decide), z9 131 (by decide), z8 131 (by decide), z7 131 (by decide), z6 131 (by decide), z5 131 (by decide), z4 131 (by decide), z3 131 (by decide), y2 j hj, z1 131 (by decide), xu_row (by decide), xu_row (by decide)]
      · rw [hw 132 (by decide), xu_row (by decide), xu_row (by decide), xu_row (by decide), xu_row (by decide), z17 132 (by decide), z16 132 (by decide), z15 132 (by decide), z14 132 (by decide), z13 132 (by decide), z12 132 (by decide), z11 132 (by decide), z10 132 (by decide), z9 132 (by decide), z8 132 (by decide), z7 132 (by decide), z6 132 (by decide), z5 132 (by decide), z4 132 (by decide), y3 j hj, z2 132 (by decide), z1 132 (by decide), xu_row (by decide), xu_row (by decide)]
      · rw [hw 133 (by decide), xu_row (by decide), xu_row (by decide), xu_row (by decide), xu_row (by decide), z17 133 (by decide), z16 133 (by decide), z15 133 (by decide), z14 133 (by decide), z13 133 (by decide), z12 133 (by decide), z11 133 (by decide), z10 133 (by decide), z9 133 (by decide), z8 133 (by decide), z7 133 (by decide), z6 133 (by decide), z5 133 (by decide), y4 j hj, z3 133 (by decide), z2 133 (by decide), z1 133 (by decide), xu_row (by decide), xu_row (by decide)]
      · rw [hw 134 (by decide), xu_row (by decide), xu_row (by decide), xu_row (by decide), xu_row (by decide), z17 134 (by decide), z16 134 (by decide), z15 134 (by decide), z14 134 (by decide), z13 134 (by decide), z12 134 (by decide), z11 134 (by decide), z10 134 (by decide), z9 134 (by decide), z8 134 (by decide), z7 134 (by decide), z6 134 (by decide), y5 j hj, z4 134 (by decide), z3 134 (by decide), z2 134 (by decide), z1 134 (by decide), xu_row (by decide), xu_row (by decide)]
      · rw [hw 135 (by decide), xu_row (by decide), xu_row (by decide), xu_row (by decide), xu_row (by decide), z17 135 (by decide), z16 135 (by decide), z15 135 (by decide), z14 135 (by decide), z13 135 (by decide), z12 135 (by decide), z11 135 (by decide), z10 135 (by decide), z9 135 (by decide), z8 135 (by decide), z7 135 (by decide), y6 j hj, z5 135 (by decide), z4 135 (by decide), z3 135 (by decide), z2 135 (by decide), z1 135 (by decide), xu_row (by decide), xu_row (by decide)]
      · rw [hw 136 (by decide), xu_row (by decide), xu_row (by decide), xu_row (by decide), xu_row (by decide), z17 136 (by decide), z16 136 (by decide), z15 136 (by decide), z14 136 (by decide), z13 136 (by decide), z12 136 (by decide), z11 136 (by decide), z10 136 (by decide), z9 136 (by decide), z8 136 (by decide), y7 j hj, z6 136 (by decide), z5 136 (by decide), z4 136 (by decide), z3 136 (by decide), z2 136 (by decide), z1 136 (by decide), xu_row (by decide), xu_row (by decide)]
      · rw [hw 137 (by decide), xu_row (by decide), xu_row (by decide), xu_row (by decide), xu_row (by decide), z17 137 (by decide), z16 137 (by decide), z15 137 (by decide), z14 137 (by decide), z13 137 (by decide), z12 137 (by decide), z11 137 (by decide), z10 137 (by decide), z9 137 (by decide), y8 j hj, z7 137 (by decide), z6 137 (by decide), z5 137 (by decide), z4 137 (by decide), z3 137 (by decide), z2 137 (by decide), z1 137 (by decide), xu_row (by decide), xu_row (by decide)]
      · rw [hw 138 (by decide), xu_row (by decide), xu_row (by decide), xu_row (by decide), xu_row (by decide), z17 138 (by decide), z16 138 (by decide), z15 138 (by decide), z14 138 (by decide), z13 138 (by decide), z12 138 (by decide), z11 138 (by decide), z10 138 (by decide), y9 j hj, z8 138 (by decide), z7 138 (by decide), z6 138 (by decide), z5 138 (by decide), z4 138 (by decide), z3 138 (by decide), z2 138 (by decide), z1 138 (by decide), xu_row (by decide), xu_row (by decide)]
      · rw [hw 140 (by decide), xu_row (by decide), xu_row (by decide), xu_row (by decide), xu_row (by decide), z17 140 (by decide), z16 140 (by decide), z15 140 (by decide), z14 140 (by decide), z13 140 (by decide), z12 140 (by decide), z11 140 (by decide), y10 j hj, z9 140 (by decide), z8 140 (by decide), z7 140 (by decide), z6 140 (by decide), z5 140 (by decide), z4 140 (by decide), z3 140 (by decide), z2 140 (by decide), z1 140 (by decide), xu_row (by decide), xu_row (by decide)]
      · rw [hw 141 (by decide), xu_row (by decide), xu_row (by decide), xu_row (by decide), xu_row (by decide), z17 141 (by decide), z16 141 (by decide), z15 141 (by decide), z14 141 (by decide), z13 141 (by decide), z12 141 (by decide), y11 j hj, z10 141 (by decide), z9 141 (by decide), z8 141 (by decide), z7 141 (by decide), z6 141 (by decide), z5 141 (by decide), z4 141 (by decide), z3 141 (by decide), z2 141 (by decide), z1 141 (by decide), xu_row (by decide), xu_row (by decide)]
      · rw [hw 142 (by decide), xu_row (by decide), xu_row (by decide), xu_row (by decide), xu_row (by decide), z17 142 (by decide), z16 142 (by decide), z15 142 (by decide), z14 142 (by decide), z13 142 (by decide), y12 j hj, z11 142 (by decide), z10 142 (by decide), z9 142 (by decide), z8 142 (by decide), z7 142 (by decide), z6 142 (by decide), z5 142 (by decide), z4 142 (by decide), z3 142 (by decide), z2 142 (by decide), z1 142 (by decide), xu_row (by decide), xu_row (by decide)]
      · rw [hw 143 (by decide), xu_row (by decide), xu_row (by decide), xu_row (by decide), xu_row (by decide), z17 143 (by decide), z16 143 (by decide), z15 143 (by decide), z14 143 (by decide), y13 j hj, z12 143 (by decide), z11 143 (by decide), z10 143 (by decide), z9 143 (by decide), z8 143 (by decide), z7 143 (by decide), z6 143 (by decide), z5 143 (by decide), z4 143 (by decide), z3 143 (by decide), z2 143 (by decide), z1 143 (by decide), xu_row (by decide), xu_row (by decide)]
    have hTB : TB s.1 w := by
      refine ⟨hA.2.1, fun u u1 u2 => (eh 130 9 (by decide) u (by omega)).trans (hA.2.2.1 u u1 u2), fun u hu r hr2 c hc => ?_, fun u hu => (eh 130 9 (by decide) u (by omega)).trans (hA.2.2.2.2.1 u hu).1⟩
      refine Eq.trans (eh (ar u c) (bs u) ?_ r ?_) (hA.2.2.2.1 u hu r hr2 c hc)
      · rcases hu with rfl | rfl | rfl | rfl
        · have hc : c < 5 := hc
          rcases (show c = 0 ∨ c = 1 ∨ c = 2 ∨ c = 3 ∨ c = 4 by omega) with rfl | rfl | rfl | rfl | rfl <;> decide
        · have hc : c < 3 := hc
          rcases (show c = 0 ∨ c = 1 ∨ c = 2 by omega) with rfl | rfl | rfl <;> decide
        · have hc : c < 2 := hc
          rcases (show c = 0 ∨ c = 1 by omega) with rfl | rfl <;> decide
        · have hc : c < 2 := hc
          rcases (show c = 0 ∨ c = 1 by omega) with rfl | rfl <;> decide
      · rcases hu with rfl | rfl | rfl | rfl
        · exact Nat.lt_of_lt_of_le hr2 (hA.2.1 1 (by decide))
        · exact Nat.lt_of_lt_of_le hr2 (hA.2.1 2 (by decide))
        · exact Nat.lt_of_lt_of_le hr2 (hA.2.1 4 (by decide))
        · exact Nat.lt_of_lt_of_le hr2 (hA.2.1 5 (by decide))
    have hTS : TS s.1 w g1 := by
      refine ⟨hq.2.2.1, hq.2.2.2.1, hq.2.2.2.2.1, fun p hp => ?_, fun j hj v hv => ?_⟩
      · have l1 : (s.1 1).length ≤ 6 := hA.2.1 1 (by decide)
        rw [hq.2.2.2.2.2.1 p (by omega)]
        unfold bSe
        rw [if_pos hp, ← hw 134 (by decide)]
        exact hTB.2.2.1 1 (Or.inl rfl) p hp 3 (by decide)
      · have l2 : (s.1 2).length ≤ 6 := hA.2.1 2 (by decide)
        have e := hq.2.2.2.2.2.2 j (by omega)
        unfold bTe at e
        rw [if_pos hj] at e
        rw [e]
        have hj6 : j < 6 := by omega
        clear e hj
        rcases (show j = 0 ∨ j = 1 ∨ j = 2 ∨ j = 3 ∨ j = 4 ∨ j = 5 by omega) with rfl | rfl | rfl | rfl | rfl | rfl
        all_goals (
          repeat (first | rw [xu_same] | rw [xu_oth (by decide)])
          exact hA.2.2.2.2.2.2 _ hj6 v hv)
    refine ⟨_, _, hs, ?_, ?_, ?_, hTB, ⟨?_, ?_, ?_, ?_⟩, hTS⟩
    · rw [ew, xu_oth (by decide), xu_oth (by decide), xu_oth (by decide), xu_oth (by decide), e17, xu_oth (by decide), xu_oth (by decide)]
    · rw [ew, xu_oth (by decide), xu_oth (by decide), xu_oth (by decide), xu_oth (by decide), e17, xu_oth (by decide), xu_same]; exact h.1
    · rw [ew, xu_oth (by decide), xu_oth (by decide), xu_oth (by decide), xu_oth (by decide), e17, xu_same, xu_oth (by decide)]; exact h.2.2.2.2.2.2
    all_goals (rw [ew]; repeat (first | exact xu_same | rw [xu_oth (by decide)]))
  · exact absurd ((xu_oth (by decide)).trans ((xu_oth (by decide)).trans h.1)) b202
theorem lp181 {nf : Bool} {xs : List Int32} {d : Nat} {G : xG} {r : Option Value} {h' : zH} {B : eB} {x y : Int32} (hG : GT G) (hE : EV B) : ∀ (N q : Nat) (s : eS) (m : xM) (g : xL), AR B s m g → m 128 22 = Int32.ofNat q → RR nf xs d 11 false 3 (some .int) zt181 G r h' N (160, [(2, .int y), (0, .ref 128), (1, .int x)], [], m, g) → ∃ (m' : xM) (g' : xL), HS h' m' g' G ∧ TE B s q m g r m' g' := by
  intro N
  induction N with
  | zero => intro q s m g _ _ hr; exact hr.no.elim
  | succ N ih =>
    intro q s m g hA h22 hr
    have tr : TR (tK B s.2.2.2) (tV B s.2.2.2) (m 128 26) (m 128 27) := hA.1.2.1.2.2.2.2
    replace hr := hr.go1 (s_aload_n t181_160 rfl)
    replace hr := hr.go (s_getf t181_161)
    rcases hr.zNe t181_164 with ⟨b164, hr⟩ | ⟨b164, hr⟩
    · exact absurd hA.1.1 b164
    · replace hr := hr.go (s_aload_n t181_167 rfl)
      replace hr := hr.go (s_getf t181_168)
      replace hr := hr.go (s_k t181_171)
      rcases hr.bEq t181_172 with ⟨b172, hr⟩ | ⟨b172, hr⟩
      · obtain ⟨m', g', hs, h1, h2⟩ := en181G hG hA hr
        exact ⟨m', g', hs, 1, .inr (s, q), lns_e ((tr_end tr).mp b172), by rw [h1, h22], h2⟩
      · replace hr := hr.go (s_aload_n t181_175 rfl)
        have hk0 : ¬ tK B s.2.2.2 = 0 := fun q => b172 ((tr_end tr).mpr q)
        obtain ⟨_, m1, g1, ⟨rfl, ⟨hFM, hFG⟩, hp⟩, hr⟩ := hr.callv t181_176 rfl rfl (ct_lineR hG.1 hE hA)
        replace hr : RR nf xs d 11 false 3 (some .int) zt181 G r h' N (179, [(2, .int y), (0, .ref 128), (1, .int x)], [], m1, g1) := hr
        replace hr := hr.go (s_goto t181_179)
        split at hp
        · next e he =>
          replace hr := hr.go (s_aload_n t181_160 rfl)
          replace hr := hr.go (s_getf t181_161)
          rcases hr.zNe t181_164 with ⟨b, hr⟩ | ⟨b, hr⟩
          · obtain ⟨m', g', hs, h1, h2, h3, h4, h5⟩ := en181F hp hr
            exact ⟨m', g', hs, 1, .inl e, lns_1 hk0 he, h1, h2, h3, hFM.tr h4, hFG.tr h5⟩
          · exact absurd b hp.2.1
        · next s' he =>
          obtain ⟨m', g', hs, f, oo, h1, h2⟩ := ih (q + 1) s' m1 g1 hp.1 (by rw [hp.2, h22]; exact xn_1) hr
          refine ⟨m', g', hs, f + 1, oo, (lns_2 hk0 he).trans h1, ?_⟩
          cases oo with
          | inl e => exact ⟨h2.1, h2.2.1, h2.2.2.1, hFM.tr h2.2.2.2.1, hFG.tr h2.2.2.2.2⟩
          | inr p => exact h2
theorem ct_textR {nf : Bool} {xs : List Int32} {d : Nat} {m : xM} {g : xL} {G : xG} {x : Int32} {wd : Nat → Int32} {len : Nat} (hG : GT G) (hw : WD wd) (hlen : m 128 2 = Int32.ofNat len) (hl : len ≤ 700) (hb0 : ∀ i : Nat, i < 700 → 0 ≤ (m 129 i).toInt) (hb1 : ∀ i : Nat, i < 700 → (m 129 i).toInt < 256) : CT nf xs d 181 [.ref 128, .int x] m g G (fun r m' g' => (x.toInt < 0 ∨ (len : Int) < x.toInt) ∧ r = some (.int (-2)) ∧ m' 128 30 = m 128 30 ∧ m' 128 31 = m 128 31 ∧ FM m m' ∧ FG g g' ∨ ∃ n : Nat, x = Int32.ofNat n ∧ n ≤ len ∧ TE (m 129, wd, n) eS0 0 m g r m' g') := by
  refine CT.of (c := 11) (ini := false) (nL := 3) (rt := some .int) (tab := zt181) rfl (fun d' r h' N hd' hr => ?_)
  replace hr : RR nf xs d' 11 false 3 (some .int) zt181 G r h' N (0, [(0, .ref 128), (1, .int x)], [], m, g) := hr
  have ql : (Int32.ofNat len).toInt = (len : Int) := xn_int (by omega)
  have bad : (x.toInt < 0 ∨ (len : Int) < x.toInt) → ∀ N : Nat, RR nf xs d' 11 false 3 (some .int) zt181 G r h' N (17, [(0, .ref 128), (1, .int x)], [], xu m 128 0 0, g) → ∃ (m' : xM) (g' : xL), HS h' m' g' G ∧ ((x.toInt < 0 ∨ (len : Int) < x.toInt) ∧ r = some (.int (-2)) ∧ m' 128 30 = m 128 30 ∧ m' 128 31 = m 128 31 ∧ FM m m' ∧ FG g g' ∨ ∃ n : Nat, x = Int32.ofNat n ∧ n ≤ len ∧ TE (m 129, wd, n) eS0 0 m g r m' g') := by
    intro hx N hr
    replace hr := hr.go (s_k t181_17)
    obtain ⟨rfl, hs⟩ := hr.iret t181_19
    exact ⟨_, _, hs, Or.inl ⟨hx, rfl, xu_oth (by decide), xu_oth (by decide), FM.x128 FM.rf (by decide), FG.rf⟩⟩
  replace hr := hr.go (s_aload_n t181_0 rfl)
  replace hr := hr.go (s_k t181_1)
  replace hr := hr.go (s_putf t181_2)
  replace hr := hr.go (s_iload_n t181_5 rfl)
  rcases hr.zLt t181_6 with ⟨b6, hr⟩ | ⟨b6, hr⟩
  · exact bad (Or.inl b6) _ hr
  · have hl2 : (xu m 128 0 0 128 2).toInt = (len : Int) := by rw [xu_oth (by decide), hlen, ql]
    replace hr := hr.go (s_iload_n t181_9 rfl)
    replace hr := hr.go (s_aload_n t181_10 rfl)
    replace hr := hr.go (s_getf t181_11)
    rcases hr.bLe t181_14 with ⟨b14, hr⟩ | ⟨b14, hr⟩
    · have hx0 : x.toNatClampNeg ≤ len := by rw [hl2] at b14; rw [Int32.toNatClampNeg]; omega
      obtain ⟨n, hxn, hn⟩ : ∃ n : Nat, x = Int32.ofNat n ∧ n ≤ len := ⟨_, xn_of b6, hx0⟩
      have hE : EV (m 129, wd, n) := ⟨by show n ≤ 700; omega, hw, fun i hi => hb0 i (by have hi : i < n := hi; omega), fun i hi => hb1 i (by have hi : i < n := hi; omega)⟩
      replace hr := hr.go (s_aload_n t181_20 rfl)
      replace hr := hr.go (s_iload_n t181_21 rfl)
      replace hr := hr.go (s_putf t181_22)
      replace hr := hr.go (s_aload_n t181_25 rfl)
      replace hr := hr.go (s_k t181_26)
      replace hr := hr.go (s_putf t181_27)
      replace hr := hr.go (s_aload_n t181_30 rfl)
      replace hr := hr.go (s_k t181_31)
      replace hr := hr.go (s_putf t181_32)
      replace hr := hr.go (s_aload_n t181_35 rfl)
      replace hr := hr.go (s_k t181_36)
      replace hr := hr.go (s_putf t181_37)
      replace hr := hr.go (s_aload_n t181_40 rfl)
      replace hr := hr.go (s_k t181_41)
      replace hr := hr.go (s_putf t181_42)
      replace hr := hr.go (s_k t181_45)
      replace hr := hr.go (s_istore_n (ls' := [(2, _), (0, _), (1, _)]) t181_46 rfl)
      replace hr := hr.go (s_iload_n t181_47 rfl)
      replace hr := hr.go (s_k t181_48)
      replace hr := hr.brF t181_50 (by decide)
      replace hr := hr.go (s_aload_n t181_53 rfl)
      replace hr := hr.go (s_iload_n t181_54 rfl)
      replace hr := hr.go (s_iload_n t181_55 rfl)
      replace hr := hr.bzF t181_56 (by decide)
      replace hr := hr.go (s_k t181_59)
      replace hr := hr.go (s_goto t181_61)
      replace hr := hr.cvN t181_75 rfl rfl (ct_reads hG.1.2.1.1)
      replace hr := hr.go (s_iinc (ls' := [(2, .int 1), (0, _), (1, _)]) t181_78 rfl rfl)
      replace hr := hr.go (s_goto t181_81)
      replace hr := hr.go (s_iload_n t181_47 rfl)
      replace hr := hr.go (s_k t181_48)
      replace hr := hr.brF t181_50 (by decide)
      replace hr := hr.go (s_aload_n t181_53 rfl)
      replace hr := hr.go (s_iload_n t181_54 rfl)
      replace hr := hr.go (s_iload_n t181_55 rfl)
      replace hr := hr.bzT t181_56 (by decide)
      replace hr := hr.go (s_iload_n t181_64 rfl)
      replace hr := hr.go (s_k t181_65)
      replace hr := hr.brT t181_67 (by decide)
      replace hr := hr.go (s_k t181_74)
      replace hr := hr.cvN t181_75 rfl rfl (ct_reads hG.1.2.1.1)
      replace hr := hr.go (s_iinc (ls' := [(2, .int 2), (0, _), (1, _)]) t181_78 rfl rfl)
      replace hr := hr.go (s_goto t181_81)
      replace hr := hr.go (s_iload_n t181_47 rfl)
      replace hr := hr.go (s_k t181_48)
      replace hr := hr.brF t181_50 (by decide)
      replace hr := hr.go (s_aload_n t181_53 rfl)
      replace hr := hr.go (s_iload_n t181_54 rfl)
      replace hr := hr.go (s_iload_n t181_55 rfl)
      replace hr := hr.bzT t181_56 (by decide)
      replace hr := hr.go (s_iload_n t181_64 rfl)
      replace hr := hr.go (s_k t181_65)
      replace hr := hr.brT t181_67 (by decide)
      replace hr := hr.go (s_k t181_74)
      replace hr := hr.cvN t181_75 rfl rfl (ct_reads hG.1.2.1.1)
      replace hr := hr.go (s_iinc (ls' := [(2, .int 3), (0, _), (1, _)]) t181_78 rfl rfl)
      replace hr := hr.go (s_goto t181_81)
      replace hr := hr.go (s_iload_n t181_47 rfl)
      replace hr := hr.go (s_k t181_48)
      replace hr := hr.brF t181_50 (by decide)
      replace hr := hr.go (s_aload_n t181_53 rfl)
      replace hr := hr.go (s_iload_n t181_54 rfl)
      replace hr := hr.go (s_iload_n t181_55 rfl)
      replace hr := hr.bzT t181_56 (by decide)
      replace hr := hr.go (s_iload_n t181_64 rfl)
      replace hr := hr.go (s_k t181_65)
      replace hr := hr.brT t181_67 (by decide)
      replace hr := hr.go (s_k t181_74)
      replace hr := hr.cvN t181_75 rfl rfl (ct_reads hG.1.2.1.1)
      replace hr := hr.go (s_iinc (ls' := [(2, .int 4), (0, _), (1, _)]) t181_78 rfl rfl)
      replace hr := hr.go (s_goto t181_81)
      replace hr := hr.go (s_iload_n t181_47 rfl)
      replace hr := hr.go (s_k t181_48)
      replace hr := hr.brF t181_50 (by decide)
      replace hr := hr.go (s_aload_n t181_53 rfl)
      replace hr := hr.go (s_iload_n t181_54 rfl)
      replace hr := hr.go (s_iload_n t181_55 rfl)
      replace hr := hr.bzT t181_56 (by decide)
      replace hr := hr.go (s_iload_n t181_64 rfl)
      replace hr := hr.go (s_k t181_65)
      replace hr := hr.brT t181_67 (by decide)
      replace hr := hr.go (s_k t181_74)
      replace hr := hr.cvN t181_75 rfl rfl (ct_reads hG.1.2.1.1)
      replace hr := hr.go (s_iinc (ls' := [(2, .int 5), (0, _), (1, _)]) t181_78 rfl rfl)
      replace hr := hr.go (s_goto t181_81)
      replace hr := hr.go (s_iload_n t181_47 rfl)
      replace hr := hr.go (s_k t181_48)
      replace hr := hr.brF t181_50 (by decide)
      replace hr := hr.go (s_aload_n t181_53 rfl)
      replace hr := hr.go (s_iload_n t181_54 rfl)
      replace hr := hr.go (s_iload_n t181_55 rfl)
      replace hr := hr.bzT t181_56 (by decide)
      replace hr := hr.go (s_iload_n t181_64 rfl)
      replace hr := hr.go (s_k t181_65)
      replace hr := hr.brT t181_67 (by decide)
      replace hr := hr.go (s_k t181_74)
      replace hr := hr.cvN t181_75 rfl rfl (ct_reads hG.1.2.1.1)
      replace hr := hr.go (s_iinc (ls' := [(2, .int 6), (0, _), (1, _)]) t181_78 rfl rfl)
      replace hr := hr.go (s_goto t181_81)
      replace hr := hr.go (s_iload_n t181_47 rfl)
      replace hr := hr.go (s_k t181_48)
      replace hr := hr.brF t181_50 (by decide)
      replace hr := hr.go (s_aload_n t181_53 rfl)
      replace hr := hr.go (s_iload_n t181_54 rfl)
      replace hr := hr.go (s_iload_n t181_55 rfl)
      replace hr := hr.bzT t181_56 (by decide)
      replace hr := hr.go (s_iload_n t181_64 rfl)
      replace hr := hr.go (s_k t181_65)
      replace hr := hr.brF t181_67 (by decide)
      replace hr := hr.go (s_k t181_70)
      replace hr := hr.go (s_goto t181_71)
      replace hr := hr.cvN t181_75 rfl rfl (ct_reads hG.1.2.1.1)
      replace hr := hr.go (s_iinc (ls' := [(2, .int 7), (0, _), (1, _)]) t181_78 rfl rfl)
      replace hr := hr.go (s_goto t181_81)
      replace hr := hr.go (s_iload_n t181_47 rfl)
      replace hr := hr.go (s_k t181_48)
      replace hr := hr.brF t181_50 (by decide)
      replace hr := hr.go (s_aload_n t181_53 rfl)
      replace hr := hr.go (s_iload_n t181_54 rfl)
      replace hr := hr.go (s_iload_n t181_55 rfl)
      replace hr := hr.bzT t181_56 (by decide)
      replace hr := hr.go (s_iload_n t181_64 rfl)
      replace hr := hr.go (s_k t181_65)
      replace hr := hr.brT t181_67 (by decide)
      replace hr := hr.go (s_k t181_74)
      replace hr := hr.cvN t181_75 rfl rfl (ct_reads hG.1.2.1.1)
      replace hr := hr.go (s_iinc (ls' := [(2, .int 8), (0, _), (1, _)]) t181_78 rfl rfl)
      replace hr := hr.go (s_goto t181_81)
      replace hr := hr.go (s_iload_n t181_47 rfl)
      replace hr := hr.go (s_k t181_48)
      replace hr := hr.brF t181_50 (by decide)
      replace hr := hr.go (s_aload_n t181_53 rfl)
      replace hr := hr.go (s_iload_n t181_54 rfl)
      replace hr := hr.go (s_iload_n t181_55 rfl)
      replace hr := hr.bzT t181_56 (by decide)
      replace hr := hr.go (s_iload_n t181_64 rfl)
      replace hr := hr.go (s_k t181_65)
      replace hr := hr.brT t181_67 (by decide)
      replace hr := hr.go (s_k t181_74)
      replace hr := hr.cvN t181_75 rfl rfl (ct_reads hG.1.2.1.1)
      replace hr := hr.go (s_iinc (ls' := [(2, .int 9), (0, _), (1, _)]) t181_78 rfl rfl)
      replace hr := hr.go (s_goto t181_81)
      replace hr := hr.go (s_iload_n t181_47 rfl)
      replace hr := hr.go (s_k t181_48)
      replace hr := hr.brT t181_50 (by decide)
      replace hr := hr.go (s_k t181_84)
      replace hr := hr.go (s_istore_n (ls' := [(2, _), (0, _), (1, _)]) t181_85 rfl)
      replace hr := hr.go (s_iload_n t181_86 rfl)
      replace hr := hr.go (s_k t181_87)
      replace hr := hr.brF t181_89 (by decide)
      replace hr := hr.go (s_aload_n t181_92 rfl)
      replace hr := hr.go (s_getr t181_93 (hG.1.2.2.1 12 (by decide) (by decide)))
      replace hr := hr.go (s_k t181_96)
      replace hr := hr.go (s_iload_n t181_98 rfl)
      replace hr := hr.go (s_iadd t181_99)
      replace hr := hr.go (s_lconst t181_100)
      replace hr := hr.go (s_lastore t181_101)
      replace hr := hr.go (s_iinc (ls' := [(2, .int 1), (0, _), (1, _)]) t181_102 rfl rfl)
      replace hr := hr.go (s_goto t181_105)
      replace hr := hr.go (s_iload_n t181_86 rfl)
      replace hr := hr.go (s_k t181_87)
      replace hr := hr.brF t181_89 (by decide)
      replace hr := hr.go (s_aload_n t181_92 rfl)
      replace hr := hr.go (s_getr t181_93 (hG.1.2.2.1 12 (by decide) (by decide)))
      replace hr := hr.go (s_k t181_96)
      replace hr := hr.go (s_iload_n t181_98 rfl)
      replace hr := hr.go (s_iadd t181_99)
      replace hr := hr.go (s_lconst t181_100)
      replace hr := hr.go (s_lastore t181_101)
      replace hr := hr.go (s_iinc (ls' := [(2, .int 2), (0, _), (1, _)]) t181_102 rfl rfl)
      replace hr := hr.go (s_goto t181_105)
      replace hr := hr.go (s_iload_n t181_86 rfl)
      replace hr := hr.go (s_k t181_87)
      replace hr := hr.brF t181_89 (by decide)
      replace hr := hr.go (s_aload_n t181_92 rfl)
      replace hr := hr.go (s_getr t181_93 (hG.1.2.2.1 12 (by decide) (by decide)))
      replace hr := hr.go (s_k t181_96)
      replace hr := hr.go (s_iload_n t181_98 rfl)
      replace hr := hr.go (s_iadd t181_99)
      replace hr := hr.go (s_lconst t181_100)
      replace hr := hr.go (s_lastore t181_101)
      replace hr := hr.go (s_iinc (ls' := [(2, .int 3), (0, _), (1, _)]) t181_102 rfl rfl)
      replace hr := hr.go (s_goto t181_105)
      replace hr := hr.go (s_iload_n t181_86 rfl)
      replace hr := hr.go (s_k t181_87)
      replace hr := hr.brF t181_89 (by decide)
      replace hr := hr.go (s_aload_n t181_92 rfl)
      replace hr := hr.go (s_getr t181_93 (hG.1.2.2.1 12 (by decide) (by decide)))
      replace hr := hr.go (s_k t181_96)
      replace hr := hr.go (s_iload_n t181_98 rfl)
      replace hr := hr.go (s_iadd t181_99)
      replace hr := hr.go (s_lconst t181_100)
      replace hr := hr.go (s_lastore t181_101)
      replace hr := hr.go (s_iinc (ls' := [(2, .int 4), (0, _), (1, _)]) t181_102 rfl rfl)
      replace hr := hr.go (s_goto t181_105)
      replace hr := hr.go (s_iload_n t181_86 rfl)
      replace hr := hr.go (s_k t181_87)
      replace hr := hr.brF t181_89 (by decide)
      replace hr := hr.go (s_aload_n t181_92 rfl)
      replace hr := hr.go (s_getr t181_93 (hG.1.2.2.1 12 (by decide) (by decide)))
      replace hr := hr.go (s_k t181_96)
      replace hr := hr.go (s_iload_n t181_98 rfl)
      replace hr := hr.go (s_iadd t181_99)
      replace hr := hr.go (s_lconst t181_100)
      replace hr := hr.go (s_lastore t181_101)
      replace hr := hr.go (s_iinc (ls' := [(2, .int 5), (0, _), (1, _)]) t181_102 rfl rfl)
      replace hr := hr.go (s_goto t181_105)
      replace hr := hr.go (s_iload_n t181_86 rfl)
      replace hr := hr.go (s_k t181_87)
      replace hr := hr.brF t181_89 (by decide)
      replace hr := hr.go (s_aload_n t181_92 rfl)
      replace hr := hr.go (s_getr t181_93 (hG.1.2.2.1 12 (by decide) (by decide)))
      replace hr := hr.go (s_k t181_96)
      replace hr := hr.go (s_iload_n t181_98 rfl)
      replace hr := hr.go (s_iadd t181_99)
      replace hr := hr.go (s_lconst t181_100)
      replace hr := hr.go (s_lastore t181_101)
      replace hr := hr.go (s_iinc (ls' := [(2, .int 6), (0, _), (1, _)]) t181_102 rfl rfl)
      replace hr := hr.go (s_goto t181_105)
      replace hr := hr.go (s_iload_n t181_86 rfl)
      replace hr := hr.go (s_k t181_87)
      replace hr := hr.brT t181_89 (by decide)
      replace hr := hr.go (s_k t181_108)
      replace hr := hr.go (s_istore_n (ls' := [(2, _), (0, _), (1, _)]) t181_109 rfl)
      replace hr := hr.go (s_iload_n t181_110 rfl)
      replace hr := hr.go (s_k t181_111)
      replace hr := hr.brF t181_113 (by decide)
      replace hr := hr.go (s_aload_n t181_116 rfl)
      replace hr := hr.go (s_getr t181_117 (hG.1.2.2.1 17 (by decide) (by decide)))
      replace hr := hr.go (s_iload_n t181_120 rfl)
      replace hr := hr.go (s_k t181_121)
      replace hr := hr.go (s_iastore t181_122)
      replace hr := hr.go (s_aload_n t181_123 rfl)
      replace hr := hr.go (s_getr t181_124 (hG.1.2.2.1 18 (by decide) (by decide)))
      replace hr := hr.go (s_iload_n t181_127 rfl)
      replace hr := hr.go (s_k t181_128)
      replace hr := hr.go (s_iastore t181_129)
      replace hr := hr.go (s_iinc (ls' := [(2, .int 4), (0, _), (1, _)]) t181_130 rfl rfl)
      replace hr := hr.go (s_goto t181_133)
      replace hr := hr.go (s_iload_n t181_110 rfl)
      replace hr := hr.go (s_k t181_111)
      replace hr := hr.brF t181_113 (by decide)
      replace hr := hr.go (s_aload_n t181_116 rfl)
      replace hr := hr.go (s_getr t181_117 (hG.1.2.2.1 17 (by decide) (by decide)))
      replace hr := hr.go (s_iload_n t181_120 rfl)
      replace hr := hr.go (s_k t181_121)
      replace hr := hr.go (s_iastore t181_122)
      replace hr := hr.go (s_aload_n t181_123 rfl)
      replace hr := hr.go (s_getr t181_124 (hG.1.2.2.1 18 (by decide) (by decide)))
      replace hr := hr.go (s_iload_n t181_127 rfl)
      replace hr := hr.go (s_k t181_128)
      replace hr := hr.go (s_iastore t181_129)
      replace hr := hr.go (s_iinc (ls' := [(2, .int 5), (0, _), (1, _)]) t181_130 rfl rfl)
      replace hr := hr.go (s_goto t181_133)
      replace hr := hr.go (s_iload_n t181_110 rfl)
      replace hr := hr.go (s_k t181_111)
      replace hr := hr.brF t181_113 (by decide)
      replace hr := hr.go (s_aload_n t181_116 rfl)
      replace hr := hr.go (s_getr t181_117 (hG.1.2.2.1 17 (by decide) (by decide)))
      replace hr := hr.go (s_iload_n t181_120 rfl)
      replace hr := hr.go (s_k t181_121)
      replace hr := hr.go (s_iastore t181_122)
      replace hr := hr.go (s_aload_n t181_123 rfl)
      replace hr := hr.go (s_getr t181_124 (hG.1.2.2.1 18 (by decide) (by decide)))
      replace hr := hr.go (s_iload_n t181_127 rfl)
      replace hr := hr.go (s_k t181_128)
      replace hr := hr.go (s_iastore t181_129)
      replace hr := hr.go (s_iinc (ls' := [(2, .int 6), (0, _), (1, _)]) t181_130 rfl rfl)
      replace hr := hr.go (s_goto t181_133)
      replace hr := hr.go (s_iload_n t181_110 rfl)
      replace hr := hr.go (s_k t181_111)
      replace hr := hr.brT t181_113 (by decide)
      replace hr := hr.go (s_aload_n t181_136 rfl)
      replace hr := hr.go (s_k t181_137)
      replace hr := hr.go (s_putf t181_138)
      replace hr := hr.go (s_aload_n t181_141 rfl)
      replace hr := hr.go (s_k t181_142)
      replace hr := hr.go (s_putf t181_143)
      replace hr := hr.go (s_aload_n t181_146 rfl)
      replace hr := hr.go (s_k t181_147)
      replace hr := hr.go (s_putf t181_148)
      replace hr := hr.go (s_aload_n t181_151 rfl)
      replace hr := hr.go (s_k t181_152)
      replace hr := hr.go (s_putf t181_153)
      replace hr := hr.go (s_aload_n t181_156 rfl)
      obtain ⟨m2, ⟨q1, q2, q3⟩, hr⟩ := hr.fvN t181_157 rfl rfl (ct_tokP (B := (m 129, wd, n)) (i := 0) hG.1.1 hE (by repeat rw [xu_row (by decide)]) (by show _ = Int32.ofNat n; rw [← hxn]; repeat (first | exact xu_same | rw [xu_oth (by decide)] | rw [xu_row (by decide)])) (by show _ = Int32.ofNat 0; repeat (first | exact xu_same | rw [xu_oth (by decide)] | rw [xu_row (by decide)])))
      skip
      have hA : ∀ g1 : xL, (∀ j : Nat, j < 6 → g1 139 (6 + j) = 0) → AR (m 129, wd, n) eS0 m2 g1 := by
        intro g1 hg1
        have r130 : m2 130 = _ := q2 130 (by decide)
        refine ⟨⟨?_, q1, ?_, by decide, ?_, by decide, ?_⟩, fun w hw2 => Nat.zero_le _, fun w w1 w2 => ?_, fun w _ r hr2 => absurd hr2 (Nat.not_lt_zero r), fun w hw2 => ⟨?_, ?_⟩, fun k hk => ?_, fun j hj v hv => ?_⟩
        · rw [q3 28 (by decide)]; repeat (first | exact xu_same | rw [xu_oth (by decide)] | rw [xu_row (by decide)])
        · rw [q3 33 (by decide)]; repeat (first | exact xu_same | rw [xu_oth (by decide)] | rw [xu_row (by decide)])
        · rw [q3 32 (by decide)]; repeat (first | exact xu_same | rw [xu_oth (by decide)] | rw [xu_row (by decide)])
        · rw [q3 29 (by decide)]; repeat (first | exact xu_same | rw [xu_oth (by decide)] | rw [xu_row (by decide)])
        · rw [r130]
          rcases (show w = 1 ∨ w = 2 ∨ w = 3 ∨ w = 4 ∨ w = 5 by omega) with rfl | rfl | rfl | rfl | rfl
          all_goals (repeat (first | exact xu_same | rw [xu_oth (by decide)] | rw [xu_row (by decide)]))
        · rw [r130]
          rcases hw2 with rfl | rfl | rfl
          all_goals (repeat (first | exact xu_same | rw [xu_oth (by decide)] | rw [xu_row (by decide)]))
        · rw [q3 21 (by decide)]
          have e21 : ∀ z : Int32, z = 0 → bj z w = false := fun z hz => by rw [hz]; exact BitVec.getLsbD_zero
          rw [e21 _ (by repeat (first | exact xu_same | rw [xu_oth (by decide)] | rw [xu_row (by decide)]))]
          rfl
        · rw [q3 21 (by decide)]
          have e21 : ∀ z : Int32, z = 0 → bj z (16 + k) = false := fun z hz => by rw [hz]; exact BitVec.getLsbD_zero
          rw [e21 _ (by repeat (first | exact xu_same | rw [xu_oth (by decide)] | rw [xu_row (by decide)]))]
          rfl
        · rw [hg1 j hj, bl_0]; rfl
      have h22 : m2 128 22 = Int32.ofNat 0 := by rw [q3 22 (by decide)]; repeat (first | exact xu_same | rw [xu_oth (by decide)] | rw [xu_row (by decide)])
      obtain ⟨m', g', hs, hte⟩ := lp181 hG hE _ 0 eS0 m2 _ (hA _ (by intro j hj; rcases (show j = 0 ∨ j = 1 ∨ j = 2 ∨ j = 3 ∨ j = 4 ∨ j = 5 by omega) with rfl | rfl | rfl | rfl | rfl | rfl; all_goals (repeat (first | exact xu_same | rw [xu_oth (by decide)])))) h22 hr
      have hF0 : FM m m2 := FM.er q2 (fun k hk => q3 k (by omega)) (by repeat (first | refine FM.x128 ?_ (by decide) | refine FM.x130 ?_ (by decide) | refine FM.xr ?_ (by unfold fhq fhp; omega) | exact FM.rf))
      refine ⟨m', g', hs, Or.inr ⟨n, hxn, hn, ?_⟩⟩
      obtain ⟨f, oo, h1, h2⟩ := hte
      refine ⟨f, oo, h1, ?_⟩
      cases oo with
      | inl e =>
        refine ⟨h2.1, h2.2.1, h2.2.2.1, hF0.tr h2.2.2.2.1, FG.tr (fun a j ha => ?_) h2.2.2.2.2⟩
        by_cases e : a = 139
        · subst e
          have ha := ha rfl
          rcases (show j = 0 ∨ j = 1 ∨ j = 2 ∨ j = 3 ∨ j = 4 ∨ j = 5 by omega) with rfl | rfl | rfl | rfl | rfl | rfl
          all_goals (repeat (first | rfl | rw [xu_oth (by decide)]))
        · repeat rw [xu_row (show ¬ a = 127 + 12 by omega)]
      | inr p => exact h2
    · exact bad (Or.inr (by rw [hl2] at b14; omega)) _ hr
end
section
/-! Tellings as bits: set, taken away, the other one (out of 69i). -/
section XI
variable {nf : Bool} {xs : List Int32} {d c : Nat} {ini : Bool} {nL : Nat} {rt : Option FieldType} {tab : Nat → Option (Instr × Nat)} {G : xG} {r : Option Value} {h' : zH} {pc pc' len : Nat} {ls ls' : zL} {st : List Value} {m : xM} {g : xL} {N : Nat}
theorem s_lushr {x : Int64} {y : Int32} (t : xt tab pc pc' .lushr) : XS nf xs d c ini nL rt tab G r h' (pc, ls, .int y :: .long x :: st, m, g) (pc', ls, .long ((x.toUInt64 >>> (y.toInt64.toUInt64 &&& Int64.toUInt64 63)).toInt64) :: st, m, g) := by
  obtain ⟨t, rfl⟩ := t
  exact xpure t rfl rfl (fun _ => rfl) (fun h s q => by cases q; rfl)
end XI
theorem sl_4 : ∀ n : Nat, n < 64 → (((Int32.ofNat n).toInt64.toUInt64 &&& Int64.toUInt64 63).toBitVec % 64).toNat = n := by decide +kernel
theorem bl_ush (n : Nat) (hn : n < 64) (x : Int64) (i : Nat) : bl ((x.toUInt64 >>> ((Int32.ofNat n).toInt64.toUInt64 &&& Int64.toUInt64 63)).toInt64) i = bl x (n + i) := by
  show (x.toUInt64 >>> ((Int32.ofNat n).toInt64.toUInt64 &&& Int64.toUInt64 63)).toBitVec.getLsbD i = x.toUInt64.toBitVec.getLsbD (n + i)
  rw [UInt64.toBitVec_shiftRight]
  show (x.toUInt64.toBitVec >>> (((Int32.ofNat n).toInt64.toUInt64 &&& Int64.toUInt64 63).toBitVec % 64).toNat).getLsbD i = _
  rw [sl_4 n hn, BitVec.getLsbD_ushiftRight]
theorem bl_tsu {x : Int64} {k : Nat} (hk : k < 64) : (x.toUInt64 >>> ((Int32.ofNat k).toInt64.toUInt64 &&& Int64.toUInt64 63)).toInt64 &&& 1 = 1 ↔ bl x k = true := by
  have h0 : bl ((x.toUInt64 >>> ((Int32.ofNat k).toInt64.toUInt64 &&& Int64.toUInt64 63)).toInt64) 0 = bl x k := by rw [bl_ush k hk x, Nat.add_zero]
  constructor
  · intro h
    have := congrArg (fun z => bl z 0) h
    rw [bl_and, h0, bl_1 0 (by omega)] at this
    simpa using this
  · intro h
    refine bl_ext (fun i hi => ?_)
    rw [bl_and, bl_1 i hi]
    by_cases h1 : i = 0
    · rw [h1, h0, h]; rfl
    · rw [decide_eq_false h1, Bool.and_false]
/-- bit y of w is set, or taken away -/
def stB (z y : Int32) (w : Int64) : Int64 := if z = 0 then w &&& (((1 : Int64) <<< (y.toInt64 &&& 63)) ^^^ -1) else w ||| ((1 : Int64) <<< (y.toInt64 &&& 63))
/-- bit y of w is the other one -/
def flB (y : Int32) (w : Int64) : Int64 := w ^^^ ((1 : Int64) <<< (y.toInt64 &&& 63))
theorem bl_xor (x y : Int64) (i : Nat) : bl (x ^^^ y) i = Bool.xor (bl x i) (bl y i) := by unfold bl; rw [Int64.toBitVec_xor, BitVec.getLsbD_xor]
theorem bl_m1 : ∀ i : Nat, i < 64 → bl (-1) i = true := by decide +kernel
theorem bl_one {j k : Nat} (hj : j < 64) (hk : k < 64) : bl ((1 : Int64) <<< ((Int32.ofNat j).toInt64 &&& 63)) k = decide (j = k) := by
  have h := bl_set (x := 0) hj hk
  rwa [bl_or, bl_0, Bool.false_or, Bool.false_or] at h
theorem st_fl {w : Int64} {z : Int32} {v : Nat} (hv : v < 64) (hz : ¬ (bl w v = true ↔ ¬ z = 0)) : stB z (Int32.ofNat v) w = flB (Int32.ofNat v) w := by
  refine bl_ext (fun i hi => ?_)
  unfold stB flB
  by_cases e : z = 0
  · have hb : bl w v = true := by
      cases q : bl w v with
      | true => rfl
      | false => exact absurd ⟨fun z1 => (by rw [q] at z1; cases z1), fun z1 => absurd e z1⟩ hz
    rw [if_pos e, bl_and, bl_xor, bl_m1 i hi, bl_xor, bl_one hv hi]
    by_cases f : v = i
    · rw [decide_eq_true f, ← f, hb]; rfl
    · rw [decide_eq_false f, Bool.xor_false]
      cases bl w i <;> rfl
  · have hb : bl w v = false := by
      cases q : bl w v with
      | false => rfl
      | true => exact absurd ⟨fun _ => e, fun _ => q⟩ hz
    rw [if_neg e, bl_or, bl_xor, bl_one hv hi]
    by_cases f : v = i
    · rw [decide_eq_true f, ← f, hb]; rfl
    · rw [decide_eq_false f, Bool.xor_false, Bool.or_false]
end
section
/-! The class: what stands behind the reading of a text; a whole text. -/
theorem t100_0 : xt zt100 0 1 (.iload_n 1) := ⟨rfl, rfl⟩
theorem t100_1 : xtb zt100 1 4 12 (.ifCond .lt 11) (11) := ⟨rfl, rfl, rfl⟩
theorem t100_4 : xt zt100 4 5 (.iload_n 1) := ⟨rfl, rfl⟩
theorem t100_5 : xt zt100 5 6 (.aload_n 0) := ⟨rfl, rfl⟩
theorem t100_6 : xtf zt100 10 6 9 (.getfield 13) 13 10 1 1 := ⟨rfl, rfl, rfl, rfl⟩
theorem t100_9 : xtb zt100 9 12 15 (.if_icmp .le 6) (6) := ⟨rfl, rfl, rfl⟩
theorem t100_12 : xtk zt100 12 14 (-2) := Or.inr (Or.inl ⟨-2, ⟨rfl, rfl⟩, by decide⟩)
theorem t100_14 : xt zt100 14 15 .ireturn := ⟨rfl, rfl⟩
theorem t100_15 : xt zt100 15 16 (.aload_n 0) := ⟨rfl, rfl⟩
theorem t100_16 : xtf zt100 10 16 19 (.getfield 26) 26 10 4 3 := ⟨rfl, rfl, rfl, rfl⟩
theorem t100_19 : xt zt100 19 20 (.aload_n 0) := ⟨rfl, rfl⟩
theorem t100_20 : xtf zt100 10 20 23 (.getfield 9) 9 10 0 3 := ⟨rfl, rfl, rfl, rfl⟩
theorem t100_23 : xt zt100 23 24 (.iload_n 1) := ⟨rfl, rfl⟩
theorem t100_24 : xt zt100 24 25 (.aload_n 0) := ⟨rfl, rfl⟩
theorem t100_25 : xtf zt100 10 25 28 (.getfield 37) 37 10 6 3 := ⟨rfl, rfl, rfl, rfl⟩
theorem t100_28 : xtc zt100 10 28 31 (.invokevirtual 96) 96 1 27 3 := ⟨rfl, rfl, rfl⟩
theorem t100_31 : xt zt100 31 32 (.istore_n 2) := ⟨rfl, rfl⟩
theorem t100_32 : xt zt100 32 33 (.aload_n 0) := ⟨rfl, rfl⟩
theorem t100_33 : xtk zt100 33 34 (0) := Or.inl ⟨0, ⟨rfl, rfl⟩, by decide⟩
theorem t100_34 : xtf zt100 10 34 37 (.putfield 13) 13 10 1 1 := ⟨rfl, rfl, rfl, rfl⟩
theorem t100_37 : xt zt100 37 38 (.aload_n 0) := ⟨rfl, rfl⟩
theorem t100_38 : xt zt100 38 39 (.aload_n 0) := ⟨rfl, rfl⟩
theorem t100_39 : xtf zt100 10 39 42 (.getfield 26) 26 10 4 3 := ⟨rfl, rfl, rfl, rfl⟩
theorem t100_42 : xtf zt100 10 42 45 (.getfield 100) 100 4 5 1 := ⟨rfl, rfl, rfl, rfl⟩
theorem t100_45 : xtf zt100 10 45 48 (.putfield 17) 17 10 2 1 := ⟨rfl, rfl, rfl, rfl⟩
theorem t100_48 : xt zt100 48 49 (.aload_n 0) := ⟨rfl, rfl⟩
theorem t100_49 : xt zt100 49 50 (.aload_n 0) := ⟨rfl, rfl⟩
theorem t100_50 : xtf zt100 10 50 53 (.getfield 26) 26 10 4 3 := ⟨rfl, rfl, rfl, rfl⟩
theorem t100_53 : xtf zt100 10 53 56 (.getfield 103) 103 4 6 1 := ⟨rfl, rfl, rfl, rfl⟩
theorem t100_56 : xtf zt100 10 56 59 (.putfield 20) 20 10 3 1 := ⟨rfl, rfl, rfl, rfl⟩
theorem t100_59 : xt zt100 59 60 (.iload_n 2) := ⟨rfl, rfl⟩
theorem t100_60 : xtb zt100 60 63 65 (.ifCond .ne 5) (5) := ⟨rfl, rfl, rfl⟩
theorem t100_63 : xtk zt100 63 64 (-1) := Or.inl ⟨-1, ⟨rfl, rfl⟩, by decide⟩
theorem t100_64 : xt zt100 64 65 .ireturn := ⟨rfl, rfl⟩
theorem t100_65 : xt zt100 65 66 (.aload_n 0) := ⟨rfl, rfl⟩
theorem t100_66 : xtf zt100 10 66 69 (.getfield 33) 33 10 5 3 := ⟨rfl, rfl, rfl, rfl⟩
theorem t100_69 : xt zt100 69 70 (.astore_n 3) := ⟨rfl, rfl⟩
theorem t100_70 : xt zt100 70 71 (.aload_n 0) := ⟨rfl, rfl⟩
theorem t100_71 : xt zt100 71 72 (.aload_n 0) := ⟨rfl, rfl⟩
theorem t100_72 : xtf zt100 10 72 75 (.getfield 37) 37 10 6 3 := ⟨rfl, rfl, rfl, rfl⟩
theorem t100_75 : xtf zt100 10 75 78 (.putfield 33) 33 10 5 3 := ⟨rfl, rfl, rfl, rfl⟩
theorem t100_78 : xt zt100 78 79 (.aload_n 0) := ⟨rfl, rfl⟩
theorem t100_79 : xt zt100 79 80 (.aload_n 3) := ⟨rfl, rfl⟩
theorem t100_80 : xtf zt100 10 80 83 (.putfield 37) 37 10 6 3 := ⟨rfl, rfl, rfl, rfl⟩
theorem t100_83 : xt zt100 83 84 (.aload_n 0) := ⟨rfl, rfl⟩
theorem t100_84 : xtf zt100 10 84 87 (.getfield 45) 45 10 7 3 := ⟨rfl, rfl, rfl, rfl⟩
theorem t100_87 : xt zt100 87 88 (.aload_n 0) := ⟨rfl, rfl⟩
theorem t100_88 : xtf zt100 10 88 91 (.getfield 33) 33 10 5 3 := ⟨rfl, rfl, rfl, rfl⟩
theorem t100_91 : xtc zt100 10 91 94 (.invokevirtual 89) 89 1 47 1 := ⟨rfl, rfl, rfl⟩
theorem t100_94 : xt zt100 94 95 (.aload_n 0) := ⟨rfl, rfl⟩
theorem t100_95 : xtk zt100 95 96 (0) := Or.inl ⟨0, ⟨rfl, rfl⟩, by decide⟩
theorem t100_96 : xtf zt100 10 96 99 (.putfield 58) 58 10 11 1 := ⟨rfl, rfl, rfl, rfl⟩
theorem t100_99 : xt zt100 99 100 (.aload_n 0) := ⟨rfl, rfl⟩
theorem t100_100 : xtf zt100 10 100 103 (.getfield 72) 72 10 13 3 := ⟨rfl, rfl, rfl, rfl⟩
theorem t100_103 : xtc zt100 10 103 106 (.invokevirtual 106) 106 1 93 0 := ⟨rfl, rfl, rfl⟩
theorem t100_106 : xt zt100 106 107 (.aload_n 0) := ⟨rfl, rfl⟩
theorem t100_107 : xtf zt100 10 107 110 (.getfield 79) 79 10 14 3 := ⟨rfl, rfl, rfl, rfl⟩
theorem t100_110 : xtc zt100 10 110 113 (.invokevirtual 109) 109 1 10 0 := ⟨rfl, rfl, rfl⟩
theorem t100_113 : xt zt100 113 114 (.aload_n 0) := ⟨rfl, rfl⟩
theorem t100_114 : xtf zt100 10 114 117 (.getfield 33) 33 10 5 3 := ⟨rfl, rfl, rfl, rfl⟩
theorem t100_117 : xtf zt100 10 117 120 (.getfield 110) 110 3 9 1 := ⟨rfl, rfl, rfl, rfl⟩
theorem t100_120 : xt zt100 120 121 .ireturn := ⟨rfl, rfl⟩
theorem t47_0 : xt zt47 0 1 (.aload_n 0) := ⟨rfl, rfl⟩
theorem t47_1 : xt zt47 1 2 (.aload_n 1) := ⟨rfl, rfl⟩
theorem t47_2 : xtf zt47 5 2 5 (.putfield 49) 49 5 2 3 := ⟨rfl, rfl, rfl, rfl⟩
theorem t47_5 : xt zt47 5 6 (.aload_n 0) := ⟨rfl, rfl⟩
theorem t47_6 : xtk zt47 6 8 (6) := Or.inr (Or.inl ⟨6, ⟨rfl, rfl⟩, by decide⟩)
theorem t47_8 : xt zt47 8 9 (.aload_n 0) := ⟨rfl, rfl⟩
theorem t47_9 : xtf zt47 5 9 12 (.getfield 49) 49 5 2 3 := ⟨rfl, rfl, rfl, rfl⟩
theorem t47_12 : xtf zt47 5 12 15 (.getfield 54) 54 3 1 3 := ⟨rfl, rfl, rfl, rfl⟩
theorem t47_15 : xtf zt47 5 15 18 (.getfield 60) 60 7 3 1 := ⟨rfl, rfl, rfl, rfl⟩
theorem t47_18 : xtc zt47 5 18 21 (.invokestatic 65) 65 6 0 0 := ⟨rfl, rfl, rfl⟩
theorem t47_21 : xtf zt47 5 21 24 (.putfield 21) 21 5 3 1 := ⟨rfl, rfl, rfl, rfl⟩
theorem t47_24 : xt zt47 24 25 (.aload_n 0) := ⟨rfl, rfl⟩
theorem t47_25 : xtk zt47 25 26 (0) := Or.inl ⟨0, ⟨rfl, rfl⟩, by decide⟩
theorem t47_26 : xtf zt47 5 26 29 (.putfield 25) 25 5 4 1 := ⟨rfl, rfl, rfl, rfl⟩
theorem t47_29 : xt zt47 29 30 (.aload_n 0) := ⟨rfl, rfl⟩
theorem t47_30 : xtk zt47 30 31 (0) := Or.inl ⟨0, ⟨rfl, rfl⟩, by decide⟩
theorem t47_31 : xtf zt47 5 31 34 (.putfield 28) 28 5 5 1 := ⟨rfl, rfl, rfl, rfl⟩
theorem t47_34 : xt zt47 34 35 (.aload_n 0) := ⟨rfl, rfl⟩
theorem t47_35 : xtk zt47 35 36 (0) := Or.inl ⟨0, ⟨rfl, rfl⟩, by decide⟩
theorem t47_36 : xtf zt47 5 36 39 (.putfield 31) 31 5 6 1 := ⟨rfl, rfl, rfl, rfl⟩
theorem t47_39 : xt zt47 39 40 (.aload_n 0) := ⟨rfl, rfl⟩
theorem t47_40 : xtk zt47 40 41 (0) := Or.inl ⟨0, ⟨rfl, rfl⟩, by decide⟩
theorem t47_41 : xtf zt47 5 41 44 (.putfield 34) 34 5 7 1 := ⟨rfl, rfl, rfl, rfl⟩
theorem t47_44 : xt zt47 44 45 (.aload_n 0) := ⟨rfl, rfl⟩
theorem t47_45 : xtk zt47 45 46 (0) := Or.inl ⟨0, ⟨rfl, rfl⟩, by decide⟩
theorem t47_46 : xtf zt47 5 46 49 (.putfield 37) 37 5 8 1 := ⟨rfl, rfl, rfl, rfl⟩
theorem t47_49 : xt zt47 49 50 (.aload_n 0) := ⟨rfl, rfl⟩
theorem t47_50 : xtk zt47 50 51 (0) := Or.inl ⟨0, ⟨rfl, rfl⟩, by decide⟩
theorem t47_51 : xtf zt47 5 51 54 (.putfield 40) 40 5 9 1 := ⟨rfl, rfl, rfl, rfl⟩
theorem t47_54 : xt zt47 54 55 (.aload_n 0) := ⟨rfl, rfl⟩
theorem t47_55 : xtk zt47 55 56 (0) := Or.inl ⟨0, ⟨rfl, rfl⟩, by decide⟩
theorem t47_56 : xtf zt47 5 56 59 (.putfield 43) 43 5 10 1 := ⟨rfl, rfl, rfl, rfl⟩
theorem t47_59 : xt zt47 59 60 (.aload_n 0) := ⟨rfl, rfl⟩
theorem t47_60 : xtk zt47 60 61 (0) := Or.inl ⟨0, ⟨rfl, rfl⟩, by decide⟩
theorem t47_61 : xtf zt47 5 61 64 (.putfield 46) 46 5 11 1 := ⟨rfl, rfl, rfl, rfl⟩
theorem t47_64 : xtk zt47 64 65 (0) := Or.inl ⟨0, ⟨rfl, rfl⟩, by decide⟩
theorem t47_65 : xt zt47 65 66 (.istore_n 2) := ⟨rfl, rfl⟩
theorem t47_66 : xt zt47 66 67 (.iload_n 2) := ⟨rfl, rfl⟩
theorem t47_67 : xtk zt47 67 69 (6) := Or.inr (Or.inl ⟨6, ⟨rfl, rfl⟩, by decide⟩)
theorem t47_69 : xtb zt47 69 72 111 (.if_icmp .ge 42) (42) := ⟨rfl, rfl, rfl⟩
theorem t47_72 : xt zt47 72 73 (.aload_n 0) := ⟨rfl, rfl⟩
theorem t47_73 : xtf zt47 5 73 76 (.getfield 11) 11 5 0 3 := ⟨rfl, rfl, rfl, rfl⟩
theorem t47_76 : xt zt47 76 77 (.iload_n 2) := ⟨rfl, rfl⟩
theorem t47_77 : xt zt47 77 78 .aaload := ⟨rfl, rfl⟩
theorem t47_78 : xt zt47 78 79 (.aload_n 0) := ⟨rfl, rfl⟩
theorem t47_79 : xtf zt47 5 79 82 (.getfield 49) 49 5 2 3 := ⟨rfl, rfl, rfl, rfl⟩
theorem t47_82 : xtf zt47 5 82 85 (.getfield 54) 54 3 1 3 := ⟨rfl, rfl, rfl, rfl⟩
theorem t47_85 : xt zt47 85 86 (.iload_n 2) := ⟨rfl, rfl⟩
theorem t47_86 : xtk zt47 86 87 (2) := Or.inl ⟨2, ⟨rfl, rfl⟩, by decide⟩
theorem t47_87 : xtc zt47 5 87 90 (.invokevirtual 71) 71 1 83 2 := ⟨rfl, rfl, rfl⟩
theorem t47_90 : xt zt47 90 91 (.aload_n 0) := ⟨rfl, rfl⟩
theorem t47_91 : xtf zt47 5 91 94 (.getfield 49) 49 5 2 3 := ⟨rfl, rfl, rfl, rfl⟩
theorem t47_94 : xtf zt47 5 94 97 (.getfield 54) 54 3 1 3 := ⟨rfl, rfl, rfl, rfl⟩
theorem t47_97 : xt zt47 97 98 (.iload_n 2) := ⟨rfl, rfl⟩
theorem t47_98 : xtk zt47 98 99 (3) := Or.inl ⟨3, ⟨rfl, rfl⟩, by decide⟩
theorem t47_99 : xtc zt47 5 99 102 (.invokevirtual 71) 71 1 83 2 := ⟨rfl, rfl, rfl⟩
theorem t47_102 : xtc zt47 5 102 105 (.invokevirtual 74) 74 1 17 2 := ⟨rfl, rfl, rfl⟩
theorem t47_105 : xt zt47 105 108 (.iinc 2 1) := ⟨rfl, rfl⟩
theorem t47_108 : xtb zt47 108 111 66 (.goto (-42)) (-42) := ⟨rfl, rfl, rfl⟩
theorem t47_111 : xtk zt47 111 112 (0) := Or.inl ⟨0, ⟨rfl, rfl⟩, by decide⟩
theorem t47_112 : xt zt47 112 113 (.istore_n 2) := ⟨rfl, rfl⟩
theorem t47_113 : xt zt47 113 114 (.iload_n 2) := ⟨rfl, rfl⟩
theorem t47_114 : xtk zt47 114 116 (6) := Or.inr (Or.inl ⟨6, ⟨rfl, rfl⟩, by decide⟩)
theorem t47_116 : xtb zt47 116 119 132 (.if_icmp .ge 16) (16) := ⟨rfl, rfl, rfl⟩
theorem t47_119 : xt zt47 119 120 (.aload_n 0) := ⟨rfl, rfl⟩
theorem t47_120 : xtf zt47 5 120 123 (.getfield 17) 17 5 1 3 := ⟨rfl, rfl, rfl, rfl⟩
theorem t47_123 : xt zt47 123 124 (.iload_n 2) := ⟨rfl, rfl⟩
theorem t47_124 : xt zt47 124 125 (.lconst 0) := ⟨rfl, rfl⟩
theorem t47_125 : xt zt47 125 126 .lastore := ⟨rfl, rfl⟩
theorem t47_126 : xt zt47 126 129 (.iinc 2 1) := ⟨rfl, rfl⟩
theorem t47_129 : xtb zt47 129 132 113 (.goto (-16)) (-16) := ⟨rfl, rfl, rfl⟩
theorem t47_132 : xtk zt47 132 133 (0) := Or.inl ⟨0, ⟨rfl, rfl⟩, by decide⟩
theorem t47_133 : xt zt47 133 134 (.istore_n 2) := ⟨rfl, rfl⟩
theorem t47_134 : xt zt47 134 135 (.iload_n 2) := ⟨rfl, rfl⟩
theorem t47_135 : xt zt47 135 136 (.aload_n 0) := ⟨rfl, rfl⟩
theorem t47_136 : xtf zt47 5 136 139 (.getfield 49) 49 5 2 3 := ⟨rfl, rfl, rfl, rfl⟩
theorem t47_139 : xtf zt47 5 139 142 (.getfield 78) 78 3 3 3 := ⟨rfl, rfl, rfl, rfl⟩
theorem t47_142 : xtf zt47 5 142 145 (.getfield 60) 60 7 3 1 := ⟨rfl, rfl, rfl, rfl⟩
theorem t47_145 : xtb zt47 145 148 183 (.if_icmp .ge 38) (38) := ⟨rfl, rfl, rfl⟩
theorem t47_148 : xt zt47 148 149 (.aload_n 0) := ⟨rfl, rfl⟩
theorem t47_149 : xt zt47 149 150 (.aload_n 0) := ⟨rfl, rfl⟩
theorem t47_150 : xtf zt47 5 150 153 (.getfield 49) 49 5 2 3 := ⟨rfl, rfl, rfl, rfl⟩
theorem t47_153 : xtf zt47 5 153 156 (.getfield 78) 78 3 3 3 := ⟨rfl, rfl, rfl, rfl⟩
theorem t47_156 : xt zt47 156 157 (.iload_n 2) := ⟨rfl, rfl⟩
theorem t47_157 : xtk zt47 157 158 (0) := Or.inl ⟨0, ⟨rfl, rfl⟩, by decide⟩
theorem t47_158 : xtc zt47 5 158 161 (.invokevirtual 71) 71 1 83 2 := ⟨rfl, rfl, rfl⟩
theorem t47_161 : xt zt47 161 162 (.aload_n 0) := ⟨rfl, rfl⟩
theorem t47_162 : xtf zt47 5 162 165 (.getfield 49) 49 5 2 3 := ⟨rfl, rfl, rfl, rfl⟩
theorem t47_165 : xtf zt47 5 165 168 (.getfield 78) 78 3 3 3 := ⟨rfl, rfl, rfl, rfl⟩
theorem t47_168 : xt zt47 168 169 (.iload_n 2) := ⟨rfl, rfl⟩
theorem t47_169 : xtk zt47 169 170 (1) := Or.inl ⟨1, ⟨rfl, rfl⟩, by decide⟩
theorem t47_170 : xtc zt47 5 170 173 (.invokevirtual 71) 71 1 83 2 := ⟨rfl, rfl, rfl⟩
theorem t47_173 : xtk zt47 173 174 (1) := Or.inl ⟨1, ⟨rfl, rfl⟩, by decide⟩
theorem t47_174 : xtc zt47 5 174 177 (.invokevirtual 80) 80 1 50 3 := ⟨rfl, rfl, rfl⟩
theorem t47_177 : xt zt47 177 180 (.iinc 2 1) := ⟨rfl, rfl⟩
theorem t47_180 : xtb zt47 180 183 134 (.goto (-46)) (-46) := ⟨rfl, rfl, rfl⟩
theorem t47_183 : xt zt47 183 184 .return_ := ⟨rfl, rfl⟩
theorem t17_0 : xt zt17 0 1 (.aload_n 0) := ⟨rfl, rfl⟩
theorem t17_1 : xt zt17 1 2 (.iload_n 1) := ⟨rfl, rfl⟩
theorem t17_2 : xtf zt17 2 2 5 (.putfield 15) 15 2 1 1 := ⟨rfl, rfl, rfl, rfl⟩
theorem t17_5 : xt zt17 5 6 (.aload_n 0) := ⟨rfl, rfl⟩
theorem t17_6 : xt zt17 6 7 (.iload_n 2) := ⟨rfl, rfl⟩
theorem t17_7 : xtf zt17 2 7 10 (.putfield 18) 18 2 2 1 := ⟨rfl, rfl, rfl, rfl⟩
theorem t17_10 : xt zt17 10 11 (.aload_n 0) := ⟨rfl, rfl⟩
theorem t17_11 : xtk zt17 11 12 (0) := Or.inl ⟨0, ⟨rfl, rfl⟩, by decide⟩
theorem t17_12 : xtf zt17 2 12 15 (.putfield 25) 25 2 4 1 := ⟨rfl, rfl, rfl, rfl⟩
theorem t17_15 : xt zt17 15 16 (.aload_n 0) := ⟨rfl, rfl⟩
theorem t17_16 : xtk zt17 16 17 (-1) := Or.inl ⟨-1, ⟨rfl, rfl⟩, by decide⟩
theorem t17_17 : xtf zt17 2 17 20 (.putfield 28) 28 2 5 1 := ⟨rfl, rfl, rfl, rfl⟩
theorem t17_20 : xt zt17 20 21 (.aload_n 0) := ⟨rfl, rfl⟩
theorem t17_21 : xtk zt17 21 22 (0) := Or.inl ⟨0, ⟨rfl, rfl⟩, by decide⟩
theorem t17_22 : xtf zt17 2 22 25 (.putfield 31) 31 2 6 1 := ⟨rfl, rfl, rfl, rfl⟩
theorem t17_25 : xt zt17 25 26 (.aload_n 0) := ⟨rfl, rfl⟩
theorem t17_26 : xtk zt17 26 27 (0) := Or.inl ⟨0, ⟨rfl, rfl⟩, by decide⟩
theorem t17_27 : xtf zt17 2 27 30 (.putfield 34) 34 2 7 1 := ⟨rfl, rfl, rfl, rfl⟩
theorem t17_30 : xt zt17 30 31 (.aload_n 0) := ⟨rfl, rfl⟩
theorem t17_31 : xtk zt17 31 32 (0) := Or.inl ⟨0, ⟨rfl, rfl⟩, by decide⟩
theorem t17_32 : xtf zt17 2 32 35 (.putfield 37) 37 2 8 1 := ⟨rfl, rfl, rfl, rfl⟩
theorem t17_35 : xtk zt17 35 36 (0) := Or.inl ⟨0, ⟨rfl, rfl⟩, by decide⟩
theorem t17_36 : xt zt17 36 37 (.istore_n 3) := ⟨rfl, rfl⟩
theorem t17_37 : xt zt17 37 38 (.iload_n 3) := ⟨rfl, rfl⟩
theorem t17_38 : xtk zt17 38 40 (6) := Or.inr (Or.inl ⟨6, ⟨rfl, rfl⟩, by decide⟩)
theorem t17_40 : xtb zt17 40 43 56 (.if_icmp .ge 16) (16) := ⟨rfl, rfl, rfl⟩
theorem t17_43 : xt zt17 43 44 (.aload_n 0) := ⟨rfl, rfl⟩
theorem t17_44 : xtf zt17 2 44 47 (.getfield 40) 40 2 9 3 := ⟨rfl, rfl, rfl, rfl⟩
theorem t17_47 : xt zt17 47 48 (.iload_n 3) := ⟨rfl, rfl⟩
theorem t17_48 : xtk zt17 48 49 (0) := Or.inl ⟨0, ⟨rfl, rfl⟩, by decide⟩
theorem t17_49 : xt zt17 49 50 .iastore := ⟨rfl, rfl⟩
theorem t17_50 : xt zt17 50 53 (.iinc 3 1) := ⟨rfl, rfl⟩
theorem t17_53 : xtb zt17 53 56 37 (.goto (-16)) (-16) := ⟨rfl, rfl, rfl⟩
theorem t17_56 : xt zt17 56 57 (.aload_n 0) := ⟨rfl, rfl⟩
theorem t17_57 : xtc zt17 2 57 60 (.invokevirtual 44) 44 1 18 0 := ⟨rfl, rfl, rfl⟩
theorem t17_60 : xt zt17 60 61 .return_ := ⟨rfl, rfl⟩
theorem t18_0 : xt zt18 0 1 (.aload_n 0) := ⟨rfl, rfl⟩
theorem t18_1 : xtk zt18 1 2 (1) := Or.inl ⟨1, ⟨rfl, rfl⟩, by decide⟩
theorem t18_2 : xtf zt18 2 2 5 (.putfield 21) 21 2 3 1 := ⟨rfl, rfl, rfl, rfl⟩
theorem t18_5 : xt zt18 5 6 (.aload_n 0) := ⟨rfl, rfl⟩
theorem t18_6 : xtk zt18 6 7 (0) := Or.inl ⟨0, ⟨rfl, rfl⟩, by decide⟩
theorem t18_7 : xtf zt18 2 7 10 (.putfield 9) 9 2 0 1 := ⟨rfl, rfl, rfl, rfl⟩
theorem t18_10 : xt zt18 10 11 .return_ := ⟨rfl, rfl⟩
theorem t50_0 : xt zt50 0 1 (.iload_n 1) := ⟨rfl, rfl⟩
theorem t50_1 : xtb zt50 1 4 10 (.ifCond .lt 9) (9) := ⟨rfl, rfl, rfl⟩
theorem t50_4 : xt zt50 4 5 (.iload_n 1) := ⟨rfl, rfl⟩
theorem t50_5 : xtk zt50 5 7 (6) := Or.inr (Or.inl ⟨6, ⟨rfl, rfl⟩, by decide⟩)
theorem t50_7 : xtb zt50 7 10 11 (.if_icmp .lt 4) (4) := ⟨rfl, rfl, rfl⟩
theorem t50_10 : xt zt50 10 11 .return_ := ⟨rfl, rfl⟩
theorem t50_11 : xt zt50 11 12 (.iload_n 3) := ⟨rfl, rfl⟩
theorem t50_12 : xtb zt50 12 15 30 (.ifCond .eq 18) (18) := ⟨rfl, rfl, rfl⟩
theorem t50_15 : xt zt50 15 16 (.aload_n 0) := ⟨rfl, rfl⟩
theorem t50_16 : xtf zt50 5 16 19 (.getfield 17) 17 5 1 3 := ⟨rfl, rfl, rfl, rfl⟩
theorem t50_19 : xt zt50 19 20 (.iload_n 1) := ⟨rfl, rfl⟩
theorem t50_20 : xt zt50 20 21 .dup2 := ⟨rfl, rfl⟩
theorem t50_21 : xt zt50 21 22 .laload := ⟨rfl, rfl⟩
theorem t50_22 : xt zt50 22 23 (.lconst 1) := ⟨rfl, rfl⟩
theorem t50_23 : xt zt50 23 24 (.iload_n 2) := ⟨rfl, rfl⟩
theorem t50_24 : xt zt50 24 25 .lshl := ⟨rfl, rfl⟩
theorem t50_25 : xt zt50 25 26 .lor := ⟨rfl, rfl⟩
theorem t50_26 : xt zt50 26 27 .lastore := ⟨rfl, rfl⟩
theorem t50_27 : xtb zt50 27 30 46 (.goto 19) (19) := ⟨rfl, rfl, rfl⟩
theorem t50_30 : xt zt50 30 31 (.aload_n 0) := ⟨rfl, rfl⟩
theorem t50_31 : xtf zt50 5 31 34 (.getfield 17) 17 5 1 3 := ⟨rfl, rfl, rfl, rfl⟩
theorem t50_34 : xt zt50 34 35 (.iload_n 1) := ⟨rfl, rfl⟩
theorem t50_35 : xt zt50 35 36 .dup2 := ⟨rfl, rfl⟩
theorem t50_36 : xt zt50 36 37 .laload := ⟨rfl, rfl⟩
theorem t50_37 : xt zt50 37 38 (.lconst 1) := ⟨rfl, rfl⟩
theorem t50_38 : xt zt50 38 39 (.iload_n 2) := ⟨rfl, rfl⟩
theorem t50_39 : xt zt50 39 40 .lshl := ⟨rfl, rfl⟩
theorem t50_40 : xt zt50 40 43 (.ldc2_w 88) := ⟨rfl, rfl⟩
theorem t50_43 : xt zt50 43 44 .lxor := ⟨rfl, rfl⟩
theorem t50_44 : xt zt50 44 45 .land := ⟨rfl, rfl⟩
theorem t50_45 : xt zt50 45 46 .lastore := ⟨rfl, rfl⟩
theorem t50_46 : xt zt50 46 47 .return_ := ⟨rfl, rfl⟩
theorem t93_0 : xt zt93 0 1 (.aload_n 0) := ⟨rfl, rfl⟩
theorem t93_1 : xtk zt93 1 2 (0) := Or.inl ⟨0, ⟨rfl, rfl⟩, by decide⟩
theorem t93_2 : xtf zt93 9 2 5 (.putfield 19) 19 9 3 1 := ⟨rfl, rfl, rfl, rfl⟩
theorem t93_5 : xt zt93 5 6 .return_ := ⟨rfl, rfl⟩
theorem t10_0 : xt zt10 0 1 (.aload_n 0) := ⟨rfl, rfl⟩
theorem t10_1 : xtk zt10 1 2 (0) := Or.inl ⟨0, ⟨rfl, rfl⟩, by decide⟩
theorem t10_2 : xtf zt10 1 2 5 (.putfield 28) 28 1 5 1 := ⟨rfl, rfl, rfl, rfl⟩
theorem t10_5 : xt zt10 5 6 (.aload_n 0) := ⟨rfl, rfl⟩
theorem t10_6 : xtk zt10 6 7 (-1) := Or.inl ⟨-1, ⟨rfl, rfl⟩, by decide⟩
theorem t10_7 : xtf zt10 1 7 10 (.putfield 32) 32 1 6 1 := ⟨rfl, rfl, rfl, rfl⟩
theorem t10_10 : xt zt10 10 11 .return_ := ⟨rfl, rfl⟩
theorem xgu_same {G : xG} {a k x : Nat} : (xgu G a k x).1 a k = some x := if_pos ⟨rfl, rfl⟩
theorem ct_board {nf : Bool} {xs : List Int32} {d : Nat} {m : xM} {g : xL} {G : xG} {p : Nat} : CT nf xs d 18 [.ref p] m g G (PE none (xu (xu m p 3 1) p 0 0) g) := by
  refine CT.of (c := 2) (ini := false) (nL := 1) (rt := none) (tab := zt18) rfl (fun d' r h' N hd hr => ?_)
  replace hr : RR nf xs d' 2 false 1 (none) zt18 G r h' N (0, [(0, .ref p)], [], m, g) := hr
  have k1 : (1 : Int32).toInt = 1 := rfl
  replace hr := hr.go (s_aload_n t18_0 rfl)
  replace hr := hr.go (s_k t18_1)
  replace hr := hr.go (s_putf t18_2)
  replace hr := hr.go (s_aload_n t18_5 rfl)
  replace hr := hr.go (s_k t18_6)
  replace hr := hr.go (s_putf t18_7)
  obtain ⟨rfl, hs⟩ := hr.ret t18_10
  exact ⟨_, _, hs, rfl, rfl, rfl⟩

theorem ct_uclear {nf : Bool} {xs : List Int32} {d : Nat} {m : xM} {g : xL} {G : xG} {p : Nat} : CT nf xs d 93 [.ref p] m g G (PE none (xu m p 3 0) g) := by
  refine CT.of (c := 9) (ini := false) (nL := 1) (rt := none) (tab := zt93) rfl (fun d' r h' N hd hr => ?_)
  replace hr : RR nf xs d' 9 false 1 (none) zt93 G r h' N (0, [(0, .ref p)], [], m, g) := hr
  replace hr := hr.go (s_aload_n t93_0 rfl)
  replace hr := hr.go (s_k t93_1)
  replace hr := hr.go (s_putf t93_2)
  obtain ⟨rfl, hs⟩ := hr.ret t93_5
  exact ⟨_, _, hs, rfl, rfl, rfl⟩

theorem ct_nclear {nf : Bool} {xs : List Int32} {d : Nat} {m : xM} {g : xL} {G : xG} {p : Nat} : CT nf xs d 10 [.ref p] m g G (PE none (xu (xu m p 5 0) p 6 (-1)) g) := by
  refine CT.of (c := 1) (ini := false) (nL := 1) (rt := none) (tab := zt10) rfl (fun d' r h' N hd hr => ?_)
  replace hr : RR nf xs d' 1 false 1 (none) zt10 G r h' N (0, [(0, .ref p)], [], m, g) := hr
  have km1 : (-1 : Int32).toInt = -1 := rfl
  replace hr := hr.go (s_aload_n t10_0 rfl)
  replace hr := hr.go (s_k t10_1)
  replace hr := hr.go (s_putf t10_2)
  replace hr := hr.go (s_aload_n t10_5 rfl)
  replace hr := hr.go (s_k t10_6)
  replace hr := hr.go (s_putf t10_7)
  obtain ⟨rfl, hs⟩ := hr.ret t10_10
  exact ⟨_, _, hs, rfl, rfl, rfl⟩

theorem lp17 {nf : Bool} {xs : List Int32} {d : Nat} {g : xL} {G : xG} {r : Option Value} {h' : zH} {p : Nat} {x y : Int32} {m0 : xM} (h9 : G.1 p 9 = some (p + 1)) : ∀ (N : Nat) (k : Int32) (m : xM), (∀ a : Nat, ¬ a = p → ¬ a = p + 1 → m a = m0 a) → RR nf xs d 2 false 4 none zt17 G r h' N (37, [(3, .int k), (0, .ref p), (1, .int x), (2, .int y)], [], m, g) → ∃ (m' : xM) (g' : xL), HS h' m' g' G ∧ PF none g (fun m' => ∀ a : Nat, ¬ a = p → ¬ a = p + 1 → m' a = m0 a) r m' g' := by
  intro N
  induction N with
  | zero => intro k m _ hr; exact hr.no.elim
  | succ N ih =>
    intro k m hm hr
    replace hr := hr.go1 (s_iload_n t17_37 rfl)
    replace hr := hr.go (s_k t17_38)
    rcases hr.bGe t17_40 with ⟨b40, hr⟩ | ⟨b40, hr⟩
    · replace hr := hr.go (s_aload_n t17_56 rfl)
      replace hr := hr.cvN t17_57 rfl rfl (ct_board)
      obtain ⟨rfl, hs⟩ := hr.ret t17_60
      exact ⟨_, _, hs, rfl, rfl, fun a a1 a2 => by rw [xu_row a1, xu_row a1]; exact hm a a1 a2⟩
    · replace hr := hr.go (s_aload_n t17_43 rfl)
      replace hr := hr.go (s_getr t17_44 (h9))
      replace hr := hr.go (s_iload_n t17_47 rfl)
      replace hr := hr.go (s_k t17_48)
      replace hr := hr.go (s_iastore t17_49)
      replace hr := hr.go (s_iinc (ls' := [(3, _), (0, _), (1, _), (2, _)]) t17_50 rfl rfl)
      replace hr := hr.go (s_goto t17_53)
      exact ih _ _ (fun a a1 a2 => by rw [xu_row a2]; exact hm a a1 a2) hr
theorem ct_pbegin {nf : Bool} {xs : List Int32} {d : Nat} {m : xM} {g : xL} {G : xG} {p : Nat} {x y : Int32} (h9 : G.1 p 9 = some (p + 1)) : CT nf xs d 17 [.ref p, .int x, .int y] m g G (PF none g (fun m' => ∀ a : Nat, ¬ a = p → ¬ a = p + 1 → m' a = m a)) := by
  refine CT.of (c := 2) (ini := false) (nL := 4) (rt := none) (tab := zt17) rfl (fun d' r h' N hd' hr => ?_)
  replace hr : RR nf xs d' 2 false 4 none zt17 G r h' N (0, [(0, .ref p), (1, .int x), (2, .int y)], [], m, g) := hr
  replace hr := hr.go (s_aload_n t17_0 rfl)
  replace hr := hr.go (s_iload_n t17_1 rfl)
  replace hr := hr.go (s_putf t17_2)
  replace hr := hr.go (s_aload_n t17_5 rfl)
  replace hr := hr.go (s_iload_n t17_6 rfl)
  replace hr := hr.go (s_putf t17_7)
  replace hr := hr.go (s_aload_n t17_10 rfl)
  replace hr := hr.go (s_k t17_11)
  replace hr := hr.go (s_putf t17_12)
  replace hr := hr.go (s_aload_n t17_15 rfl)
  replace hr := hr.go (s_k t17_16)
  replace hr := hr.go (s_putf t17_17)
  replace hr := hr.go (s_aload_n t17_20 rfl)
  replace hr := hr.go (s_k t17_21)
  replace hr := hr.go (s_putf t17_22)
  replace hr := hr.go (s_aload_n t17_25 rfl)
  replace hr := hr.go (s_k t17_26)
  replace hr := hr.go (s_putf t17_27)
  replace hr := hr.go (s_aload_n t17_30 rfl)
  replace hr := hr.go (s_k t17_31)
  replace hr := hr.go (s_putf t17_32)
  replace hr := hr.go (s_k t17_35)
  replace hr := hr.go (s_istore_n (ls' := [(3, _), (0, _), (1, _), (2, _)]) t17_36 rfl)
  exact lp17 h9 _ _ _ (fun a a1 a2 => by repeat rw [xu_row a1]) hr
theorem ct_setTold {nf : Bool} {xs : List Int32} {d : Nat} {m : xM} {g : xL} {G : xG} {x y z : Int32} (h1 : G.1 55 1 = some 57) : CT nf xs d 50 [.ref 55, .int x, .int y, .int z] m g G (fun r m' _ => r = none ∧ m' = m) := by
  refine CT.of (c := 5) (ini := false) (nL := 4) (rt := none) (tab := zt50) rfl (fun d' r h' N hd' hr => ?_)
  replace hr : RR nf xs d' 5 false 4 none zt50 G r h' N (0, [(0, .ref 55), (1, .int x), (2, .int y), (3, .int z)], [], m, g) := hr
  replace hr := hr.go (s_iload_n t50_0 rfl)
  rcases hr.zLt t50_1 with ⟨b1, hr⟩ | ⟨b1, hr⟩
  · obtain ⟨rfl, hs⟩ := hr.ret t50_10
    exact ⟨_, _, hs, rfl, rfl⟩
  · replace hr := hr.go (s_iload_n t50_4 rfl)
    replace hr := hr.go (s_k t50_5)
    rcases hr.bLt t50_7 with ⟨b7, hr⟩ | ⟨b7, hr⟩
    · replace hr := hr.go (s_iload_n t50_11 rfl)
      rcases hr.zEq t50_12 with ⟨b12, hr⟩ | ⟨b12, hr⟩
      · replace hr := hr.go (s_aload_n t50_30 rfl)
        replace hr := hr.go (s_getr t50_31 (h1))
        replace hr := hr.go (s_iload_n t50_34 rfl)
        replace hr := hr.go (s_dup2 t50_35)
        replace hr := hr.go (s_laload t50_36)
        replace hr := hr.go (s_lconst t50_37)
        replace hr := hr.go (s_iload_n t50_38 rfl)
        replace hr := hr.go (s_lshl t50_39)
        replace hr := hr.go (s_ldc2 t50_40 rfl)
        replace hr := hr.go (s_lxor t50_43)
        replace hr := hr.go (s_land t50_44)
        replace hr := hr.go (s_lastore t50_45)
        obtain ⟨rfl, hs⟩ := hr.ret t50_46
        exact ⟨_, _, hs, rfl, rfl⟩
      · replace hr := hr.go (s_aload_n t50_15 rfl)
        replace hr := hr.go (s_getr t50_16 (h1))
        replace hr := hr.go (s_iload_n t50_19 rfl)
        replace hr := hr.go (s_dup2 t50_20)
        replace hr := hr.go (s_laload t50_21)
        replace hr := hr.go (s_lconst t50_22)
        replace hr := hr.go (s_iload_n t50_23 rfl)
        replace hr := hr.go (s_lshl t50_24)
        replace hr := hr.go (s_lor t50_25)
        replace hr := hr.go (s_lastore t50_26)
        replace hr := hr.go (s_goto t50_27)
        obtain ⟨rfl, hs⟩ := hr.ret t50_46
        exact ⟨_, _, hs, rfl, rfl⟩
    · obtain ⟨rfl, hs⟩ := hr.ret t50_10
      exact ⟨_, _, hs, rfl, rfl⟩
/-- the cells of the ride that is now, behind its plan at P -/
def GR (G : xG) (P : Nat) : Prop := G.1 55 0 = some 56 ∧ G.1 55 1 = some 57 ∧ (∀ k : Nat, k < 6 → G.1 56 k = some (58 + 2 * k) ∧ G.1 (58 + 2 * k) 9 = some (58 + 2 * k + 1)) ∧ G.1 P 1 = some (P + 3) ∧ G.1 P 3 = some (P + 7) ∧ G.1 (P + 3) 2 = some (P + 4) ∧ G.1 (P + 7) 2 = some (P + 8) ∧ (∃ L : Nat, G.2 (P + 4) = (0, 1, L)) ∧ (∃ L : Nat, G.2 (P + 8) = (0, 1, L)) ∧ P ≤ 31
def MR (P R : Nat) (m : xM) : Prop := m (P + 3) 0 = Int32.ofNat 5 ∧ m (P + 3) 1 = Int32.ofNat 6 ∧ m (P + 7) 0 = Int32.ofNat 2 ∧ m (P + 7) 1 = Int32.ofNat 8 ∧ m (P + 7) 3 = Int32.ofNat R ∧ R ≤ 8
theorem MR.of {P R : Nat} {m m0 : xM} (hP : P ≤ 31) (h : MR P R m0) (hm : ∀ a : Nat, a < 55 → m a = m0 a) : MR P R m := by
  unfold MR
  rw [hm (P + 3) (by omega), hm (P + 7) (by omega)]
  exact h
theorem lp47c {nf : Bool} {xs : List Int32} {d : Nat} {G : xG} {r : Option Value} {h' : zH} {P R : Nat} {m0 : xM} (hG : GR G P) (h2 : G.1 55 2 = some P) (hM : MR P R m0) : ∀ (N k : Nat) (m : xM) (g : xL), (∀ a : Nat, a < 56 → m a = m0 a) → k ≤ R → RR nf xs d 5 false 3 none zt47 G r h' N (134, [(2, .int (Int32.ofNat k)), (0, .ref 55), (1, .ref P)], [], m, g) → ∃ (m' : xM) (g' : xL), HS h' m' g' G ∧ r = none ∧ ∀ a : Nat, a < 56 → m' a = m0 a := by
  intro N
  induction N with
  | zero => intro k m g _ _ hr; exact hr.no.elim
  | succ N ih =>
    intro k m g hm hk hr
    obtain ⟨v1, v2, v3, v4, v5, v6⟩ := MR.of hG.2.2.2.2.2.2.2.2.2 hM (fun a ha => hm a (by omega))
    obtain ⟨len8, hlen8⟩ := hG.2.2.2.2.2.2.2.2.1
    have qk : (Int32.ofNat k).toInt = (k : Int) := xn_int (by omega)
    have qR : (Int32.ofNat R).toInt = (R : Int) := xn_int (by omega)
    replace hr := hr.go1 (s_iload_n t47_134 rfl)
    replace hr := hr.go (s_aload_n t47_135 rfl)
    replace hr := hr.go (s_getr t47_136 (h2))
    replace hr := hr.go (s_getr t47_139 (hG.2.2.2.2.1))
    replace hr := hr.go (s_getf t47_142)
    rw [v5] at hr
    rcases hr.bGe t47_145 with ⟨b145, hr⟩ | ⟨b145, hr⟩
    · obtain ⟨rfl, hs⟩ := hr.ret t47_183
      exact ⟨_, _, hs, rfl, hm⟩
    · replace hr := hr.go (s_aload_n t47_148 rfl)
      replace hr := hr.go (s_aload_n t47_149 rfl)
      replace hr := hr.go (s_getr t47_150 (h2))
      replace hr := hr.go (s_getr t47_153 (hG.2.2.2.2.1))
      replace hr := hr.go (s_iload_n t47_156 rfl)
      replace hr := hr.go (s_k t47_157)
      replace hr := hr.cvI t47_158 rfl rfl (ct_at (t := P + 7) (c := P + 8) (cols := 2) (most := 8) (ro := k) (k := 0) hG.2.2.2.2.2.2.1 hlen8 v3 v4 (by decide) (by decide) (by omega) (by decide))
      replace hr := hr.go (s_aload_n t47_161 rfl)
      replace hr := hr.go (s_getr t47_162 (h2))
      replace hr := hr.go (s_getr t47_165 (hG.2.2.2.2.1))
      replace hr := hr.go (s_iload_n t47_168 rfl)
      replace hr := hr.go (s_k t47_169)
      replace hr := hr.cvI t47_170 rfl rfl (ct_at (t := P + 7) (c := P + 8) (cols := 2) (most := 8) (ro := k) (k := 1) hG.2.2.2.2.2.2.1 hlen8 v3 v4 (by decide) (by decide) (by omega) (by decide))
      replace hr := hr.go (s_k t47_173)
      obtain ⟨_, m1, g1, ⟨rfl, e1⟩, hr⟩ := hr.callv t47_174 rfl rfl (ct_setTold hG.2.1)
      rw [e1] at hr
      replace hr : RR nf xs d 5 false 3 none zt47 G r h' N (177, [(2, .int (Int32.ofNat k)), (0, .ref 55), (1, .ref P)], [], m, g1) := hr
      replace hr := hr.go (s_iinc (ls' := [(2, _), (0, _), (1, _)]) t47_177 rfl rfl)
      rw [xn_1i] at hr
      replace hr := hr.go (s_goto t47_180)
      exact ih (k + 1) _ _ hm (by omega) hr
theorem lp47b {nf : Bool} {xs : List Int32} {d : Nat} {G : xG} {r : Option Value} {h' : zH} {P R : Nat} {m0 : xM} (hG : GR G P) (h2 : G.1 55 2 = some P) (hM : MR P R m0) : ∀ (N : Nat) (k : Int32) (m : xM) (g : xL), (∀ a : Nat, a < 56 → m a = m0 a) → RR nf xs d 5 false 3 none zt47 G r h' N (113, [(2, .int k), (0, .ref 55), (1, .ref P)], [], m, g) → ∃ (m' : xM) (g' : xL), HS h' m' g' G ∧ r = none ∧ ∀ a : Nat, a < 56 → m' a = m0 a := by
  intro N
  induction N with
  | zero => intro k m g _ hr; exact hr.no.elim
  | succ N ih =>
    intro k m g hm hr
    replace hr := hr.go1 (s_iload_n t47_113 rfl)
    replace hr := hr.go (s_k t47_114)
    rcases hr.bGe t47_116 with ⟨b116, hr⟩ | ⟨b116, hr⟩
    · replace hr := hr.go (s_k t47_132)
      replace hr := hr.go (s_istore_n (ls' := [(2, _), (0, _), (1, _)]) t47_133 rfl)
      exact lp47c hG h2 hM N 0 m g hm (Nat.zero_le _) hr
    · replace hr := hr.go (s_aload_n t47_119 rfl)
      replace hr := hr.go (s_getr t47_120 (hG.2.1))
      replace hr := hr.go (s_iload_n t47_123 rfl)
      replace hr := hr.go (s_lconst t47_124)
      replace hr := hr.go (s_lastore t47_125)
      replace hr := hr.go (s_iinc (ls' := [(2, _), (0, _), (1, _)]) t47_126 rfl rfl)
      replace hr := hr.go (s_goto t47_129)
      exact ih _ _ _ hm hr
theorem lp47a {nf : Bool} {xs : List Int32} {d : Nat} {G : xG} {r : Option Value} {h' : zH} {P R : Nat} {m0 : xM} (hG : GR G P) (h2 : G.1 55 2 = some P) (hM : MR P R m0) : ∀ (N k : Nat) (m : xM) (g : xL), (∀ a : Nat, a < 56 → m a = m0 a) → k ≤ 6 → RR nf xs d 5 false 3 none zt47 G r h' N (66, [(2, .int (Int32.ofNat k)), (0, .ref 55), (1, .ref P)], [], m, g) → ∃ (m' : xM) (g' : xL), HS h' m' g' G ∧ r = none ∧ ∀ a : Nat, a < 56 → m' a = m0 a := by
  intro N
  induction N with
  | zero => intro k m g _ _ hr; exact hr.no.elim
  | succ N ih =>
    intro k m g hm hk hr
    obtain ⟨v1, v2, v3, v4, v5, v6⟩ := MR.of hG.2.2.2.2.2.2.2.2.2 hM (fun a ha => hm a (by omega))
    obtain ⟨len4, hlen4⟩ := hG.2.2.2.2.2.2.2.1
    have qk : (Int32.ofNat k).toInt = (k : Int) := xn_int (by omega)
    have k6 : (6 : Int32).toInt = 6 := rfl
    replace hr := hr.go1 (s_iload_n t47_66 rfl)
    replace hr := hr.go (s_k t47_67)
    rcases hr.bGe t47_69 with ⟨b69, hr⟩ | ⟨b69, hr⟩
    · replace hr := hr.go (s_k t47_111)
      replace hr := hr.go (s_istore_n (ls' := [(2, _), (0, _), (1, _)]) t47_112 rfl)
      exact lp47b hG h2 hM N _ m g hm hr
    · replace hr := hr.go (s_aload_n t47_72 rfl)
      replace hr := hr.go (s_getr t47_73 (hG.1))
      replace hr := hr.go (s_iload_n t47_76 rfl)
      replace hr := hr.go (s_aaload t47_77 (by rw [xn_nat (by omega)]; exact (hG.2.2.1 k (by omega)).1))
      replace hr := hr.go (s_aload_n t47_78 rfl)
      replace hr := hr.go (s_getr t47_79 (h2))
      replace hr := hr.go (s_getr t47_82 (hG.2.2.2.1))
      replace hr := hr.go (s_iload_n t47_85 rfl)
      replace hr := hr.go (s_k t47_86)
      replace hr := hr.cvI t47_87 rfl rfl (ct_at (t := P + 3) (c := P + 4) (cols := 5) (most := 6) (ro := k) (k := 2) hG.2.2.2.2.2.1 hlen4 v1 v2 (by decide) (by decide) (by omega) (by decide))
      replace hr := hr.go (s_aload_n t47_90 rfl)
      replace hr := hr.go (s_getr t47_91 (h2))
      replace hr := hr.go (s_getr t47_94 (hG.2.2.2.1))
      replace hr := hr.go (s_iload_n t47_97 rfl)
      replace hr := hr.go (s_k t47_98)
      replace hr := hr.cvI t47_99 rfl rfl (ct_at (t := P + 3) (c := P + 4) (cols := 5) (most := 6) (ro := k) (k := 3) hG.2.2.2.2.2.1 hlen4 v1 v2 (by decide) (by decide) (by omega) (by decide))
      obtain ⟨m1, q1, hr⟩ := hr.fvN t47_102 rfl rfl (ct_pbegin (p := 58 + 2 * k) (hG.2.2.1 k (by omega)).2)
      skip
      replace hr := hr.go (s_iinc (ls' := [(2, _), (0, _), (1, _)]) t47_105 rfl rfl)
      rw [xn_1i] at hr
      replace hr := hr.go (s_goto t47_108)
      exact ih (k + 1) m1 _ (fun a ha => by rw [q1 a (by omega) (by omega)]; exact hm a ha) (by omega) hr
theorem cg_rbegin {nf : Bool} {xs : List Int32} {d : Nat} {m : xM} {g : xL} {G : xG} {P R : Nat} (hG : GR (xgu G 55 2 P) P) (hM : MR P R m) : CG nf xs d 47 [.ref 55, .ref P] m g G (fun r m' _ G' => r = none ∧ G' = xgu G 55 2 P ∧ (∀ a : Nat, a < 55 → m' a = m a) ∧ m' 55 3 = (if m (P + 3) 3 < 6 then m (P + 3) 3 else 6) ∧ m' 55 4 = 0 ∧ m' 55 5 = 0) := by
  refine CG.of (c := 5) (ini := false) (nL := 3) (rt := none) (tab := zt47) rfl (fun d' r h' N hd hr => ?_)
  replace hr : RR nf xs d' 5 false 3 none zt47 G r h' N (0, [(0, .ref 55), (1, .ref P)], [], m, g) := hr
  replace hr := hr.go (s_aload_n t47_0 rfl)
  replace hr := hr.go (s_aload_n t47_1 rfl)
  replace hr := hr.putr t47_2
  replace hr := hr.go (s_aload_n t47_5 rfl)
  replace hr := hr.go (s_k t47_6)
  replace hr := hr.go (s_aload_n t47_8 rfl)
  replace hr := hr.go (s_getr t47_9 (xgu_same))
  replace hr := hr.go (s_getr t47_12 (hG.2.2.2.1))
  replace hr := hr.go (s_getf t47_15)
  replace hr := hr.go (s_math6 t47_18)
  replace hr := hr.go (s_putf t47_21)
  replace hr := hr.go (s_aload_n t47_24 rfl)
  replace hr := hr.go (s_k t47_25)
  replace hr := hr.go (s_putf t47_26)
  replace hr := hr.go (s_aload_n t47_29 rfl)
  replace hr := hr.go (s_k t47_30)
  replace hr := hr.go (s_putf t47_31)
  replace hr := hr.go (s_aload_n t47_34 rfl)
  replace hr := hr.go (s_k t47_35)
  replace hr := hr.go (s_putf t47_36)
  replace hr := hr.go (s_aload_n t47_39 rfl)
  replace hr := hr.go (s_k t47_40)
  replace hr := hr.go (s_putf t47_41)
  replace hr := hr.go (s_aload_n t47_44 rfl)
  replace hr := hr.go (s_k t47_45)
  replace hr := hr.go (s_putf t47_46)
  replace hr := hr.go (s_aload_n t47_49 rfl)
  replace hr := hr.go (s_k t47_50)
  replace hr := hr.go (s_putf t47_51)
  replace hr := hr.go (s_aload_n t47_54 rfl)
  replace hr := hr.go (s_k t47_55)
  replace hr := hr.go (s_putf t47_56)
  replace hr := hr.go (s_aload_n t47_59 rfl)
  replace hr := hr.go (s_k t47_60)
  replace hr := hr.go (s_putf t47_61)
  replace hr := hr.go (s_k t47_64)
  replace hr := hr.go (s_istore_n (ls' := [(2, _), (0, _), (1, _)]) t47_65 rfl)
  obtain ⟨m', g', hs, h1, h2⟩ := lp47a (m0 := _) hG xgu_same (MR.of hG.2.2.2.2.2.2.2.2.2 hM (fun a ha => by repeat rw [xu_row (by omega)])) N 0 _ g (fun a ha => rfl) (by decide) hr
  refine ⟨m', g', _, hs, h1, rfl, fun a ha => ?_, ?_, ?_, ?_⟩
  · rw [h2 a (by omega)]
    repeat rw [xu_row (by omega)]
  · rw [h2 55 (by decide)]
    repeat (first | rw [xu_same] | rw [xu_oth (by decide)])
  · rw [h2 55 (by decide)]
    repeat (first | rw [xu_same] | rw [xu_oth (by decide)])
  · rw [h2 55 (by decide)]
    repeat (first | rw [xu_same] | rw [xu_oth (by decide)])
end
section
/-! The class: a ride begun, exactly. -/
theorem lp17x {nf : Bool} {xs : List Int32} {d : Nat} {g : xL} {G : xG} {r : Option Value} {h' : zH} {p : Nat} {x y : Int32} {m0 : xM} (h9 : G.1 p 9 = some (p + 1)) : ∀ (N : Nat) (k : Int32) (m : xM), (∀ a : Nat, ¬ a = p + 1 → m a = m0 a) → RR nf xs d 2 false 4 none zt17 G r h' N (37, [(3, .int k), (0, .ref p), (1, .int x), (2, .int y)], [], m, g) → ∃ (m' : xM) (g' : xL), HS h' m' g' G ∧ PF none g (fun m' => (∀ a : Nat, ¬ a = p → ¬ a = p + 1 → m' a = m0 a) ∧ ∀ j : Nat, ¬ j = 0 → ¬ j = 3 → m' p j = m0 p j) r m' g' := by
  intro N
  induction N with
  | zero => intro k m _ hr; exact hr.no.elim
  | succ N ih =>
    intro k m hm hr
    replace hr := hr.go1 (s_iload_n t17_37 rfl)
    replace hr := hr.go (s_k t17_38)
    rcases hr.bGe t17_40 with ⟨b40, hr⟩ | ⟨b40, hr⟩
    · replace hr := hr.go (s_aload_n t17_56 rfl)
      replace hr := hr.cvN t17_57 rfl rfl (ct_board)
      obtain ⟨rfl, hs⟩ := hr.ret t17_60
      exact ⟨_, _, hs, rfl, rfl, fun a a1 a2 => by rw [xu_row a1, xu_row a1]; exact hm a a2, fun j j0 j3 => by rw [xu_oth (by omega), xu_oth (by omega), hm p (by omega)]⟩
    · replace hr := hr.go (s_aload_n t17_43 rfl)
      replace hr := hr.go (s_getr t17_44 (h9))
      replace hr := hr.go (s_iload_n t17_47 rfl)
      replace hr := hr.go (s_k t17_48)
      replace hr := hr.go (s_iastore t17_49)
      replace hr := hr.go (s_iinc (ls' := [(3, _), (0, _), (1, _), (2, _)]) t17_50 rfl rfl)
      replace hr := hr.go (s_goto t17_53)
      exact ih _ _ (fun a a2 => by rw [xu_row a2]; exact hm a a2) hr
theorem ct_pbeginX {nf : Bool} {xs : List Int32} {d : Nat} {m : xM} {g : xL} {G : xG} {p : Nat} {x y : Int32} (h9 : G.1 p 9 = some (p + 1)) : CT nf xs d 17 [.ref p, .int x, .int y] m g G (PF none g (fun m' => (∀ a : Nat, ¬ a = p → ¬ a = p + 1 → m' a = m a) ∧ m' p 2 = y ∧ m' p 4 = 0)) := by
  refine CT.of (c := 2) (ini := false) (nL := 4) (rt := none) (tab := zt17) rfl (fun d' r h' N hd' hr => ?_)
  replace hr : RR nf xs d' 2 false 4 none zt17 G r h' N (0, [(0, .ref p), (1, .int x), (2, .int y)], [], m, g) := hr
  replace hr := hr.go (s_aload_n t17_0 rfl)
  replace hr := hr.go (s_iload_n t17_1 rfl)
  replace hr := hr.go (s_putf t17_2)
  replace hr := hr.go (s_aload_n t17_5 rfl)
  replace hr := hr.go (s_iload_n t17_6 rfl)
  replace hr := hr.go (s_putf t17_7)
  replace hr := hr.go (s_aload_n t17_10 rfl)
  replace hr := hr.go (s_k t17_11)
  replace hr := hr.go (s_putf t17_12)
  replace hr := hr.go (s_aload_n t17_15 rfl)
  replace hr := hr.go (s_k t17_16)
  replace hr := hr.go (s_putf t17_17)
  replace hr := hr.go (s_aload_n t17_20 rfl)
  replace hr := hr.go (s_k t17_21)
  replace hr := hr.go (s_putf t17_22)
  replace hr := hr.go (s_aload_n t17_25 rfl)
  replace hr := hr.go (s_k t17_26)
  replace hr := hr.go (s_putf t17_27)
  replace hr := hr.go (s_aload_n t17_30 rfl)
  replace hr := hr.go (s_k t17_31)
  replace hr := hr.go (s_putf t17_32)
  replace hr := hr.go (s_k t17_35)
  replace hr := hr.go (s_istore_n (ls' := [(3, _), (0, _), (1, _), (2, _)]) t17_36 rfl)
  obtain ⟨m', g', hs, e1, e2, e3, e4⟩ := lp17x h9 _ _ _ (fun a _ => rfl) hr
  refine ⟨m', g', hs, e1, e2, fun a a1 a2 => ?_, ?_, ?_⟩
  · rw [e3 a a1 a2]
    repeat rw [xu_row a1]
  · rw [e4 2 (by decide) (by decide)]
    repeat (first | exact xu_same | rw [xu_oth (by omega)])
  · rw [e4 4 (by decide) (by decide)]
    repeat (first | exact xu_same | rw [xu_oth (by omega)])
theorem ct_setToldX {nf : Bool} {xs : List Int32} {d : Nat} {m : xM} {g : xL} {G : xG} {x y z : Int32} (h1 : G.1 55 1 = some 57) : CT nf xs d 50 [.ref 55, .int x, .int y, .int z] m g G (fun r m' g' => r = none ∧ m' = m ∧ (∀ c : Nat, ¬ c = 57 → g' c = g c) ∧ ∀ j : Nat, j < 6 → g' 57 j = if x = Int32.ofNat j then stB z y (g 57 j) else g 57 j) := by
  refine CT.of (c := 5) (ini := false) (nL := 4) (rt := none) (tab := zt50) rfl (fun d' r h' N hd' hr => ?_)
  replace hr : RR nf xs d' 5 false 4 none zt50 G r h' N (0, [(0, .ref 55), (1, .int x), (2, .int y), (3, .int z)], [], m, g) := hr
  have k6 : (6 : Int32).toInt = 6 := rfl
  have nm : x.toInt < 0 ∨ 6 ≤ x.toInt → ∀ j : Nat, j < 6 → g 57 j = if x = Int32.ofNat j then stB z y (g 57 j) else g 57 j := fun q j hj => by
    rw [if_neg (fun e => by
      have qj : (Int32.ofNat j).toInt = (j : Int) := xn_int (by omega)
      rw [e] at q
      omega)]
  have mt : ∀ w : Int64 → Int64, 0 ≤ x.toInt → x.toInt < 6 → ∀ j : Nat, j < 6 → xu g 57 x.toNatClampNeg (w (g 57 x.toNatClampNeg)) 57 j = if x = Int32.ofNat j then w (g 57 j) else g 57 j := fun w x0 x6 j hj => by
    obtain ⟨i, hi⟩ : ∃ i : Nat, i = x.toNatClampNeg := ⟨_, rfl⟩
    have ex : x = Int32.ofNat i := by rw [hi]; exact xn_of x0
    rw [← hi]
    by_cases e : j = i
    · subst e
      rw [if_pos ex, xu_same]
    · rw [if_neg (fun z => e (by
        have hi6 : i < 6 := by rw [hi, Int32.toNatClampNeg]; omega
        exact (xn_inj (by omega) (by omega) (ex.symm.trans z)).symm)), xu_oth (by omega)]
  replace hr := hr.go (s_iload_n t50_0 rfl)
  rcases hr.zLt t50_1 with ⟨b1, hr⟩ | ⟨b1, hr⟩
  · obtain ⟨rfl, hs⟩ := hr.ret t50_10
    exact ⟨_, _, hs, rfl, rfl, fun c _ => rfl, nm (Or.inl b1)⟩
  · replace hr := hr.go (s_iload_n t50_4 rfl)
    replace hr := hr.go (s_k t50_5)
    rcases hr.bLt t50_7 with ⟨b7, hr⟩ | ⟨b7, hr⟩
    · replace hr := hr.go (s_iload_n t50_11 rfl)
      rcases hr.zEq t50_12 with ⟨b12, hr⟩ | ⟨b12, hr⟩
      · replace hr := hr.go (s_aload_n t50_30 rfl)
        replace hr := hr.go (s_getr t50_31 (h1))
        replace hr := hr.go (s_iload_n t50_34 rfl)
        replace hr := hr.go (s_dup2 t50_35)
        replace hr := hr.go (s_laload t50_36)
        replace hr := hr.go (s_lconst t50_37)
        replace hr := hr.go (s_iload_n t50_38 rfl)
        replace hr := hr.go (s_lshl t50_39)
        replace hr := hr.go (s_ldc2 t50_40 rfl)
        replace hr := hr.go (s_lxor t50_43)
        replace hr := hr.go (s_land t50_44)
        replace hr := hr.go (s_lastore t50_45)
        obtain ⟨rfl, hs⟩ := hr.ret t50_46
        exact ⟨_, _, hs, rfl, rfl, fun c hc => xu_row hc, fun j hj => by rw [show stB z y (g 57 j) = (fun w => w &&& (((1 : Int64) <<< (y.toInt64 &&& 63)) ^^^ -1)) (g 57 j) from if_pos b12]; exact mt (fun w => w &&& (((1 : Int64) <<< (y.toInt64 &&& 63)) ^^^ -1)) b1 (by omega) j hj⟩
      · replace hr := hr.go (s_aload_n t50_15 rfl)
        replace hr := hr.go (s_getr t50_16 (h1))
        replace hr := hr.go (s_iload_n t50_19 rfl)
        replace hr := hr.go (s_dup2 t50_20)
        replace hr := hr.go (s_laload t50_21)
        replace hr := hr.go (s_lconst t50_22)
        replace hr := hr.go (s_iload_n t50_23 rfl)
        replace hr := hr.go (s_lshl t50_24)
        replace hr := hr.go (s_lor t50_25)
        replace hr := hr.go (s_lastore t50_26)
        replace hr := hr.go (s_goto t50_27)
        obtain ⟨rfl, hs⟩ := hr.ret t50_46
        exact ⟨_, _, hs, rfl, rfl, fun c hc => xu_row hc, fun j hj => by rw [show stB z y (g 57 j) = (fun w => w ||| ((1 : Int64) <<< (y.toInt64 &&& 63))) (g 57 j) from if_neg b12]; exact mt (fun w => w ||| ((1 : Int64) <<< (y.toInt64 &&& 63))) b1 (by omega) j hj⟩
    · obtain ⟨rfl, hs⟩ := hr.ret t50_10
      exact ⟨_, _, hs, rfl, rfl, fun c _ => rfl, nm (Or.inr (by omega))⟩
/-- what a row of tellings makes of a joke's bits -/
def tlO1 (j : Nat) (w : Int64) (r : List Int32) : Int64 := if r.getD 0 0 = Int32.ofNat j then stB 1 (r.getD 1 0) w else w
def tlF (rows : List (List Int32)) (j : Nat) (w : Int64) : Int64 := rows.foldl (tlO1 j) w
theorem tlF_drop {rows : List (List Int32)} {k j : Nat} {w : Int64} (hk : k < rows.length) : tlF (rows.drop k) j w = tlF (rows.drop (k + 1)) j (tlO1 j w (rows.getD k [])) := by
  unfold tlF
  rw [List.drop_eq_getElem_cons hk, List.foldl_cons, List.getD_eq_getElem?_getD, List.getElem?_eq_getElem hk]
  rfl
theorem tlF_bits {j : Nat} {v : Nat} (hv : v < 64) : ∀ (rows : List (List Int32)) (w : Int64), (∀ r : List Int32, r ∈ rows → 0 ≤ (r.getD 1 0).toInt ∧ (r.getD 1 0).toInt < 64) → bl (tlF rows j w) v = (bl w v || tld rows (Int32.ofNat j) (Int32.ofNat v))
  | [], w, _ => by
    show bl w v = (bl w v || false)
    rw [Bool.or_false]
  | r :: rs, w, h => by
    show bl (tlF rs j (tlO1 j w r)) v = (bl w v || ((decide (r.getD 0 0 = Int32.ofNat j) && decide (r.getD 1 0 = Int32.ofNat v)) || tld rs (Int32.ofNat j) (Int32.ofNat v)))
    rw [tlF_bits hv rs _ (fun q hq => h q (List.mem_cons_of_mem _ hq)), ← Bool.or_assoc]
    congr 1
    obtain ⟨h1, h2⟩ := h r List.mem_cons_self
    unfold tlO1
    by_cases e : r.getD 0 0 = Int32.ofNat j
    · rw [if_pos e, decide_eq_true e, Bool.true_and]
      obtain ⟨u, hu⟩ : ∃ u : Nat, u = (r.getD 1 0).toNatClampNeg := ⟨_, rfl⟩
      have eu : r.getD 1 0 = Int32.ofNat u := by rw [hu]; exact xn_of h1
      have u64 : u < 64 := by rw [hu, Int32.toNatClampNeg]; omega
      rw [eu]
      unfold stB
      rw [if_neg (by decide), bl_set u64 hv]
      congr 1
      by_cases f : u = v
      · rw [f, decide_eq_true rfl, decide_eq_true rfl]
      · rw [decide_eq_false f, decide_eq_false (fun z => f (xn_inj (by omega) (by omega) z))]
    · rw [if_neg e, decide_eq_false e, Bool.false_and, Bool.or_false]
theorem lp47cx {nf : Bool} {xs : List Int32} {d : Nat} {G : xG} {r : Option Value} {h' : zH} {P R : Nat} {m0 : xM} {rows : List (List Int32)} (hG : GR G P) (h2 : G.1 55 2 = some P) (hM : MR P R m0) (hr8 : ∀ r : Nat, r < R → m0 (P + 8) (r * 2 + 0) = (rows.getD r []).getD 0 0 ∧ m0 (P + 8) (r * 2 + 1) = (rows.getD r []).getD 1 0) (hlen : rows.length = R) : ∀ (N k : Nat) (m : xM) (g : xL), (∀ a : Nat, a < 56 → m a = m0 a) → k ≤ R → RR nf xs d 5 false 3 none zt47 G r h' N (134, [(2, .int (Int32.ofNat k)), (0, .ref 55), (1, .ref P)], [], m, g) → ∃ (m' : xM) (g' : xL), HS h' m' g' G ∧ r = none ∧ m' = m ∧ (∀ c : Nat, ¬ c = 57 → g' c = g c) ∧ ∀ j : Nat, j < 6 → g' 57 j = tlF (rows.drop k) j (g 57 j) := by
  intro N
  induction N with
  | zero => intro k m g _ _ hr; exact hr.no.elim
  | succ N ih =>
    intro k m g hm hk hr
    obtain ⟨v1, v2, v3, v4, v5, v6⟩ := MR.of hG.2.2.2.2.2.2.2.2.2 hM (fun a ha => hm a (by omega))
    obtain ⟨len8, hlen8⟩ := hG.2.2.2.2.2.2.2.2.1
    have qk : (Int32.ofNat k).toInt = (k : Int) := xn_int (by omega)
    have qR : (Int32.ofNat R).toInt = (R : Int) := xn_int (by omega)
    replace hr := hr.go1 (s_iload_n t47_134 rfl)
    replace hr := hr.go (s_aload_n t47_135 rfl)
    replace hr := hr.go (s_getr t47_136 (h2))
    replace hr := hr.go (s_getr t47_139 (hG.2.2.2.2.1))
    replace hr := hr.go (s_getf t47_142)
    rw [v5] at hr
    rcases hr.bGe t47_145 with ⟨b145, hr⟩ | ⟨b145, hr⟩
    · obtain ⟨rfl, hs⟩ := hr.ret t47_183
      exact ⟨_, _, hs, rfl, rfl, fun c _ => rfl, fun j _ => by rw [List.drop_of_length_le (by omega)]; rfl⟩
    · replace hr := hr.go (s_aload_n t47_148 rfl)
      replace hr := hr.go (s_aload_n t47_149 rfl)
      replace hr := hr.go (s_getr t47_150 (h2))
      replace hr := hr.go (s_getr t47_153 (hG.2.2.2.2.1))
      replace hr := hr.go (s_iload_n t47_156 rfl)
      replace hr := hr.go (s_k t47_157)
      replace hr := hr.cvI t47_158 rfl rfl (ct_at (t := P + 7) (c := P + 8) (cols := 2) (most := 8) (ro := k) (k := 0) hG.2.2.2.2.2.2.1 hlen8 v3 v4 (by decide) (by decide) (by omega) (by decide))
      replace hr := hr.go (s_aload_n t47_161 rfl)
      replace hr := hr.go (s_getr t47_162 (h2))
      replace hr := hr.go (s_getr t47_165 (hG.2.2.2.2.1))
      replace hr := hr.go (s_iload_n t47_168 rfl)
      replace hr := hr.go (s_k t47_169)
      replace hr := hr.cvI t47_170 rfl rfl (ct_at (t := P + 7) (c := P + 8) (cols := 2) (most := 8) (ro := k) (k := 1) hG.2.2.2.2.2.2.1 hlen8 v3 v4 (by decide) (by decide) (by omega) (by decide))
      replace hr := hr.go (s_k t47_173)
      obtain ⟨_, m1, g1, ⟨rfl, e1, e2, e3⟩, hr⟩ := hr.callv t47_174 rfl rfl (ct_setToldX hG.2.1)
      rw [e1] at hr
      replace hr : RR nf xs d 5 false 3 none zt47 G r h' N (177, [(2, .int (Int32.ofNat k)), (0, .ref 55), (1, .ref P)], [], m, g1) := hr
      replace hr := hr.go (s_iinc (ls' := [(2, _), (0, _), (1, _)]) t47_177 rfl rfl)
      rw [xn_1i] at hr
      replace hr := hr.go (s_goto t47_180)
      obtain ⟨m', g', hs, f1, f2, f3, f4⟩ := ih (k + 1) _ _ hm (by omega) hr
      have c8 := hr8 k (by omega)
      rw [← congrFun (hm (P + 8) (by have := hG.2.2.2.2.2.2.2.2.2; omega)) (k * 2 + 0), ← congrFun (hm (P + 8) (by have := hG.2.2.2.2.2.2.2.2.2; omega)) (k * 2 + 1)] at c8
      refine ⟨m', g', hs, f1, f2, fun c hc => (f3 c hc).trans (e2 c hc), fun j hj => ?_⟩
      rw [f4 j hj, e3 j hj, tlF_drop (show k < rows.length by omega), c8.1, c8.2]
      rfl
theorem lp47bx {nf : Bool} {xs : List Int32} {d : Nat} {G : xG} {r : Option Value} {h' : zH} {P R : Nat} {m0 : xM} {g0 : xL} {rows : List (List Int32)} (hG : GR G P) (h2 : G.1 55 2 = some P) (hM : MR P R m0) (hr8 : ∀ r : Nat, r < R → m0 (P + 8) (r * 2 + 0) = (rows.getD r []).getD 0 0 ∧ m0 (P + 8) (r * 2 + 1) = (rows.getD r []).getD 1 0) (hlen : rows.length = R) : ∀ (N k : Nat) (m : xM) (g : xL), (∀ a : Nat, a < 56 → m a = m0 a) → (∀ c : Nat, ¬ c = 57 → g c = g0 c) → (∀ j : Nat, j < k → g 57 j = 0) → k ≤ 6 → RR nf xs d 5 false 3 none zt47 G r h' N (113, [(2, .int (Int32.ofNat k)), (0, .ref 55), (1, .ref P)], [], m, g) → ∃ (m' : xM) (g' : xL), HS h' m' g' G ∧ r = none ∧ m' = m ∧ (∀ c : Nat, ¬ c = 57 → g' c = g0 c) ∧ ∀ j : Nat, j < 6 → g' 57 j = tlF rows j 0 := by
  intro N
  induction N with
  | zero => intro k m g _ _ _ _ hr; exact hr.no.elim
  | succ N ih =>
    intro k m g hm hg hz hk hr
    have qk : (Int32.ofNat k).toInt = (k : Int) := xn_int (by omega)
    have k6 : (6 : Int32).toInt = 6 := rfl
    replace hr := hr.go1 (s_iload_n t47_113 rfl)
    replace hr := hr.go (s_k t47_114)
    rcases hr.bGe t47_116 with ⟨b116, hr⟩ | ⟨b116, hr⟩
    · replace hr := hr.go (s_k t47_132)
      replace hr := hr.go (s_istore_n (ls' := [(2, _), (0, _), (1, _)]) t47_133 rfl)
      obtain ⟨m', g', hs, f1, f2, f3, f4⟩ := lp47cx hG h2 hM hr8 hlen N 0 m g hm (Nat.zero_le _) hr
      exact ⟨m', g', hs, f1, f2, fun c hc => (f3 c hc).trans (hg c hc), fun j hj => by rw [f4 j hj, hz j (by omega)]; rfl⟩
    · replace hr := hr.go (s_aload_n t47_119 rfl)
      replace hr := hr.go (s_getr t47_120 (hG.2.1))
      replace hr := hr.go (s_iload_n t47_123 rfl)
      replace hr := hr.go (s_lconst t47_124)
      replace hr := hr.go (s_lastore t47_125)
      rw [xn_nat (show k < 2147483648 by omega)] at hr
      replace hr := hr.go (s_iinc (ls' := [(2, _), (0, _), (1, _)]) t47_126 rfl rfl)
      rw [xn_1i] at hr
      replace hr := hr.go (s_goto t47_129)
      refine ih (k + 1) _ _ hm (fun c hc => (xu_row hc).trans (hg c hc)) (fun j hj => ?_) (by omega) hr
      by_cases e : j = k
      · subst e; exact xu_same
      · rw [xu_oth (by omega)]; exact hz j (by omega)
theorem lp47ax {nf : Bool} {xs : List Int32} {d : Nat} {G : xG} {r : Option Value} {h' : zH} {P R : Nat} {m0 : xM} {rows : List (List Int32)} (hG : GR G P) (h2 : G.1 55 2 = some P) (hM : MR P R m0) (hr8 : ∀ r : Nat, r < R → m0 (P + 8) (r * 2 + 0) = (rows.getD r []).getD 0 0 ∧ m0 (P + 8) (r * 2 + 1) = (rows.getD r []).getD 1 0) (hlen : rows.length = R) : ∀ (N k : Nat) (m : xM) (g : xL), (∀ a : Nat, a < 58 → m a = m0 a) → (∀ i : Nat, i < k → m (58 + 2 * i) 2 = m0 (P + 4) (i * 5 + 3) ∧ m (58 + 2 * i) 4 = 0) → k ≤ 6 → RR nf xs d 5 false 3 none zt47 G r h' N (66, [(2, .int (Int32.ofNat k)), (0, .ref 55), (1, .ref P)], [], m, g) → ∃ (m' : xM) (g' : xL), HS h' m' g' G ∧ r = none ∧ (∀ a : Nat, a < 58 → m' a = m0 a) ∧ (∀ i : Nat, i < 6 → m' (58 + 2 * i) 2 = m0 (P + 4) (i * 5 + 3) ∧ m' (58 + 2 * i) 4 = 0) ∧ (∀ c : Nat, ¬ c = 57 → g' c = g c) ∧ ∀ j : Nat, j < 6 → g' 57 j = tlF rows j 0 := by
  intro N
  induction N with
  | zero => intro k m g _ _ _ hr; exact hr.no.elim
  | succ N ih =>
    intro k m g hm hp hk hr
    obtain ⟨v1, v2, v3, v4, v5, v6⟩ := MR.of hG.2.2.2.2.2.2.2.2.2 hM (fun a ha => hm a (by omega))
    obtain ⟨len4, hlen4⟩ := hG.2.2.2.2.2.2.2.1
    have qk : (Int32.ofNat k).toInt = (k : Int) := xn_int (by omega)
    have k6 : (6 : Int32).toInt = 6 := rfl
    replace hr := hr.go1 (s_iload_n t47_66 rfl)
    replace hr := hr.go (s_k t47_67)
    rcases hr.bGe t47_69 with ⟨b69, hr⟩ | ⟨b69, hr⟩
    · replace hr := hr.go (s_k t47_111)
      replace hr := hr.go (s_istore_n (ls' := [(2, _), (0, _), (1, _)]) t47_112 rfl)
      obtain ⟨m', g', hs, f1, f2, f3, f4⟩ := lp47bx (g0 := g) hG h2 hM hr8 hlen N 0 m g (fun a ha => hm a (by omega)) (fun c _ => rfl) (fun j hj => absurd hj (Nat.not_lt_zero j)) (by decide) hr
      subst f2
      exact ⟨_, g', hs, f1, hm, fun i hi => hp i (by omega), f3, f4⟩
    · replace hr := hr.go (s_aload_n t47_72 rfl)
      replace hr := hr.go (s_getr t47_73 (hG.1))
      replace hr := hr.go (s_iload_n t47_76 rfl)
      replace hr := hr.go (s_aaload t47_77 (by rw [xn_nat (by omega)]; exact (hG.2.2.1 k (by omega)).1))
      replace hr := hr.go (s_aload_n t47_78 rfl)
      replace hr := hr.go (s_getr t47_79 (h2))
      replace hr := hr.go (s_getr t47_82 (hG.2.2.2.1))
      replace hr := hr.go (s_iload_n t47_85 rfl)
      replace hr := hr.go (s_k t47_86)
      replace hr := hr.cvI t47_87 rfl rfl (ct_at (t := P + 3) (c := P + 4) (cols := 5) (most := 6) (ro := k) (k := 2) hG.2.2.2.2.2.1 hlen4 v1 v2 (by decide) (by decide) (by omega) (by decide))
      replace hr := hr.go (s_aload_n t47_90 rfl)
      replace hr := hr.go (s_getr t47_91 (h2))
      replace hr := hr.go (s_getr t47_94 (hG.2.2.2.1))
      replace hr := hr.go (s_iload_n t47_97 rfl)
      replace hr := hr.go (s_k t47_98)
      replace hr := hr.cvI t47_99 rfl rfl (ct_at (t := P + 3) (c := P + 4) (cols := 5) (most := 6) (ro := k) (k := 3) hG.2.2.2.2.2.1 hlen4 v1 v2 (by decide) (by decide) (by omega) (by decide))
      obtain ⟨m1, q1, hr⟩ := hr.fvN t47_102 rfl rfl (ct_pbeginX (p := 58 + 2 * k) (hG.2.2.1 k (by omega)).2)
      skip
      replace hr := hr.go (s_iinc (ls' := [(2, _), (0, _), (1, _)]) t47_105 rfl rfl)
      rw [xn_1i] at hr
      replace hr := hr.go (s_goto t47_108)
      refine ih (k + 1) m1 _ (fun a ha => by rw [q1.1 a (by omega) (by omega)]; exact hm a ha) (fun i hi => ?_) (by omega) hr
      by_cases e : i = k
      · subst e
        exact ⟨q1.2.1.trans (congrFun (hm (P + 4) (by have := hG.2.2.2.2.2.2.2.2.2; omega)) _), q1.2.2⟩
      · rw [q1.1 _ (by omega) (by omega)]
        exact hp i (by omega)
theorem cg_rbeginX {nf : Bool} {xs : List Int32} {d : Nat} {m : xM} {g : xL} {G : xG} {P R : Nat} {rows : List (List Int32)} (hG : GR (xgu G 55 2 P) P) (hM : MR P R m) (hr8 : ∀ r : Nat, r < R → m (P + 8) (r * 2 + 0) = (rows.getD r []).getD 0 0 ∧ m (P + 8) (r * 2 + 1) = (rows.getD r []).getD 1 0) (hlen : rows.length = R) : CG nf xs d 47 [.ref 55, .ref P] m g G (fun r m' g' G' => r = none ∧ G' = xgu G 55 2 P ∧ (∀ a : Nat, a < 55 → m' a = m a) ∧ m' 55 3 = (if m (P + 3) 3 < 6 then m (P + 3) 3 else 6) ∧ m' 55 4 = 0 ∧ m' 55 5 = 0 ∧ (∀ i : Nat, i < 6 → m' (58 + 2 * i) 2 = m (P + 4) (i * 5 + 3) ∧ m' (58 + 2 * i) 4 = 0) ∧ ∀ j : Nat, j < 6 → g' 57 j = tlF rows j 0) := by
  refine CG.of (c := 5) (ini := false) (nL := 3) (rt := none) (tab := zt47) rfl (fun d' r h' N hd hr => ?_)
  replace hr : RR nf xs d' 5 false 3 none zt47 G r h' N (0, [(0, .ref 55), (1, .ref P)], [], m, g) := hr
  replace hr := hr.go (s_aload_n t47_0 rfl)
  replace hr := hr.go (s_aload_n t47_1 rfl)
  replace hr := hr.putr t47_2
  replace hr := hr.go (s_aload_n t47_5 rfl)
  replace hr := hr.go (s_k t47_6)
  replace hr := hr.go (s_aload_n t47_8 rfl)
  replace hr := hr.go (s_getr t47_9 (xgu_same))
  replace hr := hr.go (s_getr t47_12 (hG.2.2.2.1))
  replace hr := hr.go (s_getf t47_15)
  replace hr := hr.go (s_math6 t47_18)
  replace hr := hr.go (s_putf t47_21)
  replace hr := hr.go (s_aload_n t47_24 rfl)
  replace hr := hr.go (s_k t47_25)
  replace hr := hr.go (s_putf t47_26)
  replace hr := hr.go (s_aload_n t47_29 rfl)
  replace hr := hr.go (s_k t47_30)
  replace hr := hr.go (s_putf t47_31)
  replace hr := hr.go (s_aload_n t47_34 rfl)
  replace hr := hr.go (s_k t47_35)
  replace hr := hr.go (s_putf t47_36)
  replace hr := hr.go (s_aload_n t47_39 rfl)
  replace hr := hr.go (s_k t47_40)
  replace hr := hr.go (s_putf t47_41)
  replace hr := hr.go (s_aload_n t47_44 rfl)
  replace hr := hr.go (s_k t47_45)
  replace hr := hr.go (s_putf t47_46)
  replace hr := hr.go (s_aload_n t47_49 rfl)
  replace hr := hr.go (s_k t47_50)
  replace hr := hr.go (s_putf t47_51)
  replace hr := hr.go (s_aload_n t47_54 rfl)
  replace hr := hr.go (s_k t47_55)
  replace hr := hr.go (s_putf t47_56)
  replace hr := hr.go (s_aload_n t47_59 rfl)
  replace hr := hr.go (s_k t47_60)
  replace hr := hr.go (s_putf t47_61)
  replace hr := hr.go (s_k t47_64)
  replace hr := hr.go (s_istore_n (ls' := [(2, _), (0, _), (1, _)]) t47_65 rfl)
  have hP31 : P ≤ 31 := hG.2.2.2.2.2.2.2.2.2
  obtain ⟨m', g', hs, h1, h2, h3, h4, h5⟩ := lp47ax (m0 := _) (rows := rows) hG xgu_same (MR.of hP31 hM (fun a ha => by repeat rw [xu_row (by omega)])) (fun r hr2 => by (repeat rw [xu_row (by omega)]); exact hr8 r hr2) hlen N 0 _ g (fun a ha => rfl) (fun i hi => absurd hi (Nat.not_lt_zero i)) (by decide) hr
  refine ⟨m', g', _, hs, h1, rfl, fun a ha => ?_, ?_, ?_, ?_, fun i hi => ⟨?_, (h3 i hi).2⟩, h5⟩
  · rw [h2 a (by omega)]
    repeat rw [xu_row (by omega)]
  · rw [h2 55 (by decide)]
    repeat (first | rw [xu_same] | rw [xu_oth (by decide)])
  · rw [h2 55 (by decide)]
    repeat (first | rw [xu_same] | rw [xu_oth (by decide)])
  · rw [h2 55 (by decide)]
    repeat (first | rw [xu_same] | rw [xu_oth (by decide)])
  · rw [(h3 i hi).1]
    repeat rw [xu_row (by omega)]
end
