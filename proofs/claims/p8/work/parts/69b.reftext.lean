/-! The reference: a whole text. -/
/-- the tables in the reference's first halves -/
def TB (T : Nat → List (List Int32)) (m : xM) : Prop := (∀ w : Nat, w < 8 → (T w).length ≤ mN w) ∧ (∀ w : Nat, 1 ≤ w → w ≤ 5 → m 130 w = Int32.ofNat (T w).length) ∧
  (∀ w : Nat, (w = 1 ∨ w = 2 ∨ w = 4 ∨ w = 5) → ∀ r : Nat, r < (T w).length → ∀ c : Nat, c < cN w → m (ar w c) r = ((T w).getD r []).getD c 0) ∧
  ∀ w : Nat, (w = 0 ∨ w = 6 ∨ w = 7) → m 130 w = tpV (df w) (T w)
theorem TB.of {T : Nat → List (List Int32)} {m m' : xM} (h : TB T m) (hF : FM0 m m') : TB T m' := by
  obtain ⟨h1, h2, h3, h4⟩ := h
  refine ⟨h1, fun w w1 w2 => (hF 130 w (Or.inl ⟨rfl, by omega⟩)).trans (h2 w w1 w2), fun w hw r hr c hc => (hF (ar w c) r ?_).trans (h3 w hw r hr c hc), fun w hw => (hF 130 w (Or.inl ⟨rfl, by omega⟩)).trans (h4 w hw)⟩
  rcases hw with rfl | rfl | rfl | rfl
  · have l := h1 1 (by decide)
    have l : (T 1).length ≤ 6 := l
    have hc : c < 5 := hc
    exact Or.inr (Or.inl ⟨⟨show 131 ≤ 131 + c by omega, show 131 + c ≤ 138 by omega⟩, by omega⟩)
  · have l := h1 2 (by decide)
    have l : (T 2).length ≤ 6 := l
    have hc : c < 3 := hc
    exact Or.inr (Or.inl ⟨⟨show 131 ≤ 136 + c by omega, show 136 + c ≤ 138 by omega⟩, by omega⟩)
  · have l := h1 4 (by decide)
    have l : (T 4).length ≤ 5 := l
    have hc : c < 2 := hc
    exact Or.inr (Or.inr (Or.inl ⟨show 140 + c = 140 ∨ 140 + c = 141 by omega, by omega⟩))
  · have l := h1 5 (by decide)
    have l : (T 5).length ≤ 3 := l
    have hc : c < 2 := hc
    exact Or.inr (Or.inr (Or.inr ⟨show 142 + c = 142 ∨ 142 + c = 143 by omega, by omega⟩))
/-- the row that now is, behind a good text -/
def TS (T : Nat → List (List Int32)) (m : xM) (g : xL) : Prop := m 150 0 = 0 ∧ m 151 0 = 0 ∧ m 155 0 = 0 ∧ (∀ p : Nat, p < (T 1).length → m 156 p = ((T 1).getD p []).getD 3 0) ∧ ∀ j : Nat, j < (T 2).length → ∀ v : Nat, v < 64 → bl (g 164 j) v = tld (T 3) (Int32.ofNat j) (Int32.ofNat v)
/-- how a text ends in the reference -/
def TE (B : eB) (s : eS) (q : Nat) (m : xM) (g : xL) : Option Value → xM → xL → Prop := fun r m' g' => ∃ (f : Nat) (o : (Nat × Nat) ⊕ (eS × Nat)), lnsF B f s q = some o ∧ match o with
  | .inl e => r = some (.int (-1)) ∧ m' 128 30 = Int32.ofNat e.1 ∧ m' 128 31 = Int32.ofNat (tP B e.2) ∧ FM m m' ∧ FG g g'
  | .inr p => r = some (.int (Int32.ofNat p.2)) ∧ m' 128 30 = 0 ∧ m' 128 31 = -1 ∧ TB p.1.1 m' ∧ (m' 128 53 = 0 ∧ m' 128 54 = 0 ∧ m' 128 67 = 0 ∧ m' 128 68 = -1) ∧ TS p.1.1 m' g'
theorem en181F {nf : Bool} {xs : List Int32} {d : Nat} {G : xG} {r : Option Value} {h' : zH} {N : Nat} {m : xM} {g : xL} {B : eB} {e : Nat × Nat} {x y : Int32} (h : sX B (.inl e) m) (hr : RR nf xs d 11 false 3 (some .int) zt181 G r h' N (182, [(2, .int y), (0, .ref 128), (1, .int x)], [], m, g)) : ∃ (m' : xM) (g' : xL), HS h' m' g' G ∧ r = some (.int (-1)) ∧ m' 128 30 = Int32.ofNat e.1 ∧ m' 128 31 = Int32.ofNat (tP B e.2) ∧ FM m m' ∧ FG g g' := by
  replace hr := hr.go (s_aload_n t181_182 rfl)
  replace hr := hr.go (s_aload_n t181_183 rfl)
  replace hr := hr.go (s_getf t181_184)
  replace hr := hr.go (s_putf t181_187)
  replace hr := hr.go (s_aload_n t181_190 rfl)
  replace hr := hr.go (s_aload_n t181_191 rfl)
  replace hr := hr.go (s_getf t181_192)
  replace hr := hr.go (s_putf t181_195)
  replace hr := hr.go (s_aload_n t181_198 rfl)
  replace hr := hr.go (s_getf t181_199)
  rcases hr.zEq t181_202 with ⟨b202, hr⟩ | ⟨b202, hr⟩
  · exact absurd ((xu_oth (by decide)).symm.trans ((xu_oth (by decide)).symm.trans b202)) h.2.1
  · replace hr := hr.go (s_k t181_205)
    obtain ⟨rfl, hs⟩ := hr.iret t181_206
    refine ⟨_, _, hs, rfl, ?_, ?_, FM.x128 (FM.x128 FM.rf (by decide)) (by decide), FG.rf⟩
    · rw [xu_oth (by decide), xu_same]; exact h.1
    · rw [xu_same, xu_oth (by decide)]; exact h.2.2
theorem en181G {nf : Bool} {xs : List Int32} {d : Nat} {G : xG} {r : Option Value} {h' : zH} {N : Nat} {m : xM} {g : xL} {B : eB} {s : eS} {x y : Int32} (hG : GT G) (hA : AR B s m g) (hr : RR nf xs d 11 false 3 (some .int) zt181 G r h' N (182, [(2, .int y), (0, .ref 128), (1, .int x)], [], m, g)) : ∃ (m' : xM) (g' : xL), HS h' m' g' G ∧ r = some (.int (m 128 22)) ∧ m' 128 30 = 0 ∧ m' 128 31 = -1 ∧ TB s.1 m' ∧ (m' 128 53 = 0 ∧ m' 128 54 = 0 ∧ m' 128 67 = 0 ∧ m' 128 68 = -1) ∧ TS s.1 m' g' := by
  have h := hA.1
  replace hr := hr.go (s_aload_n t181_182 rfl)
  replace hr := hr.go (s_aload_n t181_183 rfl)
  replace hr := hr.go (s_getf t181_184)
  replace hr := hr.go (s_putf t181_187)
  replace hr := hr.go (s_aload_n t181_190 rfl)
  replace hr := hr.go (s_aload_n t181_191 rfl)
  replace hr := hr.go (s_getf t181_192)
  replace hr := hr.go (s_putf t181_195)
  replace hr := hr.go (s_aload_n t181_198 rfl)
  replace hr := hr.go (s_getf t181_199)
  rcases hr.zEq t181_202 with ⟨b202, hr⟩ | ⟨b202, hr⟩
  · replace hr := hr.go (s_aload_n t181_207 rfl)
    replace hr := hr.go (s_getr t181_208 (hG.1.2.1.1))
    obtain ⟨w1, ⟨z1, y1⟩, hr⟩ := hr.fsN t181_211 rfl rfl (ct_half (n := 9) (hG.2.2.1 130 18 (by decide)) (by decide) (by decide))
    have e1 : w1 128 = (xu (xu m 128 30 (m 128 28)) 128 31 ((xu m 128 30 (m 128 28)) 128 29)) 128 := (z1 128 (by decide))
    replace hr := hr.go (s_aload_n t181_214 rfl)
    replace hr := hr.go (s_getr t181_215 (hG.1.2.2.1 4 (by decide) (by decide)))
    obtain ⟨w2, ⟨z2, y2⟩, hr⟩ := hr.fsN t181_218 rfl rfl (ct_half (n := 6) (hG.2.2.1 131 12 (by decide)) (by decide) (by decide))
    have e2 : w2 128 = (xu (xu m 128 30 (m 128 28)) 128 31 ((xu m 128 30 (m 128 28)) 128 29)) 128 := (z2 128 (by decide)).trans e1
    replace hr := hr.go (s_aload_n t181_221 rfl)
    replace hr := hr.go (s_getr t181_222 (hG.1.2.2.1 5 (by decide) (by decide)))
    obtain ⟨w3, ⟨z3, y3⟩, hr⟩ := hr.fsN t181_225 rfl rfl (ct_half (n := 6) (hG.2.2.1 132 12 (by decide)) (by decide) (by decide))
    have e3 : w3 128 = (xu (xu m 128 30 (m 128 28)) 128 31 ((xu m 128 30 (m 128 28)) 128 29)) 128 := (z3 128 (by decide)).trans e2
    replace hr := hr.go (s_aload_n t181_228 rfl)
    replace hr := hr.go (s_getr t181_229 (hG.1.2.2.1 6 (by decide) (by decide)))
    obtain ⟨w4, ⟨z4, y4⟩, hr⟩ := hr.fsN t181_232 rfl rfl (ct_half (n := 6) (hG.2.2.1 133 12 (by decide)) (by decide) (by decide))
    have e4 : w4 128 = (xu (xu m 128 30 (m 128 28)) 128 31 ((xu m 128 30 (m 128 28)) 128 29)) 128 := (z4 128 (by decide)).trans e3
    replace hr := hr.go (s_aload_n t181_235 rfl)
    replace hr := hr.go (s_getr t181_236 (hG.1.2.2.1 7 (by decide) (by decide)))
    obtain ⟨w5, ⟨z5, y5⟩, hr⟩ := hr.fsN t181_239 rfl rfl (ct_half (n := 6) (hG.2.2.1 134 12 (by decide)) (by decide) (by decide))
    have e5 : w5 128 = (xu (xu m 128 30 (m 128 28)) 128 31 ((xu m 128 30 (m 128 28)) 128 29)) 128 := (z5 128 (by decide)).trans e4
    replace hr := hr.go (s_aload_n t181_242 rfl)
    replace hr := hr.go (s_getr t181_243 (hG.1.2.2.1 8 (by decide) (by decide)))
    obtain ⟨w6, ⟨z6, y6⟩, hr⟩ := hr.fsN t181_246 rfl rfl (ct_half (n := 6) (hG.2.2.1 135 12 (by decide)) (by decide) (by decide))
    have e6 : w6 128 = (xu (xu m 128 30 (m 128 28)) 128 31 ((xu m 128 30 (m 128 28)) 128 29)) 128 := (z6 128 (by decide)).trans e5
    replace hr := hr.go (s_aload_n t181_249 rfl)
    replace hr := hr.go (s_getr t181_250 (hG.1.2.2.1 9 (by decide) (by decide)))
    obtain ⟨w7, ⟨z7, y7⟩, hr⟩ := hr.fsN t181_253 rfl rfl (ct_half (n := 6) (hG.2.2.1 136 12 (by decide)) (by decide) (by decide))
    have e7 : w7 128 = (xu (xu m 128 30 (m 128 28)) 128 31 ((xu m 128 30 (m 128 28)) 128 29)) 128 := (z7 128 (by decide)).trans e6
    replace hr := hr.go (s_aload_n t181_256 rfl)
    replace hr := hr.go (s_getr t181_257 (hG.1.2.2.1 10 (by decide) (by decide)))
    obtain ⟨w8, ⟨z8, y8⟩, hr⟩ := hr.fsN t181_260 rfl rfl (ct_half (n := 6) (hG.2.2.1 137 12 (by decide)) (by decide) (by decide))
    have e8 : w8 128 = (xu (xu m 128 30 (m 128 28)) 128 31 ((xu m 128 30 (m 128 28)) 128 29)) 128 := (z8 128 (by decide)).trans e7
    replace hr := hr.go (s_aload_n t181_263 rfl)
    replace hr := hr.go (s_getr t181_264 (hG.1.2.2.1 11 (by decide) (by decide)))
    obtain ⟨w9, ⟨z9, y9⟩, hr⟩ := hr.fsN t181_267 rfl rfl (ct_half (n := 6) (hG.2.2.1 138 12 (by decide)) (by decide) (by decide))
    have e9 : w9 128 = (xu (xu m 128 30 (m 128 28)) 128 31 ((xu m 128 30 (m 128 28)) 128 29)) 128 := (z9 128 (by decide)).trans e8
    replace hr := hr.go (s_k t181_270)
    replace hr := hr.go (s_istore_n (ls' := [(2, _), (0, _), (1, _)]) t181_271 rfl)
    replace hr := hr.go (s_iload_n t181_272 rfl)
    replace hr := hr.go (s_k t181_273)
    replace hr := hr.brF t181_275 (by decide)
    replace hr := hr.go (s_aload_n t181_278 rfl)
    replace hr := hr.go (s_getr t181_279 (hG.1.2.2.1 12 (by decide) (by decide)))
    replace hr := hr.go (s_iload_n t181_282 rfl)
    replace hr := hr.go (s_aload_n t181_283 rfl)
    replace hr := hr.go (s_getr t181_284 (hG.1.2.2.1 12 (by decide) (by decide)))
    replace hr := hr.go (s_k t181_287)
    replace hr := hr.go (s_iload_n t181_289 rfl)
    replace hr := hr.go (s_iadd t181_290)
    replace hr := hr.go (s_laload t181_291)
    replace hr := hr.go (s_lastore t181_292)
    replace hr := hr.go (s_iinc (ls' := [(2, .int 1), (0, _), (1, _)]) t181_293 rfl rfl)
    replace hr := hr.go (s_goto t181_296)
    replace hr := hr.go (s_iload_n t181_272 rfl)
    replace hr := hr.go (s_k t181_273)
    replace hr := hr.brF t181_275 (by decide)
    replace hr := hr.go (s_aload_n t181_278 rfl)
    replace hr := hr.go (s_getr t181_279 (hG.1.2.2.1 12 (by decide) (by decide)))
    replace hr := hr.go (s_iload_n t181_282 rfl)
    replace hr := hr.go (s_aload_n t181_283 rfl)
    replace hr := hr.go (s_getr t181_284 (hG.1.2.2.1 12 (by decide) (by decide)))
    replace hr := hr.go (s_k t181_287)
    replace hr := hr.go (s_iload_n t181_289 rfl)
    replace hr := hr.go (s_iadd t181_290)
    replace hr := hr.go (s_laload t181_291)
    replace hr := hr.go (s_lastore t181_292)
    replace hr := hr.go (s_iinc (ls' := [(2, .int 2), (0, _), (1, _)]) t181_293 rfl rfl)
    replace hr := hr.go (s_goto t181_296)
    replace hr := hr.go (s_iload_n t181_272 rfl)
    replace hr := hr.go (s_k t181_273)
    replace hr := hr.brF t181_275 (by decide)
    replace hr := hr.go (s_aload_n t181_278 rfl)
    replace hr := hr.go (s_getr t181_279 (hG.1.2.2.1 12 (by decide) (by decide)))
    replace hr := hr.go (s_iload_n t181_282 rfl)
    replace hr := hr.go (s_aload_n t181_283 rfl)
    replace hr := hr.go (s_getr t181_284 (hG.1.2.2.1 12 (by decide) (by decide)))
    replace hr := hr.go (s_k t181_287)
    replace hr := hr.go (s_iload_n t181_289 rfl)
    replace hr := hr.go (s_iadd t181_290)
    replace hr := hr.go (s_laload t181_291)
    replace hr := hr.go (s_lastore t181_292)
    replace hr := hr.go (s_iinc (ls' := [(2, .int 3), (0, _), (1, _)]) t181_293 rfl rfl)
    replace hr := hr.go (s_goto t181_296)
    replace hr := hr.go (s_iload_n t181_272 rfl)
    replace hr := hr.go (s_k t181_273)
    replace hr := hr.brF t181_275 (by decide)
    replace hr := hr.go (s_aload_n t181_278 rfl)
    replace hr := hr.go (s_getr t181_279 (hG.1.2.2.1 12 (by decide) (by decide)))
    replace hr := hr.go (s_iload_n t181_282 rfl)
    replace hr := hr.go (s_aload_n t181_283 rfl)
    replace hr := hr.go (s_getr t181_284 (hG.1.2.2.1 12 (by decide) (by decide)))
    replace hr := hr.go (s_k t181_287)
    replace hr := hr.go (s_iload_n t181_289 rfl)
    replace hr := hr.go (s_iadd t181_290)
    replace hr := hr.go (s_laload t181_291)
    replace hr := hr.go (s_lastore t181_292)
    replace hr := hr.go (s_iinc (ls' := [(2, .int 4), (0, _), (1, _)]) t181_293 rfl rfl)
    replace hr := hr.go (s_goto t181_296)
    replace hr := hr.go (s_iload_n t181_272 rfl)
    replace hr := hr.go (s_k t181_273)
    replace hr := hr.brF t181_275 (by decide)
    replace hr := hr.go (s_aload_n t181_278 rfl)
    replace hr := hr.go (s_getr t181_279 (hG.1.2.2.1 12 (by decide) (by decide)))
    replace hr := hr.go (s_iload_n t181_282 rfl)
    replace hr := hr.go (s_aload_n t181_283 rfl)
    replace hr := hr.go (s_getr t181_284 (hG.1.2.2.1 12 (by decide) (by decide)))
    replace hr := hr.go (s_k t181_287)
    replace hr := hr.go (s_iload_n t181_289 rfl)
    replace hr := hr.go (s_iadd t181_290)
    replace hr := hr.go (s_laload t181_291)
    replace hr := hr.go (s_lastore t181_292)
    replace hr := hr.go (s_iinc (ls' := [(2, .int 5), (0, _), (1, _)]) t181_293 rfl rfl)
    replace hr := hr.go (s_goto t181_296)
    replace hr := hr.go (s_iload_n t181_272 rfl)
    replace hr := hr.go (s_k t181_273)
    replace hr := hr.brF t181_275 (by decide)
    replace hr := hr.go (s_aload_n t181_278 rfl)
    replace hr := hr.go (s_getr t181_279 (hG.1.2.2.1 12 (by decide) (by decide)))
    replace hr := hr.go (s_iload_n t181_282 rfl)
    replace hr := hr.go (s_aload_n t181_283 rfl)
    replace hr := hr.go (s_getr t181_284 (hG.1.2.2.1 12 (by decide) (by decide)))
    replace hr := hr.go (s_k t181_287)
    replace hr := hr.go (s_iload_n t181_289 rfl)
    replace hr := hr.go (s_iadd t181_290)
    replace hr := hr.go (s_laload t181_291)
    replace hr := hr.go (s_lastore t181_292)
    replace hr := hr.go (s_iinc (ls' := [(2, .int 6), (0, _), (1, _)]) t181_293 rfl rfl)
    replace hr := hr.go (s_goto t181_296)
    replace hr := hr.go (s_iload_n t181_272 rfl)
    replace hr := hr.go (s_k t181_273)
    replace hr := hr.brT t181_275 (by decide)
    replace hr := hr.go (s_aload_n t181_299 rfl)
    replace hr := hr.go (s_getr t181_300 (hG.1.2.2.1 13 (by decide) (by decide)))
    obtain ⟨w10, ⟨z10, y10⟩, hr⟩ := hr.fsN t181_303 rfl rfl (ct_half (n := 5) (hG.2.2.1 140 10 (by decide)) (by decide) (by decide))
    have e10 : w10 128 = (xu (xu m 128 30 (m 128 28)) 128 31 ((xu m 128 30 (m 128 28)) 128 29)) 128 := (z10 128 (by decide)).trans e9
    replace hr := hr.go (s_aload_n t181_306 rfl)
    replace hr := hr.go (s_getr t181_307 (hG.1.2.2.1 14 (by decide) (by decide)))
    obtain ⟨w11, ⟨z11, y11⟩, hr⟩ := hr.fsN t181_310 rfl rfl (ct_half (n := 5) (hG.2.2.1 141 10 (by decide)) (by decide) (by decide))
    have e11 : w11 128 = (xu (xu m 128 30 (m 128 28)) 128 31 ((xu m 128 30 (m 128 28)) 128 29)) 128 := (z11 128 (by decide)).trans e10
    replace hr := hr.go (s_aload_n t181_313 rfl)
    replace hr := hr.go (s_getr t181_314 (hG.1.2.2.1 15 (by decide) (by decide)))
    obtain ⟨w12, ⟨z12, y12⟩, hr⟩ := hr.fsN t181_317 rfl rfl (ct_half (n := 3) (hG.2.2.1 142 6 (by decide)) (by decide) (by decide))
    have e12 : w12 128 = (xu (xu m 128 30 (m 128 28)) 128 31 ((xu m 128 30 (m 128 28)) 128 29)) 128 := (z12 128 (by decide)).trans e11
    replace hr := hr.go (s_aload_n t181_320 rfl)
    replace hr := hr.go (s_getr t181_321 (hG.1.2.2.1 16 (by decide) (by decide)))
    obtain ⟨w13, ⟨z13, y13⟩, hr⟩ := hr.fsN t181_324 rfl rfl (ct_half (n := 3) (hG.2.2.1 143 6 (by decide)) (by decide) (by decide))
    have e13 : w13 128 = (xu (xu m 128 30 (m 128 28)) 128 31 ((xu m 128 30 (m 128 28)) 128 29)) 128 := (z13 128 (by decide)).trans e12
    replace hr := hr.go (s_aload_n t181_327 rfl)
    replace hr := hr.go (s_getr t181_328 (hG.1.2.2.1 17 (by decide) (by decide)))
    obtain ⟨w14, ⟨z14, y14⟩, hr⟩ := hr.fsN t181_331 rfl rfl (ct_half (n := 3) (hG.2.2.1 144 6 (by decide)) (by decide) (by decide))
    have e14 : w14 128 = (xu (xu m 128 30 (m 128 28)) 128 31 ((xu m 128 30 (m 128 28)) 128 29)) 128 := (z14 128 (by decide)).trans e13
    replace hr := hr.go (s_aload_n t181_334 rfl)
    replace hr := hr.go (s_getr t181_335 (hG.1.2.2.1 18 (by decide) (by decide)))
    obtain ⟨w15, ⟨z15, y15⟩, hr⟩ := hr.fsN t181_338 rfl rfl (ct_half (n := 3) (hG.2.2.1 145 6 (by decide)) (by decide) (by decide))
    have e15 : w15 128 = (xu (xu m 128 30 (m 128 28)) 128 31 ((xu m 128 30 (m 128 28)) 128 29)) 128 := (z15 128 (by decide)).trans e14
    replace hr := hr.go (s_aload_n t181_341 rfl)
    replace hr := hr.go (s_getr t181_342 (hG.1.2.2.1 19 (by decide) (by decide)))
    obtain ⟨w16, ⟨z16, y16⟩, hr⟩ := hr.fsN t181_345 rfl rfl (ct_half (n := 64) (hG.2.2.1 146 128 (by decide)) (by decide) (by decide))
    have e16 : w16 128 = (xu (xu m 128 30 (m 128 28)) 128 31 ((xu m 128 30 (m 128 28)) 128 29)) 128 := (z16 128 (by decide)).trans e15
    replace hr := hr.go (s_aload_n t181_348 rfl)
    replace hr := hr.go (s_getr t181_349 (hG.1.2.2.1 20 (by decide) (by decide)))
    obtain ⟨w17, ⟨z17, y17⟩, hr⟩ := hr.fsN t181_352 rfl rfl (ct_half (n := 64) (hG.2.2.1 147 128 (by decide)) (by decide) (by decide))
    have e17 : w17 128 = (xu (xu m 128 30 (m 128 28)) 128 31 ((xu m 128 30 (m 128 28)) 128 29)) 128 := (z17 128 (by decide)).trans e16
    replace hr := hr.go (s_aload_n t181_355 rfl)
    replace hr := hr.go (s_k t181_356)
    replace hr := hr.go (s_putf t181_357)
    replace hr := hr.go (s_aload_n t181_360 rfl)
    replace hr := hr.go (s_k t181_361)
    replace hr := hr.go (s_putf t181_362)
    replace hr := hr.go (s_aload_n t181_365 rfl)
    replace hr := hr.go (s_k t181_366)
    replace hr := hr.go (s_putf t181_367)
    replace hr := hr.go (s_aload_n t181_370 rfl)
    replace hr := hr.go (s_k t181_371)
    replace hr := hr.go (s_putf t181_372)
    replace hr := hr.go (s_aload_n t181_375 rfl)
    obtain ⟨_, w, g1, ⟨rfl, hq⟩, hr⟩ := hr.callv t181_376 rfl rfl (ct_beginsX (R := (s.1 1).length) (J := (s.1 2).length) ⟨hG.2.1, hG.1.2.1.1, hG.1.2.2.1 7 (by decide) (by decide), hG.1.2.2.1 12 (by decide) (by decide), hG.2.2.1 130 18 (by decide), hG.2.2.1 134 12 (by decide)⟩ (by rw [xu_row (by decide), xu_row (by decide), xu_row (by decide), xu_row (by decide), z17 130 (by decide), z16 130 (by decide), z15 130 (by decide), z14 130 (by decide), z13 130 (by decide), z12 130 (by decide), z11 130 (by decide), z10 130 (by decide), z9 130 (by decide), z8 130 (by decide), z7 130 (by decide), z6 130 (by decide), z5 130 (by decide), z4 130 (by decide), z3 130 (by decide), z2 130 (by decide), y1 1 (by decide), xu_row (by decide), xu_row (by decide)]; exact hA.2.2.1 1 (by decide) (by decide)) (by rw [xu_row (by decide), xu_row (by decide), xu_row (by decide), xu_row (by decide), z17 130 (by decide), z16 130 (by decide), z15 130 (by decide), z14 130 (by decide), z13 130 (by decide), z12 130 (by decide), z11 130 (by decide), z10 130 (by decide), z9 130 (by decide), z8 130 (by decide), z7 130 (by decide), z6 130 (by decide), z5 130 (by decide), z4 130 (by decide), z3 130 (by decide), z2 130 (by decide), y1 2 (by decide), xu_row (by decide), xu_row (by decide)]; exact hA.2.2.1 2 (by decide) (by decide)) (hA.2.1 1 (by decide)) (hA.2.1 2 (by decide)))
    replace hr : RR nf xs d 11 false 3 (some .int) zt181 G r h' N (379, _, [], w, g1) := hr
    replace hr := hr.go (s_aload_n t181_379 rfl)
    replace hr := hr.go (s_getf t181_380)
    obtain ⟨rfl, hs⟩ := hr.iret t181_383
    have hw := fun (a : Nat) (ha : a < 150) => hq.1 a (Or.inl ha)
    have ew : w 128 = _ := hw 128 (by decide)
    have eh : ∀ a n : Nat, (a, n) ∈ ([(130, 9), (131, 6), (132, 6), (133, 6), (134, 6), (135, 6), (136, 6), (137, 6), (138, 6), (140, 5), (141, 5), (142, 3), (143, 3)] : List (Nat × Nat)) → ∀ j : Nat, j < n → w a j = m a (n + j) := by
      intro a n hm j hj
      simp only [List.mem_cons, Prod.mk.injEq, List.not_mem_nil, or_false] at hm
      rcases hm with ⟨rfl, rfl⟩ | ⟨rfl, rfl⟩ | ⟨rfl, rfl⟩ | ⟨rfl, rfl⟩ | ⟨rfl, rfl⟩ | ⟨rfl, rfl⟩ | ⟨rfl, rfl⟩ | ⟨rfl, rfl⟩ | ⟨rfl, rfl⟩ | ⟨rfl, rfl⟩ | ⟨rfl, rfl⟩ | ⟨rfl, rfl⟩ | ⟨rfl, rfl⟩
      · rw [hw 130 (by decide), xu_row (by decide), xu_row (by decide), xu_row (by decide), xu_row (by decide), z17 130 (by decide), z16 130 (by decide), z15 130 (by decide), z14 130 (by decide), z13 130 (by decide), z12 130 (by decide), z11 130 (by decide), z10 130 (by decide), z9 130 (by decide), z8 130 (by decide), z7 130 (by decide), z6 130 (by decide), z5 130 (by decide), z4 130 (by decide), z3 130 (by decide), z2 130 (by decide), y1 j hj, xu_row (by decide), xu_row (by decide)]
      · rw [hw 131 (by decide), xu_row (by decide), xu_row (by decide), xu_row (by decide), xu_row (by decide), z17 131 (by decide), z16 131 (by decide), z15 131 (by decide), z14 131 (by decide), z13 131 (by decide), z12 131 (by decide), z11 131 (by decide), z10 131 (by decide), z9 131 (by decide), z8 131 (by decide), z7 131 (by decide), z6 131 (by decide), z5 131 (by decide), z4 131 (by decide), z3 131 (by decide), y2 j hj, z1 131 (by decide), xu_row (by decide), xu_row (by decide)]
      · rw [hw 132 (by decide), xu_row (by decide), xu_row (by decide), xu_row (by decide), xu_row (by decide), z17 132 (by decide), z16 132 (by decide), z15 132 (by decide), z14 132 (by decide), z13 132 (by decide), z12 132 (by decide), z11 132 (by decide), z10 132 (by decide), z9 132 (by decide), z8 132 (by decide), z7 132 (by decide), z6 132 (by decide), z5 132 (by decide), z4 132 (by decide), y3 j hj, z2 132 (by decide), z1 132 (by decide), xu_row (by decide), xu_row (by decide)]
      · rw [hw 133 (by decide), xu_row (by decide), xu_row (by decide), xu_row (by decide), xu_row (by decide), z17 133 (by decide), z16 133 (by decide), z15 133 (by decide), z14 133 (by decide), z13 133 (by decide), z12 133 (by decide), z11 133 (by decide), z10 133 (by decide), z9 133 (by decide), z8 133 (by decide), z7 133 (by decide), z6 133 (by decide), z5 133 (by decide), y4 j hj, z3 133 (by decide), z2 133 (by decide), z1 133 (by decide), xu_row (by decide), xu_row (by decide)]
      · rw [hw 134 (by decide), xu_row (by decide), xu_row (by decide), xu_row (by decide), xu_row (by decide), z17 134 (by decide), z16 134 (by decide), z15 134 (by decide), z14 134 (by decide), z13 134 (by decide), z12 134 (by decide), z11 134 (by decide), z10 134 (by decide), z9 134 (by decide), z8 134 (by decide), z7 134 (by decide), z6 134 (by decide), y5 j hj, z4 134 (by decide), z3 134 (by decide), z2 134 (by decide), z1 134 (by decide), xu_row (by decide), xu_row (by decide)]
      · rw [hw 135 (by decide), xu_row (by decide), xu_row (by decide), xu_row (by decide), xu_row (by decide), z17 135 (by decide), z16 135 (by decide), z15 135 (by decide), z14 135 (by decide), z13 135 (by decide), z12 135 (by decide), z11 135 (by decide), z10 135 (by decide), z9 135 (by decide), z8 135 (by decide), z7 135 (by decide), y6 j hj, z5 135 (by decide), z4 135 (by decide), z3 135 (by decide), z2 135 (by decide), z1 135 (by decide), xu_row (by decide), xu_row (by decide)]
      · rw [hw 136 (by decide), xu_row (by decide), xu_row (by decide), xu_row (by decide), xu_row (by decide), z17 136 (by decide), z16 136 (by decide), z15 136 (by decide), z14 136 (by decide), z13 136 (by decide), z12 136 (by decide), z11 136 (by decide), z10 136 (by decide), z9 136 (by decide), z8 136 (by decide), y7 j hj, z6 136 (by decide), z5 136 (by decide), z4 136 (by decide), z3 136 (by decide), z2 136 (by decide), z1 136 (by decide), xu_row (by decide), xu_row (by decide)]
      · rw [hw 137 (by decide), xu_row (by decide), xu_row (by decide), xu_row (by decide), xu_row (by decide), z17 137 (by decide), z16 137 (by decide), z15 137 (by decide), z14 137 (by decide), z13 137 (by decide), z12 137 (by decide), z11 137 (by decide), z10 137 (by decide), z9 137 (by decide), y8 j hj, z7 137 (by decide), z6 137 (by decide), z5 137 (by decide), z4 137 (by decide), z3 137 (by decide), z2 137 (by decide), z1 137 (by decide), xu_row (by decide), xu_row (by decide)]
      · rw [hw 138 (by decide), xu_row (by decide), xu_row (by decide), xu_row (by decide), xu_row (by decide), z17 138 (by decide), z16 138 (by decide), z15 138 (by decide), z14 138 (by decide), z13 138 (by decide), z12 138 (by decide), z11 138 (by decide), z10 138 (by decide), y9 j hj, z8 138 (by decide), z7 138 (by decide), z6 138 (by decide), z5 138 (by decide), z4 138 (by decide), z3 138 (by decide), z2 138 (by decide), z1 138 (by decide), xu_row (by decide), xu_row (by decide)]
      · rw [hw 140 (by decide), xu_row (by decide), xu_row (by decide), xu_row (by decide), xu_row (by decide), z17 140 (by decide), z16 140 (by decide), z15 140 (by decide), z14 140 (by decide), z13 140 (by decide), z12 140 (by decide), z11 140 (by decide), y10 j hj, z9 140 (by decide), z8 140 (by decide), z7 140 (by decide), z6 140 (by decide), z5 140 (by decide), z4 140 (by decide), z3 140 (by decide), z2 140 (by decide), z1 140 (by decide), xu_row (by decide), xu_row (by decide)]
      · rw [hw 141 (by decide), xu_row (by decide), xu_row (by decide), xu_row (by decide), xu_row (by decide), z17 141 (by decide), z16 141 (by decide), z15 141 (by decide), z14 141 (by decide), z13 141 (by decide), z12 141 (by decide), y11 j hj, z10 141 (by decide), z9 141 (by decide), z8 141 (by decide), z7 141 (by decide), z6 141 (by decide), z5 141 (by decide), z4 141 (by decide), z3 141 (by decide), z2 141 (by decide), z1 141 (by decide), xu_row (by decide), xu_row (by decide)]
      · rw [hw 142 (by decide), xu_row (by decide), xu_row (by decide), xu_row (by decide), xu_row (by decide), z17 142 (by decide), z16 142 (by decide), z15 142 (by decide), z14 142 (by decide), z13 142 (by decide), y12 j hj, z11 142 (by decide), z10 142 (by decide), z9 142 (by decide), z8 142 (by decide), z7 142 (by decide), z6 142 (by decide), z5 142 (by decide), z4 142 (by decide), z3 142 (by decide), z2 142 (by decide), z1 142 (by decide), xu_row (by decide), xu_row (by decide)]
      · rw [hw 143 (by decide), xu_row (by decide), xu_row (by decide), xu_row (by decide), xu_row (by decide), z17 143 (by decide), z16 143 (by decide), z15 143 (by decide), z14 143 (by decide), y13 j hj, z12 143 (by decide), z11 143 (by decide), z10 143 (by decide), z9 143 (by decide), z8 143 (by decide), z7 143 (by decide), z6 143 (by decide), z5 143 (by decide), z4 143 (by decide), z3 143 (by decide), z2 143 (by decide), z1 143 (by decide), xu_row (by decide), xu_row (by decide)]
    have hTB : TB s.1 w := by
      refine ⟨hA.2.1, fun u u1 u2 => (eh 130 9 (by decide) u (by omega)).trans (hA.2.2.1 u u1 u2), fun u hu r hr2 c hc => ?_, fun u hu => (eh 130 9 (by decide) u (by omega)).trans (hA.2.2.2.2.1 u hu).1⟩
      refine Eq.trans (eh (ar u c) (bs u) ?_ r ?_) (hA.2.2.2.1 u hu r hr2 c hc)
      · rcases hu with rfl | rfl | rfl | rfl
        · have hc : c < 5 := hc
          rcases (show c = 0 ∨ c = 1 ∨ c = 2 ∨ c = 3 ∨ c = 4 by omega) with rfl | rfl | rfl | rfl | rfl <;> decide
        · have hc : c < 3 := hc
          rcases (show c = 0 ∨ c = 1 ∨ c = 2 by omega) with rfl | rfl | rfl <;> decide
        · have hc : c < 2 := hc
          rcases (show c = 0 ∨ c = 1 by omega) with rfl | rfl <;> decide
        · have hc : c < 2 := hc
          rcases (show c = 0 ∨ c = 1 by omega) with rfl | rfl <;> decide
      · rcases hu with rfl | rfl | rfl | rfl
        · exact Nat.lt_of_lt_of_le hr2 (hA.2.1 1 (by decide))
        · exact Nat.lt_of_lt_of_le hr2 (hA.2.1 2 (by decide))
        · exact Nat.lt_of_lt_of_le hr2 (hA.2.1 4 (by decide))
        · exact Nat.lt_of_lt_of_le hr2 (hA.2.1 5 (by decide))
    have hTS : TS s.1 w g1 := by
      refine ⟨hq.2.2.1, hq.2.2.2.1, hq.2.2.2.2.1, fun p hp => ?_, fun j hj v hv => ?_⟩
      · have l1 : (s.1 1).length ≤ 6 := hA.2.1 1 (by decide)
        rw [hq.2.2.2.2.2.1 p (by omega)]
        unfold bSe
        rw [if_pos hp, ← hw 134 (by decide)]
        exact hTB.2.2.1 1 (Or.inl rfl) p hp 3 (by decide)
      · have l2 : (s.1 2).length ≤ 6 := hA.2.1 2 (by decide)
        have e := hq.2.2.2.2.2.2 j (by omega)
        unfold bTe at e
        rw [if_pos hj] at e
        rw [e]
        have hj6 : j < 6 := by omega
        clear e hj
        rcases (show j = 0 ∨ j = 1 ∨ j = 2 ∨ j = 3 ∨ j = 4 ∨ j = 5 by omega) with rfl | rfl | rfl | rfl | rfl | rfl
        all_goals (
          repeat (first | rw [xu_same] | rw [xu_oth (by decide)])
          exact hA.2.2.2.2.2.2 _ hj6 v hv)
    refine ⟨_, _, hs, ?_, ?_, ?_, hTB, ⟨?_, ?_, ?_, ?_⟩, hTS⟩
    · rw [ew, xu_oth (by decide), xu_oth (by decide), xu_oth (by decide), xu_oth (by decide), e17, xu_oth (by decide), xu_oth (by decide)]
    · rw [ew, xu_oth (by decide), xu_oth (by decide), xu_oth (by decide), xu_oth (by decide), e17, xu_oth (by decide), xu_same]; exact h.1
    · rw [ew, xu_oth (by decide), xu_oth (by decide), xu_oth (by decide), xu_oth (by decide), e17, xu_same, xu_oth (by decide)]; exact h.2.2.2.2.2.2
    all_goals (rw [ew]; repeat (first | exact xu_same | rw [xu_oth (by decide)]))
  · exact absurd ((xu_oth (by decide)).trans ((xu_oth (by decide)).trans h.1)) b202
theorem lp181 {nf : Bool} {xs : List Int32} {d : Nat} {G : xG} {r : Option Value} {h' : zH} {B : eB} {x y : Int32} (hG : GT G) (hE : EV B) : ∀ (N q : Nat) (s : eS) (m : xM) (g : xL), AR B s m g → m 128 22 = Int32.ofNat q → RR nf xs d 11 false 3 (some .int) zt181 G r h' N (160, [(2, .int y), (0, .ref 128), (1, .int x)], [], m, g) → ∃ (m' : xM) (g' : xL), HS h' m' g' G ∧ TE B s q m g r m' g' := by
  intro N
  induction N with
  | zero => intro q s m g _ _ hr; exact hr.no.elim
  | succ N ih =>
    intro q s m g hA h22 hr
    have tr : TR (tK B s.2.2.2) (tV B s.2.2.2) (m 128 26) (m 128 27) := hA.1.2.1.2.2.2.2
    replace hr := hr.go1 (s_aload_n t181_160 rfl)
    replace hr := hr.go (s_getf t181_161)
    rcases hr.zNe t181_164 with ⟨b164, hr⟩ | ⟨b164, hr⟩
    · exact absurd hA.1.1 b164
    · replace hr := hr.go (s_aload_n t181_167 rfl)
      replace hr := hr.go (s_getf t181_168)
      replace hr := hr.go (s_k t181_171)
      rcases hr.bEq t181_172 with ⟨b172, hr⟩ | ⟨b172, hr⟩
      · obtain ⟨m', g', hs, h1, h2⟩ := en181G hG hA hr
        exact ⟨m', g', hs, 1, .inr (s, q), lns_e ((tr_end tr).mp b172), by rw [h1, h22], h2⟩
      · replace hr := hr.go (s_aload_n t181_175 rfl)
        have hk0 : ¬ tK B s.2.2.2 = 0 := fun q => b172 ((tr_end tr).mpr q)
        obtain ⟨_, m1, g1, ⟨rfl, ⟨hFM, hFG⟩, hp⟩, hr⟩ := hr.callv t181_176 rfl rfl (ct_lineR hG.1 hE hA)
        replace hr : RR nf xs d 11 false 3 (some .int) zt181 G r h' N (179, [(2, .int y), (0, .ref 128), (1, .int x)], [], m1, g1) := hr
        replace hr := hr.go (s_goto t181_179)
        split at hp
        · next e he =>
          replace hr := hr.go (s_aload_n t181_160 rfl)
          replace hr := hr.go (s_getf t181_161)
          rcases hr.zNe t181_164 with ⟨b, hr⟩ | ⟨b, hr⟩
          · obtain ⟨m', g', hs, h1, h2, h3, h4, h5⟩ := en181F hp hr
            exact ⟨m', g', hs, 1, .inl e, lns_1 hk0 he, h1, h2, h3, hFM.tr h4, hFG.tr h5⟩
          · exact absurd b hp.2.1
        · next s' he =>
          obtain ⟨m', g', hs, f, oo, h1, h2⟩ := ih (q + 1) s' m1 g1 hp.1 (by rw [hp.2, h22]; exact xn_1) hr
          refine ⟨m', g', hs, f + 1, oo, (lns_2 hk0 he).trans h1, ?_⟩
          cases oo with
          | inl e => exact ⟨h2.1, h2.2.1, h2.2.2.1, hFM.tr h2.2.2.2.1, hFG.tr h2.2.2.2.2⟩
          | inr p => exact h2
theorem ct_textR {nf : Bool} {xs : List Int32} {d : Nat} {m : xM} {g : xL} {G : xG} {x : Int32} {wd : Nat → Int32} {len : Nat} (hG : GT G) (hw : WD wd) (hlen : m 128 2 = Int32.ofNat len) (hl : len ≤ 700) (hb0 : ∀ i : Nat, i < 700 → 0 ≤ (m 129 i).toInt) (hb1 : ∀ i : Nat, i < 700 → (m 129 i).toInt < 256) : CT nf xs d 181 [.ref 128, .int x] m g G (fun r m' g' => (x.toInt < 0 ∨ (len : Int) < x.toInt) ∧ r = some (.int (-2)) ∧ m' 128 30 = m 128 30 ∧ m' 128 31 = m 128 31 ∧ FM m m' ∧ FG g g' ∨ ∃ n : Nat, x = Int32.ofNat n ∧ n ≤ len ∧ TE (m 129, wd, n) eS0 0 m g r m' g') := by
  refine CT.of (c := 11) (ini := false) (nL := 3) (rt := some .int) (tab := zt181) rfl (fun d' r h' N hd' hr => ?_)
  replace hr : RR nf xs d' 11 false 3 (some .int) zt181 G r h' N (0, [(0, .ref 128), (1, .int x)], [], m, g) := hr
  have ql : (Int32.ofNat len).toInt = (len : Int) := xn_int (by omega)
  have bad : (x.toInt < 0 ∨ (len : Int) < x.toInt) → ∀ N : Nat, RR nf xs d' 11 false 3 (some .int) zt181 G r h' N (17, [(0, .ref 128), (1, .int x)], [], xu m 128 0 0, g) → ∃ (m' : xM) (g' : xL), HS h' m' g' G ∧ ((x.toInt < 0 ∨ (len : Int) < x.toInt) ∧ r = some (.int (-2)) ∧ m' 128 30 = m 128 30 ∧ m' 128 31 = m 128 31 ∧ FM m m' ∧ FG g g' ∨ ∃ n : Nat, x = Int32.ofNat n ∧ n ≤ len ∧ TE (m 129, wd, n) eS0 0 m g r m' g') := by
    intro hx N hr
    replace hr := hr.go (s_k t181_17)
    obtain ⟨rfl, hs⟩ := hr.iret t181_19
    exact ⟨_, _, hs, Or.inl ⟨hx, rfl, xu_oth (by decide), xu_oth (by decide), FM.x128 FM.rf (by decide), FG.rf⟩⟩
  replace hr := hr.go (s_aload_n t181_0 rfl)
  replace hr := hr.go (s_k t181_1)
  replace hr := hr.go (s_putf t181_2)
  replace hr := hr.go (s_iload_n t181_5 rfl)
  rcases hr.zLt t181_6 with ⟨b6, hr⟩ | ⟨b6, hr⟩
  · exact bad (Or.inl b6) _ hr
  · have hl2 : (xu m 128 0 0 128 2).toInt = (len : Int) := by rw [xu_oth (by decide), hlen, ql]
    replace hr := hr.go (s_iload_n t181_9 rfl)
    replace hr := hr.go (s_aload_n t181_10 rfl)
    replace hr := hr.go (s_getf t181_11)
    rcases hr.bLe t181_14 with ⟨b14, hr⟩ | ⟨b14, hr⟩
    · have hx0 : x.toNatClampNeg ≤ len := by rw [hl2] at b14; rw [Int32.toNatClampNeg]; omega
      obtain ⟨n, hxn, hn⟩ : ∃ n : Nat, x = Int32.ofNat n ∧ n ≤ len := ⟨_, xn_of b6, hx0⟩
      have hE : EV (m 129, wd, n) := ⟨by show n ≤ 700; omega, hw, fun i hi => hb0 i (by have hi : i < n := hi; omega), fun i hi => hb1 i (by have hi : i < n := hi; omega)⟩
      replace hr := hr.go (s_aload_n t181_20 rfl)
      replace hr := hr.go (s_iload_n t181_21 rfl)
      replace hr := hr.go (s_putf t181_22)
      replace hr := hr.go (s_aload_n t181_25 rfl)
      replace hr := hr.go (s_k t181_26)
      replace hr := hr.go (s_putf t181_27)
      replace hr := hr.go (s_aload_n t181_30 rfl)
      replace hr := hr.go (s_k t181_31)
      replace hr := hr.go (s_putf t181_32)
      replace hr := hr.go (s_aload_n t181_35 rfl)
      replace hr := hr.go (s_k t181_36)
      replace hr := hr.go (s_putf t181_37)
      replace hr := hr.go (s_aload_n t181_40 rfl)
      replace hr := hr.go (s_k t181_41)
      replace hr := hr.go (s_putf t181_42)
      replace hr := hr.go (s_k t181_45)
      replace hr := hr.go (s_istore_n (ls' := [(2, _), (0, _), (1, _)]) t181_46 rfl)
      replace hr := hr.go (s_iload_n t181_47 rfl)
      replace hr := hr.go (s_k t181_48)
      replace hr := hr.brF t181_50 (by decide)
      replace hr := hr.go (s_aload_n t181_53 rfl)
      replace hr := hr.go (s_iload_n t181_54 rfl)
      replace hr := hr.go (s_iload_n t181_55 rfl)
      replace hr := hr.bzF t181_56 (by decide)
      replace hr := hr.go (s_k t181_59)
      replace hr := hr.go (s_goto t181_61)
      replace hr := hr.cvN t181_75 rfl rfl (ct_reads hG.1.2.1.1)
      replace hr := hr.go (s_iinc (ls' := [(2, .int 1), (0, _), (1, _)]) t181_78 rfl rfl)
      replace hr := hr.go (s_goto t181_81)
      replace hr := hr.go (s_iload_n t181_47 rfl)
      replace hr := hr.go (s_k t181_48)
      replace hr := hr.brF t181_50 (by decide)
      replace hr := hr.go (s_aload_n t181_53 rfl)
      replace hr := hr.go (s_iload_n t181_54 rfl)
      replace hr := hr.go (s_iload_n t181_55 rfl)
      replace hr := hr.bzT t181_56 (by decide)
      replace hr := hr.go (s_iload_n t181_64 rfl)
      replace hr := hr.go (s_k t181_65)
      replace hr := hr.brT t181_67 (by decide)
      replace hr := hr.go (s_k t181_74)
      replace hr := hr.cvN t181_75 rfl rfl (ct_reads hG.1.2.1.1)
      replace hr := hr.go (s_iinc (ls' := [(2, .int 2), (0, _), (1, _)]) t181_78 rfl rfl)
      replace hr := hr.go (s_goto t181_81)
      replace hr := hr.go (s_iload_n t181_47 rfl)
      replace hr := hr.go (s_k t181_48)
      replace hr := hr.brF t181_50 (by decide)
      replace hr := hr.go (s_aload_n t181_53 rfl)
      replace hr := hr.go (s_iload_n t181_54 rfl)
      replace hr := hr.go (s_iload_n t181_55 rfl)
      replace hr := hr.bzT t181_56 (by decide)
      replace hr := hr.go (s_iload_n t181_64 rfl)
      replace hr := hr.go (s_k t181_65)
      replace hr := hr.brT t181_67 (by decide)
      replace hr := hr.go (s_k t181_74)
      replace hr := hr.cvN t181_75 rfl rfl (ct_reads hG.1.2.1.1)
      replace hr := hr.go (s_iinc (ls' := [(2, .int 3), (0, _), (1, _)]) t181_78 rfl rfl)
      replace hr := hr.go (s_goto t181_81)
      replace hr := hr.go (s_iload_n t181_47 rfl)
      replace hr := hr.go (s_k t181_48)
      replace hr := hr.brF t181_50 (by decide)
      replace hr := hr.go (s_aload_n t181_53 rfl)
      replace hr := hr.go (s_iload_n t181_54 rfl)
      replace hr := hr.go (s_iload_n t181_55 rfl)
      replace hr := hr.bzT t181_56 (by decide)
      replace hr := hr.go (s_iload_n t181_64 rfl)
      replace hr := hr.go (s_k t181_65)
      replace hr := hr.brT t181_67 (by decide)
      replace hr := hr.go (s_k t181_74)
      replace hr := hr.cvN t181_75 rfl rfl (ct_reads hG.1.2.1.1)
      replace hr := hr.go (s_iinc (ls' := [(2, .int 4), (0, _), (1, _)]) t181_78 rfl rfl)
      replace hr := hr.go (s_goto t181_81)
      replace hr := hr.go (s_iload_n t181_47 rfl)
      replace hr := hr.go (s_k t181_48)
      replace hr := hr.brF t181_50 (by decide)
      replace hr := hr.go (s_aload_n t181_53 rfl)
      replace hr := hr.go (s_iload_n t181_54 rfl)
      replace hr := hr.go (s_iload_n t181_55 rfl)
      replace hr := hr.bzT t181_56 (by decide)
      replace hr := hr.go (s_iload_n t181_64 rfl)
      replace hr := hr.go (s_k t181_65)
      replace hr := hr.brT t181_67 (by decide)
      replace hr := hr.go (s_k t181_74)
      replace hr := hr.cvN t181_75 rfl rfl (ct_reads hG.1.2.1.1)
      replace hr := hr.go (s_iinc (ls' := [(2, .int 5), (0, _), (1, _)]) t181_78 rfl rfl)
      replace hr := hr.go (s_goto t181_81)
      replace hr := hr.go (s_iload_n t181_47 rfl)
      replace hr := hr.go (s_k t181_48)
      replace hr := hr.brF t181_50 (by decide)
      replace hr := hr.go (s_aload_n t181_53 rfl)
      replace hr := hr.go (s_iload_n t181_54 rfl)
      replace hr := hr.go (s_iload_n t181_55 rfl)
      replace hr := hr.bzT t181_56 (by decide)
      replace hr := hr.go (s_iload_n t181_64 rfl)
      replace hr := hr.go (s_k t181_65)
      replace hr := hr.brT t181_67 (by decide)
      replace hr := hr.go (s_k t181_74)
      replace hr := hr.cvN t181_75 rfl rfl (ct_reads hG.1.2.1.1)
      replace hr := hr.go (s_iinc (ls' := [(2, .int 6), (0, _), (1, _)]) t181_78 rfl rfl)
      replace hr := hr.go (s_goto t181_81)
      replace hr := hr.go (s_iload_n t181_47 rfl)
      replace hr := hr.go (s_k t181_48)
      replace hr := hr.brF t181_50 (by decide)
      replace hr := hr.go (s_aload_n t181_53 rfl)
      replace hr := hr.go (s_iload_n t181_54 rfl)
      replace hr := hr.go (s_iload_n t181_55 rfl)
      replace hr := hr.bzT t181_56 (by decide)
      replace hr := hr.go (s_iload_n t181_64 rfl)
      replace hr := hr.go (s_k t181_65)
      replace hr := hr.brF t181_67 (by decide)
      replace hr := hr.go (s_k t181_70)
      replace hr := hr.go (s_goto t181_71)
      replace hr := hr.cvN t181_75 rfl rfl (ct_reads hG.1.2.1.1)
      replace hr := hr.go (s_iinc (ls' := [(2, .int 7), (0, _), (1, _)]) t181_78 rfl rfl)
      replace hr := hr.go (s_goto t181_81)
      replace hr := hr.go (s_iload_n t181_47 rfl)
      replace hr := hr.go (s_k t181_48)
      replace hr := hr.brF t181_50 (by decide)
      replace hr := hr.go (s_aload_n t181_53 rfl)
      replace hr := hr.go (s_iload_n t181_54 rfl)
      replace hr := hr.go (s_iload_n t181_55 rfl)
      replace hr := hr.bzT t181_56 (by decide)
      replace hr := hr.go (s_iload_n t181_64 rfl)
      replace hr := hr.go (s_k t181_65)
      replace hr := hr.brT t181_67 (by decide)
      replace hr := hr.go (s_k t181_74)
      replace hr := hr.cvN t181_75 rfl rfl (ct_reads hG.1.2.1.1)
      replace hr := hr.go (s_iinc (ls' := [(2, .int 8), (0, _), (1, _)]) t181_78 rfl rfl)
      replace hr := hr.go (s_goto t181_81)
      replace hr := hr.go (s_iload_n t181_47 rfl)
      replace hr := hr.go (s_k t181_48)
      replace hr := hr.brF t181_50 (by decide)
      replace hr := hr.go (s_aload_n t181_53 rfl)
      replace hr := hr.go (s_iload_n t181_54 rfl)
      replace hr := hr.go (s_iload_n t181_55 rfl)
      replace hr := hr.bzT t181_56 (by decide)
      replace hr := hr.go (s_iload_n t181_64 rfl)
      replace hr := hr.go (s_k t181_65)
      replace hr := hr.brT t181_67 (by decide)
      replace hr := hr.go (s_k t181_74)
      replace hr := hr.cvN t181_75 rfl rfl (ct_reads hG.1.2.1.1)
      replace hr := hr.go (s_iinc (ls' := [(2, .int 9), (0, _), (1, _)]) t181_78 rfl rfl)
      replace hr := hr.go (s_goto t181_81)
      replace hr := hr.go (s_iload_n t181_47 rfl)
      replace hr := hr.go (s_k t181_48)
      replace hr := hr.brT t181_50 (by decide)
      replace hr := hr.go (s_k t181_84)
      replace hr := hr.go (s_istore_n (ls' := [(2, _), (0, _), (1, _)]) t181_85 rfl)
      replace hr := hr.go (s_iload_n t181_86 rfl)
      replace hr := hr.go (s_k t181_87)
      replace hr := hr.brF t181_89 (by decide)
      replace hr := hr.go (s_aload_n t181_92 rfl)
      replace hr := hr.go (s_getr t181_93 (hG.1.2.2.1 12 (by decide) (by decide)))
      replace hr := hr.go (s_k t181_96)
      replace hr := hr.go (s_iload_n t181_98 rfl)
      replace hr := hr.go (s_iadd t181_99)
      replace hr := hr.go (s_lconst t181_100)
      replace hr := hr.go (s_lastore t181_101)
      replace hr := hr.go (s_iinc (ls' := [(2, .int 1), (0, _), (1, _)]) t181_102 rfl rfl)
      replace hr := hr.go (s_goto t181_105)
      replace hr := hr.go (s_iload_n t181_86 rfl)
      replace hr := hr.go (s_k t181_87)
      replace hr := hr.brF t181_89 (by decide)
      replace hr := hr.go (s_aload_n t181_92 rfl)
      replace hr := hr.go (s_getr t181_93 (hG.1.2.2.1 12 (by decide) (by decide)))
      replace hr := hr.go (s_k t181_96)
      replace hr := hr.go (s_iload_n t181_98 rfl)
      replace hr := hr.go (s_iadd t181_99)
      replace hr := hr.go (s_lconst t181_100)
      replace hr := hr.go (s_lastore t181_101)
      replace hr := hr.go (s_iinc (ls' := [(2, .int 2), (0, _), (1, _)]) t181_102 rfl rfl)
      replace hr := hr.go (s_goto t181_105)
      replace hr := hr.go (s_iload_n t181_86 rfl)
      replace hr := hr.go (s_k t181_87)
      replace hr := hr.brF t181_89 (by decide)
      replace hr := hr.go (s_aload_n t181_92 rfl)
      replace hr := hr.go (s_getr t181_93 (hG.1.2.2.1 12 (by decide) (by decide)))
      replace hr := hr.go (s_k t181_96)
      replace hr := hr.go (s_iload_n t181_98 rfl)
      replace hr := hr.go (s_iadd t181_99)
      replace hr := hr.go (s_lconst t181_100)
      replace hr := hr.go (s_lastore t181_101)
      replace hr := hr.go (s_iinc (ls' := [(2, .int 3), (0, _), (1, _)]) t181_102 rfl rfl)
      replace hr := hr.go (s_goto t181_105)
      replace hr := hr.go (s_iload_n t181_86 rfl)
      replace hr := hr.go (s_k t181_87)
      replace hr := hr.brF t181_89 (by decide)
      replace hr := hr.go (s_aload_n t181_92 rfl)
      replace hr := hr.go (s_getr t181_93 (hG.1.2.2.1 12 (by decide) (by decide)))
      replace hr := hr.go (s_k t181_96)
      replace hr := hr.go (s_iload_n t181_98 rfl)
      replace hr := hr.go (s_iadd t181_99)
      replace hr := hr.go (s_lconst t181_100)
      replace hr := hr.go (s_lastore t181_101)
      replace hr := hr.go (s_iinc (ls' := [(2, .int 4), (0, _), (1, _)]) t181_102 rfl rfl)
      replace hr := hr.go (s_goto t181_105)
      replace hr := hr.go (s_iload_n t181_86 rfl)
      replace hr := hr.go (s_k t181_87)
      replace hr := hr.brF t181_89 (by decide)
      replace hr := hr.go (s_aload_n t181_92 rfl)
      replace hr := hr.go (s_getr t181_93 (hG.1.2.2.1 12 (by decide) (by decide)))
      replace hr := hr.go (s_k t181_96)
      replace hr := hr.go (s_iload_n t181_98 rfl)
      replace hr := hr.go (s_iadd t181_99)
      replace hr := hr.go (s_lconst t181_100)
      replace hr := hr.go (s_lastore t181_101)
      replace hr := hr.go (s_iinc (ls' := [(2, .int 5), (0, _), (1, _)]) t181_102 rfl rfl)
      replace hr := hr.go (s_goto t181_105)
      replace hr := hr.go (s_iload_n t181_86 rfl)
      replace hr := hr.go (s_k t181_87)
      replace hr := hr.brF t181_89 (by decide)
      replace hr := hr.go (s_aload_n t181_92 rfl)
      replace hr := hr.go (s_getr t181_93 (hG.1.2.2.1 12 (by decide) (by decide)))
      replace hr := hr.go (s_k t181_96)
      replace hr := hr.go (s_iload_n t181_98 rfl)
      replace hr := hr.go (s_iadd t181_99)
      replace hr := hr.go (s_lconst t181_100)
      replace hr := hr.go (s_lastore t181_101)
      replace hr := hr.go (s_iinc (ls' := [(2, .int 6), (0, _), (1, _)]) t181_102 rfl rfl)
      replace hr := hr.go (s_goto t181_105)
      replace hr := hr.go (s_iload_n t181_86 rfl)
      replace hr := hr.go (s_k t181_87)
      replace hr := hr.brT t181_89 (by decide)
      replace hr := hr.go (s_k t181_108)
      replace hr := hr.go (s_istore_n (ls' := [(2, _), (0, _), (1, _)]) t181_109 rfl)
      replace hr := hr.go (s_iload_n t181_110 rfl)
      replace hr := hr.go (s_k t181_111)
      replace hr := hr.brF t181_113 (by decide)
      replace hr := hr.go (s_aload_n t181_116 rfl)
      replace hr := hr.go (s_getr t181_117 (hG.1.2.2.1 17 (by decide) (by decide)))
      replace hr := hr.go (s_iload_n t181_120 rfl)
      replace hr := hr.go (s_k t181_121)
      replace hr := hr.go (s_iastore t181_122)
      replace hr := hr.go (s_aload_n t181_123 rfl)
      replace hr := hr.go (s_getr t181_124 (hG.1.2.2.1 18 (by decide) (by decide)))
      replace hr := hr.go (s_iload_n t181_127 rfl)
      replace hr := hr.go (s_k t181_128)
      replace hr := hr.go (s_iastore t181_129)
      replace hr := hr.go (s_iinc (ls' := [(2, .int 4), (0, _), (1, _)]) t181_130 rfl rfl)
      replace hr := hr.go (s_goto t181_133)
      replace hr := hr.go (s_iload_n t181_110 rfl)
      replace hr := hr.go (s_k t181_111)
      replace hr := hr.brF t181_113 (by decide)
      replace hr := hr.go (s_aload_n t181_116 rfl)
      replace hr := hr.go (s_getr t181_117 (hG.1.2.2.1 17 (by decide) (by decide)))
      replace hr := hr.go (s_iload_n t181_120 rfl)
      replace hr := hr.go (s_k t181_121)
      replace hr := hr.go (s_iastore t181_122)
      replace hr := hr.go (s_aload_n t181_123 rfl)
      replace hr := hr.go (s_getr t181_124 (hG.1.2.2.1 18 (by decide) (by decide)))
      replace hr := hr.go (s_iload_n t181_127 rfl)
      replace hr := hr.go (s_k t181_128)
      replace hr := hr.go (s_iastore t181_129)
      replace hr := hr.go (s_iinc (ls' := [(2, .int 5), (0, _), (1, _)]) t181_130 rfl rfl)
      replace hr := hr.go (s_goto t181_133)
      replace hr := hr.go (s_iload_n t181_110 rfl)
      replace hr := hr.go (s_k t181_111)
      replace hr := hr.brF t181_113 (by decide)
      replace hr := hr.go (s_aload_n t181_116 rfl)
      replace hr := hr.go (s_getr t181_117 (hG.1.2.2.1 17 (by decide) (by decide)))
      replace hr := hr.go (s_iload_n t181_120 rfl)
      replace hr := hr.go (s_k t181_121)
      replace hr := hr.go (s_iastore t181_122)
      replace hr := hr.go (s_aload_n t181_123 rfl)
      replace hr := hr.go (s_getr t181_124 (hG.1.2.2.1 18 (by decide) (by decide)))
      replace hr := hr.go (s_iload_n t181_127 rfl)
      replace hr := hr.go (s_k t181_128)
      replace hr := hr.go (s_iastore t181_129)
      replace hr := hr.go (s_iinc (ls' := [(2, .int 6), (0, _), (1, _)]) t181_130 rfl rfl)
      replace hr := hr.go (s_goto t181_133)
      replace hr := hr.go (s_iload_n t181_110 rfl)
      replace hr := hr.go (s_k t181_111)
      replace hr := hr.brT t181_113 (by decide)
      replace hr := hr.go (s_aload_n t181_136 rfl)
      replace hr := hr.go (s_k t181_137)
      replace hr := hr.go (s_putf t181_138)
      replace hr := hr.go (s_aload_n t181_141 rfl)
      replace hr := hr.go (s_k t181_142)
      replace hr := hr.go (s_putf t181_143)
      replace hr := hr.go (s_aload_n t181_146 rfl)
      replace hr := hr.go (s_k t181_147)
      replace hr := hr.go (s_putf t181_148)
      replace hr := hr.go (s_aload_n t181_151 rfl)
      replace hr := hr.go (s_k t181_152)
      replace hr := hr.go (s_putf t181_153)
      replace hr := hr.go (s_aload_n t181_156 rfl)
      obtain ⟨m2, ⟨q1, q2, q3⟩, hr⟩ := hr.fvN t181_157 rfl rfl (ct_tokP (B := (m 129, wd, n)) (i := 0) hG.1.1 hE (by repeat rw [xu_row (by decide)]) (by show _ = Int32.ofNat n; rw [← hxn]; repeat (first | exact xu_same | rw [xu_oth (by decide)] | rw [xu_row (by decide)])) (by show _ = Int32.ofNat 0; repeat (first | exact xu_same | rw [xu_oth (by decide)] | rw [xu_row (by decide)])))
      skip
      have hA : ∀ g1 : xL, (∀ j : Nat, j < 6 → g1 139 (6 + j) = 0) → AR (m 129, wd, n) eS0 m2 g1 := by
        intro g1 hg1
        have r130 : m2 130 = _ := q2 130 (by decide)
        refine ⟨⟨?_, q1, ?_, by decide, ?_, by decide, ?_⟩, fun w hw2 => Nat.zero_le _, fun w w1 w2 => ?_, fun w _ r hr2 => absurd hr2 (Nat.not_lt_zero r), fun w hw2 => ⟨?_, ?_⟩, fun k hk => ?_, fun j hj v hv => ?_⟩
        · rw [q3 28 (by decide)]; repeat (first | exact xu_same | rw [xu_oth (by decide)] | rw [xu_row (by decide)])
        · rw [q3 33 (by decide)]; repeat (first | exact xu_same | rw [xu_oth (by decide)] | rw [xu_row (by decide)])
        · rw [q3 32 (by decide)]; repeat (first | exact xu_same | rw [xu_oth (by decide)] | rw [xu_row (by decide)])
        · rw [q3 29 (by decide)]; repeat (first | exact xu_same | rw [xu_oth (by decide)] | rw [xu_row (by decide)])
        · rw [r130]
          rcases (show w = 1 ∨ w = 2 ∨ w = 3 ∨ w = 4 ∨ w = 5 by omega) with rfl | rfl | rfl | rfl | rfl
          all_goals (repeat (first | exact xu_same | rw [xu_oth (by decide)] | rw [xu_row (by decide)]))
        · rw [r130]
          rcases hw2 with rfl | rfl | rfl
          all_goals (repeat (first | exact xu_same | rw [xu_oth (by decide)] | rw [xu_row (by decide)]))
        · rw [q3 21 (by decide)]
          have e21 : ∀ z : Int32, z = 0 → bj z w = false := fun z hz => by rw [hz]; exact BitVec.getLsbD_zero
          rw [e21 _ (by repeat (first | exact xu_same | rw [xu_oth (by decide)] | rw [xu_row (by decide)]))]
          rfl
        · rw [q3 21 (by decide)]
          have e21 : ∀ z : Int32, z = 0 → bj z (16 + k) = false := fun z hz => by rw [hz]; exact BitVec.getLsbD_zero
          rw [e21 _ (by repeat (first | exact xu_same | rw [xu_oth (by decide)] | rw [xu_row (by decide)]))]
          rfl
        · rw [hg1 j hj, bl_0]; rfl
      have h22 : m2 128 22 = Int32.ofNat 0 := by rw [q3 22 (by decide)]; repeat (first | exact xu_same | rw [xu_oth (by decide)] | rw [xu_row (by decide)])
      obtain ⟨m', g', hs, hte⟩ := lp181 hG hE _ 0 eS0 m2 _ (hA _ (by intro j hj; rcases (show j = 0 ∨ j = 1 ∨ j = 2 ∨ j = 3 ∨ j = 4 ∨ j = 5 by omega) with rfl | rfl | rfl | rfl | rfl | rfl; all_goals (repeat (first | exact xu_same | rw [xu_oth (by decide)])))) h22 hr
      have hF0 : FM m m2 := FM.er q2 (fun k hk => q3 k (by omega)) (by repeat (first | refine FM.x128 ?_ (by decide) | refine FM.x130 ?_ (by decide) | refine FM.xr ?_ (by unfold fhq fhp; omega) | exact FM.rf))
      refine ⟨m', g', hs, Or.inr ⟨n, hxn, hn, ?_⟩⟩
      obtain ⟨f, oo, h1, h2⟩ := hte
      refine ⟨f, oo, h1, ?_⟩
      cases oo with
      | inl e =>
        refine ⟨h2.1, h2.2.1, h2.2.2.1, hF0.tr h2.2.2.2.1, FG.tr (fun a j ha => ?_) h2.2.2.2.2⟩
        by_cases e : a = 139
        · subst e
          have ha := ha rfl
          rcases (show j = 0 ∨ j = 1 ∨ j = 2 ∨ j = 3 ∨ j = 4 ∨ j = 5 by omega) with rfl | rfl | rfl | rfl | rfl | rfl
          all_goals (repeat (first | rfl | rw [xu_oth (by decide)]))
        · repeat rw [xu_row (show ¬ a = 127 + 12 by omega)]
      | inr p => exact h2
    · exact bad (Or.inr (by rw [hl2] at b14; omega)) _ hr
