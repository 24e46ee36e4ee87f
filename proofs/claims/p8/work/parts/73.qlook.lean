/-! What the rules look up. -/
theorem qun {s c : Nat} (chk : (List.range qW.1.length).all (fun a => !Nat.beq (asrt qW a) s || Nat.beq a c) = true) {a : Nat} (ha : a < qW.1.length) (hs : (asrt qW a : Int) = (s : Int)) : a = c := by
  have h1 := List.all_eq_true.mp chk a (List.mem_range.mpr ha)
  have e : asrt qW a = s := by omega
  rw [e, Nat.beq_refl] at h1
  exact Nat.eq_of_beq_eq_true (by simpa using h1)
theorem qun2 {a : Nat} (ha : a < qW.1.length) (hs : (asrt qW a : Int) = ((2 : Nat) : Int)) : a = 2 := qun (by decide +kernel) ha hs
theorem qun6 {a : Nat} (ha : a < qW.1.length) (hs : (asrt qW a : Int) = ((6 : Nat) : Int)) : a = 6 := qun (by decide +kernel) ha hs
theorem qun49 {a : Nat} (ha : a < qW.1.length) (hs : (asrt qW a : Int) = ((49 : Nat) : Int)) : a = 128 := qun (by decide +kernel) ha hs
theorem qun51 {a : Nat} (ha : a < qW.1.length) (hs : (asrt qW a : Int) = ((51 : Nat) : Int)) : a = 130 := qun (by decide +kernel) ha hs
theorem qun65 {a : Nat} (ha : a < qW.1.length) (hs : (asrt qW a : Int) = ((65 : Nat) : Int)) : a = 144 := qun (by decide +kernel) ha hs
theorem qun66 {a : Nat} (ha : a < qW.1.length) (hs : (asrt qW a : Int) = ((66 : Nat) : Int)) : a = 145 := qun (by decide +kernel) ha hs
theorem qun67 {a : Nat} (ha : a < qW.1.length) (hs : (asrt qW a : Int) = ((67 : Nat) : Int)) : a = 146 := qun (by decide +kernel) ha hs
theorem qun68 {a : Nat} (ha : a < qW.1.length) (hs : (asrt qW a : Int) = ((68 : Nat) : Int)) : a = 147 := qun (by decide +kernel) ha hs
theorem qG_off {a k : Nat} {h : zH} (h2 : ¬ a = 2) (h3 : ¬ a = 128) : qG a k h = none := by
  show (qgF (qv h) a k).map Int32.ofInt = none
  unfold qgF
  rw [if_neg h2, if_neg h3]
  rfl
theorem qG_on {a k : Nat} {h : zH} {g : Int} (q : qgF (qv h) a k = some g) : qG a k h = some (Int32.ofInt g) := by
  show (qgF (qv h) a k).map Int32.ofInt = _
  rw [q]
  rfl
theorem qrdx {h : zH} {a k : Nat} (q : qG a k h = none) : rdx qG h a k = rd h a k := by
  unfold rdx
  rw [q]
theorem qrdg {h : zH} {a k : Nat} {g : Int} (q : qgF (qv h) a k = some g) : rdx qG h a k = some (.int (Int32.ofInt g)) := by
  unfold rdx
  rw [qG_on q]
theorem av_int {ρ : List Int} {v : aV} {x : Int32} (h : av ρ v (.int x)) : ∃ (s : Nat) (c : Int), v = .inl (s, c) ∧ ai ρ s c x := by
  rcases v with ⟨s, c⟩ | s | s | k
  · obtain ⟨y, h1, h2⟩ := h
    cases h2
    exact ⟨s, c, rfl, h1⟩
  · obtain ⟨z, -, h2⟩ := h
    cases h2
  · obtain ⟨z, -, h2⟩ := h
    cases h2
  · have h' : bif Nat.beq k 999 then (Value.int x = .null ∨ ∃ n : Nat, Value.int x = .retAddr n) else Value.int x = .retAddr k := h
    cases hb : Nat.beq k 999 with
    | true =>
      rw [hb] at h'
      rcases (show Value.int x = .null ∨ ∃ n : Nat, Value.int x = .retAddr n from h') with q | ⟨n, q⟩ <;> cases q
    | false =>
      rw [hb] at h'
      cases (show Value.int x = .retAddr k from h')
theorem avb_ok {W : aW} {E : List aY} {ρ : List Int} {v : aV} {l u : Int} {w : Value} (hE : aE W E ρ) (h : avb E v l u = true) (hv : av ρ v w) : ∃ x : Int32, w = .int x ∧ l ≤ x.toInt ∧ x.toInt ≤ u := by
  unfold avb avi at h
  rcases v with ⟨s, c⟩ | s | s | k
  · dsimp only at h
    obtain ⟨x, h1, rfl⟩ := hv
    split at h
    · next p hp =>
      have hb := aiv_in hE hp h1
      rw [Bool.and_eq_true] at h
      have h2 := ile_iff.mp h.1
      have h3 := ile_iff.mp h.2
      exact ⟨x, rfl, by omega, by omega⟩
    · cases h
  · cases h
  · cases h
  · cases h
theorem avb_i {W : aW} {E : List aY} {ρ : List Int} {v : aV} {l u : Int} {x : Int32} (hE : aE W E ρ) (h : avb E v l u = true) (hv : av ρ v (.int x)) : l ≤ x.toInt ∧ x.toInt ≤ u := by
  obtain ⟨y, h1, h2⟩ := avb_ok hE h hv
  cases h1
  exact h2
theorem apls_ok {ρ : List Int} {v : aV} {x : Int32} (d : Int) (h : av ρ v (.int x)) : av ρ (apls v d) (.int (x + Int32.ofInt d)) := by
  obtain ⟨s, c, rfl, h1⟩ := av_int h
  exact ⟨_, h1.add, rfl⟩
theorem apls_g {ρ : List Int} {v : aV} {g g' : Int} (d : Int) (h : av ρ v (.int (Int32.ofInt g))) (e : g' = g + d) : av ρ (apls v d) (.int (Int32.ofInt g')) := by
  have := apls_ok d h
  rw [← Int32.ofInt_add, ← e] at this
  exact this
theorem qup_ok {W : aW} {E : List aY} {ρ : List Int} {v : aV} {g g' : Int} (hE : aE W E ρ) (h : av ρ v (.int (Int32.ofInt g))) (e : g' = g + 1) (h1 : -2147483648 ≤ g') (h2 : g' ≤ 64) : ∃ A : List aY × aV, qup E v = some A ∧ aE W A.1 ρ ∧ av ρ A.2 (.int (Int32.ofInt g')) := by
  have h3 := apls_g 1 h e
  obtain ⟨s, c, rfl, h4⟩ := av_int h
  have h5 : ai ρ s (c + 1) (Int32.ofInt g') := by
    obtain ⟨y, q1, q2⟩ := h3
    cases q2
    exact q1
  have h6 : (Int32.ofInt g').toInt = g' := ai32 h1 (by omega)
  obtain ⟨E', q1, q2⟩ := acut_ok (q := (-2147483648, 64)) hE h5 ⟨by rw [h6]; exact h1, by rw [h6]; exact h2⟩
  refine ⟨(E', .inl (s, c + 1)), ?_, q2, h3⟩
  unfold qup
  dsimp only
  rw [q1]
theorem qgw_ok {W : aW} {E : List aY} {ρ : List Int} {v : aV} {g g' d : Int} (hE : aE W E ρ) (h : av ρ v (.int (Int32.ofInt g))) (e : g' = g + d) (h1 : 0 ≤ g') (h2 : g' ≤ 72) : ∃ A : List aY × aV, qgw E v d = some A ∧ aE W A.1 ρ ∧ av ρ A.2 (.int (Int32.ofInt g')) := by
  have h3 := apls_g d h e
  obtain ⟨s, c, rfl, h4⟩ := av_int h
  have h5 : ai ρ s (c + d) (Int32.ofInt g') := by
    obtain ⟨y, q1, q2⟩ := h3
    cases q2
    exact q1
  have h6 : (Int32.ofInt g').toInt = g' := ai32 (by omega) (by omega)
  obtain ⟨E', q1, q2⟩ := acut_ok (q := (0, 72)) hE h5 ⟨by rw [h6]; exact h1, by rw [h6]; exact h2⟩
  refine ⟨(E', .inl (s, c + d)), ?_, q2, h3⟩
  unfold qgw
  dsimp only
  rw [q1]
theorem qidx {W : aW} {E : List aY} {ρ : List Int} {k : Nat} {x : Int32} (hE : aE W E ρ) (hk : k < 1000) (h : ai ρ 0 (k : Int) x) : x.toInt = k := by
  obtain ⟨z, h1, h2⟩ := h
  rw [hE.2.1] at h1
  cases h1
  rw [h2, Int.zero_add, ai32 (by omega) (by omega)]
theorem qden {W : aW} {E : List aY} {ρ : List Int} {r c k : Nat} (hE : aE W E ρ) (hk : k < 1000) (hr : ρ[r]? = some (c : Int)) : aden ρ (r, 0, (k : Int)) c k := ⟨hr, Int32.ofInt k, by have := ai_c hE (k : Int); exact this, ai32 (by omega) (by omega)⟩
theorem qden_u {W : aW} {E : List aY} {ρ : List Int} {r c k a j : Nat} (hE : aE W E ρ) (hk : k < 1000) (hr : ρ[r]? = some (c : Int)) (h : aden ρ (r, 0, (k : Int)) a j) : a = c ∧ j = k := h.inj (qden hE hk hr)
theorem qamg {E : List aY} {ρ : List Int} {m : aM} {h : zH} {r c k : Nat} {v : aV} (hE : aE qW E ρ) (hH : aH qW qG ρ m h) (hk : k < 1000) (hr : ρ[r]? = some (c : Int)) (hm : amg m (r, 0, (k : Int)) = some v) : ∃ w : Value, rdx qG h c k = some w ∧ av ρ v w := by
  obtain ⟨a, j, w, g1, g2, g3, g4, g5⟩ := hH.2.2 _ (amg_mem hm)
  obtain ⟨rfl, rfl⟩ := qden_u hE hk hr g1
  exact ⟨w, g4, g5⟩
/-- a worked-out place that is known -/
theorem qamg_g {E : List aY} {ρ : List Int} {m : aM} {h : zH} {r c k : Nat} {v : aV} {g : Int} (hE : aE qW E ρ) (hH : aH qW qG ρ m h) (hk : k < 1000) (hr : ρ[r]? = some (c : Int)) (hg : qgF (qv h) c k = some g) (hm : amg m (r, 0, (k : Int)) = some v) : av ρ v (.int (Int32.ofInt g)) := by
  obtain ⟨w, h1, h2⟩ := qamg hE hH hk hr hm
  rw [qrdg hg] at h1
  cases h1
  exact h2
/-- a real one -/
theorem qamg_r {E : List aY} {ρ : List Int} {m : aM} {h : zH} {r c k : Nat} {v : aV} (hE : aE qW E ρ) (hH : aH qW qG ρ m h) (hk : k < 1000) (hr : ρ[r]? = some (c : Int)) (hg : qG c k h = none) (hp : qpr c k = true) (hm : amg m (r, 0, (k : Int)) = some v) : ∃ w : Value, rd h c k = some w ∧ av ρ v w ∧ ∀ x : Int32, w = .int x → qv h c k = x.toInt := by
  obtain ⟨w, h1, h2⟩ := qamg hE hH hk hr hm
  rw [qrdx hg] at h1
  exact ⟨w, h1, h2, fun x e => by subst e; rw [qv_on hp, qi_int h1]⟩
theorem asq_ok {E : List aY} {k : Nat} {so : Int} (h : asq E k so = true) : ∃ y : Int, E[k]? = some (2, so, y) := by
  unfold asq at h
  split at h
  · next x y hx => exact ⟨y, by rw [hx, ieq_ok h]⟩
  · cases h
theorem qamf0 {E : List aY} {ρ : List Int} {m0 : aM} {h : zH} {so s : Nat} {c : Int} {v : aV} (hE : aE qW E ρ) (hH : aH qW qG ρ m0 h) : ∀ (m : aM), (∀ e ∈ m, e ∈ m0) → amf E (so : Int) s c m = some v → ∃ (a k : Nat) (w : Value), a < qW.1.length ∧ (asrt qW a : Int) = (so : Int) ∧ (∃ x : Int32, ai ρ s c x ∧ x.toInt = (k : Int)) ∧ k < apn (afm qW (asrt qW a)) ∧ rdx qG h a k = some w ∧ av ρ v w
  | [], _, hs => by cases hs
  | e :: r, hm, hs => by
    unfold amf at hs
    cases hb : (asq E e.1.1 so && (Nat.beq e.1.2.1 s && ieq e.1.2.2 c)) with
    | false =>
      rw [hb] at hs
      exact qamf0 hE hH r (fun e' he => hm e' (List.mem_cons_of_mem _ he)) hs
    | true =>
      rw [hb] at hs
      cases hs
      rw [Bool.and_eq_true, Bool.and_eq_true] at hb
      obtain ⟨b1, b2, b3⟩ := hb
      have e2 := Nat.eq_of_beq_eq_true b2
      have e3 := ieq_ok b3
      obtain ⟨a, k, w, g1, g2, g3, g4, g5⟩ := hH.2.2 e (hm e List.mem_cons_self)
      obtain ⟨y, hx⟩ := asq_ok b1
      obtain ⟨-, q2⟩ := asort_of hE hx g1.1
      obtain ⟨x', x1, x2⟩ := g1.2
      rw [e2, e3] at x1
      exact ⟨a, k, w, g2, q2, ⟨x', x1, x2⟩, g3, g4, g5⟩
theorem qamf {E : List aY} {ρ : List Int} {m : aM} {h : zH} {so c0 s : Nat} {c : Int} {v : aV} (hE : aE qW E ρ) (hH : aH qW qG ρ m h) (hu : ∀ a : Nat, a < qW.1.length → (asrt qW a : Int) = (so : Int) → a = c0) (h2 : ¬ c0 = 128) (hs : amf E (so : Int) s c m = some v) : ∃ (k : Nat) (w : Value) (x : Int32), ai ρ s c x ∧ x.toInt = (k : Int) ∧ k < apn (afm qW (asrt qW c0)) ∧ rdx qG h c0 k = some w ∧ av ρ v w := by
  obtain ⟨a, k, w, g1, g2, ⟨x, x1, x2⟩, g3, g4, g5⟩ := qamf0 hE hH m (fun e he => he) hs
  have := hu a g1 g2
  subst this
  exact ⟨k, w, x, x1, x2, g3, g4, g5⟩
theorem qmo_ok {E : List aY} {ρ : List Int} {h : zH} {m0 : aM} {row : Nat} {o : Nat} (hE : aE qW E ρ) (hH : aH qW qG ρ m0 h) : ∀ (m : aM), (∀ e ∈ m, e ∈ m0) → qmo E row m = some o → ρ[o]? = some ((128 : Nat) : Int)
  | [], _, hs => by cases hs
  | e :: r, hm, hs => by
    unfold qmo at hs
    cases hb : (asq E e.1.1 49 && aveq e.2 (.inr (.inr (.inl row)))) with
    | false =>
      rw [hb] at hs
      exact qmo_ok hE hH r (fun e' he => hm e' (List.mem_cons_of_mem _ he)) hs
    | true =>
      rw [hb] at hs
      cases hs
      rw [Bool.and_eq_true] at hb
      obtain ⟨b1, -⟩ := hb
      obtain ⟨a, k, w, g1, g2, -⟩ := hH.2.2 e (hm e List.mem_cons_self)
      obtain ⟨y, hx⟩ := asq_ok b1
      obtain ⟨-, q2⟩ := asort_of hE hx g1.1
      rw [g1.1, qun49 g2 q2]
/-! An end of a rule. -/
def qgk (c k : Nat) : Bool := (Nat.ble (afm qW (asrt qW c)).2.2.1 k && !Nat.ble (apn (afm qW (asrt qW c))) k) && !Nat.ble qW.1.length c
theorem qo1 {E : List aY} {ρ : List Int} {h' : zH} {r c k : Nat} {v : aV} {g : Int} (hE : aE qW E ρ) (hk : qgk c k = true) (hk2 : k < 1000) (hr : ρ[r]? = some (c : Int)) (hg : qgF (qv h') c k = some g) (hv : av ρ v (.int (Int32.ofInt g))) : ∃ (a j : Nat) (x : Int32), aden ρ (r, 0, (k : Int)) a j ∧ a < qW.1.length ∧ j < apn (afm qW (asrt qW a)) ∧ (afm qW (asrt qW a)).2.2.1 ≤ j ∧ qG a j h' = some x ∧ av ρ v (.int x) := by
  unfold qgk at hk
  simp only [Bool.and_eq_true, Bool.not_eq_true'] at hk
  have h1 := Nat.le_of_ble_eq_true hk.1.1
  have h2 : ¬ apn (afm qW (asrt qW c)) ≤ k := fun q => by rw [Nat.ble_eq.mpr q] at hk; cases hk.1.2
  have h3 : ¬ qW.1.length ≤ c := fun q => by rw [Nat.ble_eq.mpr q] at hk; cases hk.2
  exact ⟨c, k, _, qden hE hk2 hr, by omega, by omega, h1, qG_on hg, hv⟩
theorem qo2 {E : List aY} {ρ : List Int} {h' : zH} {r c k : Nat} {g : Int} (hE : aE qW E ρ) (hk : qgk c k = true) (hk2 : k < 1000) (hr : ρ[r]? = some (c : Int)) (hg : qgF (qv h') c k = some g) (ht : apl (afm qW (asrt qW c)) k = (0, -2147483648, 2147483647)) : ∃ (a j : Nat) (x : Int32), aden ρ (r, 0, (k : Int)) a j ∧ a < qW.1.length ∧ (afm qW (asrt qW a)).2.2.1 ≤ j ∧ qG a j h' = some x ∧ avt qW (apl (afm qW (asrt qW a)) j) (.int x) := by
  unfold qgk at hk
  simp only [Bool.and_eq_true, Bool.not_eq_true'] at hk
  have h1 := Nat.le_of_ble_eq_true hk.1.1
  have h3 : ¬ qW.1.length ≤ c := fun q => by rw [Nat.ble_eq.mpr q] at hk; cases hk.2
  refine ⟨c, k, _, qden hE hk2 hr, by omega, h1, qG_on hg, ?_⟩
  rw [ht]
  exact ⟨_, rfl, ab _⟩
/-- what isn't named stays -/
theorem qo3 {h h' : zH} {a k : Nat} (q : qgF (qv h') a k = qgF (qv h) a k) : qG a k h' = qG a k h := by
  show (qgF (qv h') a k).map Int32.ofInt = (qgF (qv h) a k).map Int32.ofInt
  rw [q]
theorem qg7 (F : qF) : qgF F 2 7 = some (qgc F) := rfl
theorem qg8 (F : qF) : qgF F 2 8 = some (F 2 4 - (F 2 2).toNat + qgc F) := rfl
theorem qg9 (F : qF) : qgF F 2 9 = some (72 - F 2 2) := rfl
def qhb (F : qF) : Int := match qhn F 64 (qba F).toNat ((F 130 17).toNat - (qba F).toNat) with
    | some H => (H : Int)
    | none => -1
theorem qg74 (F : qF) : qgF F 128 74 = some (F 128 33 - (F 130 17).toNat) := rfl
theorem qg75 (F : qF) : qgF F 128 75 = some (qhb F) := rfl
theorem qg76 (F : qF) : qgF F 128 76 = some (qba F) := rfl
theorem qg77 (F : qF) : qgF F 128 77 = some (qbo (qp2 F)) := rfl
theorem qg78 (F : qF) : qgF F 128 78 = some (qbo (qp1 F)) := rfl
theorem qg79 (F : qF) : qgF F 128 79 = some (qpe F 144 3 3 : Nat) := rfl
theorem qg80 (F : qF) : qgF F 128 80 = some (qpe F 145 3 3 : Nat) := rfl
theorem qg81 (F : qF) : qgF F 128 81 = some (qpe F 146 64 64 : Nat) := rfl
theorem qg82 (F : qF) : qgF F 128 82 = some (qpe F 147 64 64 : Nat) := rfl
theorem qg83 (F : qF) : qgF F 128 83 = some (if F 128 26 = 0 then F 128 27 else 0) := rfl
