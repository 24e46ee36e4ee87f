def zN (ci : Nat) : Nat := (zFs.getD ci []).length
theorem zcls_at {ci : Nat} {q : vw_C} (h : zcls[ci]? = some q) : ci < 12 ∧ q = (zown ci, zfd ci, zN ci) := by
  have h1 := zAll_get (P := fun ci (q : vw_C) => ci < 12 ∧ q = (zown ci, zfd ci, zN ci)) (i := 0) (l := zcls) ⟨⟨by decide, rfl⟩, ⟨by decide, rfl⟩, ⟨by decide, rfl⟩, ⟨by decide, rfl⟩, ⟨by decide, rfl⟩, ⟨by decide, rfl⟩, ⟨by decide, rfl⟩, ⟨by decide, rfl⟩, ⟨by decide, rfl⟩, ⟨by decide, rfl⟩, ⟨by decide, rfl⟩, ⟨by decide, rfl⟩, trivial⟩ h
  rwa [Nat.zero_add] at h1
theorem zcls_of {ci : Nat} (h : ci < 12) : zcls[ci]? = some (zown ci, zfd ci, zN ci) := by
  cases hq : zcls[ci]? with
  | none => exact absurd h (Nat.not_lt.mpr (List.getElem?_eq_none_iff.mp hq))
  | some q => rw [(zcls_at hq).2]
def zall2 (f : Nat → Nat → Bool) : Bool := (List.range 20).all (fun c => (List.range 1200).all (fun j => f c j))
theorem zall2_ok {f : Nat → Nat → Bool} (h : zall2 f = true) {c j : Nat} (hc : c < 20) (hj : j < 1200) : f c j = true := List.all_eq_true.mp (List.all_eq_true.mp h c (List.mem_range.mpr hc)) j (List.mem_range.mpr hj)
theorem zg2 {α : Type} {c j : Nat} {x : Option α} {v : α} (h : (bif Nat.ble 20 c then none else bif Nat.ble 1200 j then none else x) = some v) : c < 20 ∧ j < 1200 := by
  by_cases h1 : 20 ≤ c
  · rw [Nat.ble_eq_true_of_le h1] at h; cases h
  · by_cases h2 : 1200 ≤ j
    · rw [Nat.ble_eq_true_of_le h2] at h
      cases hb : Nat.ble 20 c <;> rw [hb] at h <;> cases h
    · exact ⟨Nat.not_le.mp h1, Nat.not_le.mp h2⟩
theorem zfl_chk : zall2 (fun c j => match zfldT c j with | none => true | some q => decide ((c, j, q.1, q.2) ∈ zFLl)) = true := by decide +kernel
theorem zfl_in {c j ci k : Nat} (h : zfldT c j = some (ci, k)) : (c, j, ci, k) ∈ zFLl := by
  obtain ⟨h1, h2⟩ := zg2 h
  have h3 := zall2_ok zfl_chk h1 h2
  rw [h] at h3
  exact of_decide_eq_true h3
theorem zfl_ok : zFLl.all (fun q => decide (q.2.2.1 < 12 ∧ q.2.2.2 < zN q.2.2.1)) = true := by decide +kernel
theorem zko_chk : zall2 (fun c j => match zkonT c j with | none => true | some (.int x) => decide ((c, j, x) ∈ zKIl) | some (.long x) => decide ((c, j, x) ∈ zKJl) | some (.retAddr x) => decide ((c, j, x) ∈ zKSl) | some _ => false) = true := by decide +kernel
theorem zko_i {c j : Nat} {x : Int32} (h : zkonT c j = some (.int x)) : (c, j, x) ∈ zKIl := by
  obtain ⟨h1, h2⟩ := zg2 h
  have h3 := zall2_ok zko_chk h1 h2
  rw [h] at h3
  exact of_decide_eq_true h3
theorem zko_j {c j : Nat} {x : Int64} (h : zkonT c j = some (.long x)) : (c, j, x) ∈ zKJl := by
  obtain ⟨h1, h2⟩ := zg2 h
  have h3 := zall2_ok zko_chk h1 h2
  rw [h] at h3
  exact of_decide_eq_true h3
theorem zko_s {c j : Nat} {x : Nat} (h : zkonT c j = some (.retAddr x)) : (c, j, x) ∈ zKSl := by
  obtain ⟨h1, h2⟩ := zg2 h
  have h3 := zall2_ok zko_chk h1 h2
  rw [h] at h3
  exact of_decide_eq_true h3
theorem zne_chk : zall2 (fun c j => match znewT c j with | none => true | some q => decide ((c, j, q.1) ∈ zNLl) && (decide (q.1 < 12) && decide (q.2 = zDs.getD q.1 []))) = true := by decide +kernel
theorem zne_in {c j ci : Nat} {fs : List Value} (h : znewT c j = some (ci, fs)) : (c, j, ci) ∈ zNLl ∧ ci < 12 ∧ fs = zDs.getD ci [] := by
  obtain ⟨h1, h2⟩ := zg2 h
  have h3 := zall2_ok zne_chk h1 h2
  rw [h] at h3
  simp only [Bool.and_eq_true, decide_eq_true_eq] at h3
  exact h3
theorem zD_map (B : Nat) (xa : Nat → Nat) {ci : Nat} (h : ci < 12) : (zDs.getD ci []).map (zcv B xa) = zDs.getD ci [] := by
  match ci, h with
  | 0, _ => rfl
  | 1, _ => rfl
  | 2, _ => rfl
  | 3, _ => rfl
  | 4, _ => rfl
  | 5, _ => rfl
  | 6, _ => rfl
  | 7, _ => rfl
  | 8, _ => rfl
  | 9, _ => rfl
  | 10, _ => rfl
  | 11, _ => rfl
  | n + 12, h => exact absurd h (by omega)
theorem zD_ok : (List.range 12).all (fun ci => decide ((zDs.getD ci []).length = zN ci) && (List.range (zN ci)).all (fun k => decide (defaultValue (ztyT ci k) = vp_V (zDs.getD ci []) k))) = true := by decide +kernel
theorem zty_ok : (List.range 12).all (fun ci => (List.range (zN ci)).all (fun k => decide (parseFieldDescriptor (zfd ci k).2.2.1 = some (ztyT ci k)) && (decide ((zfd ci k).2.2.2 = zfinT ci k) && decide ((zfd ci k).1 = zown ci)))) = true := by decide +kernel
theorem znm_ok : (List.range 12).all (fun ci => (List.range (zN ci)).all (fun a => (List.range (zN ci)).all (fun b => decide (a = b) || decide ((zfd ci a).2.1 ≠ (zfd ci b).2.1)))) = true := by decide +kernel
theorem zTab_ok (nf : Bool) (xs : List Int32) (c0 : Nat) : zTab zTs zcls "LaughLine$Passenger" (zXt nf xs) c0 (zown c0) := by
  refine ⟨fun ci q hc => ?_, fun j ci k h => ?_, fun j x h => ?_, fun j x h => ?_, fun j ci fs h => ?_, ⟨zto10 (List.mem_of_getElem? (i := 0) rfl), zto10 (List.mem_of_getElem? (i := 1) rfl), zto10 (List.mem_of_getElem? (i := 2) rfl)⟩, fun j h => ?_, ⟨⟨(zown 2, zfd 2, zN 2), zcls_of (ci := 2) (by decide), by decide⟩, by decide⟩⟩
  · obtain ⟨hlt, hq⟩ := zcls_at hc
    have t1 := List.all_eq_true.mp zty_ok ci (List.mem_range.mpr hlt)
    have t2 := List.all_eq_true.mp znm_ok ci (List.mem_range.mpr hlt)
    refine ⟨fun w hw => zto1 (List.mem_flatMap.mpr ⟨q, List.mem_of_getElem? hc, hw⟩), ?_⟩
    subst hq
    refine ⟨fun k hk => ?_, fun a ha b hb hab => ?_, fun k hk => ?_, fun he k hk => ?_⟩
    · have t3 := List.all_eq_true.mp t1 k (List.mem_range.mpr hk)
      simp only [Bool.and_eq_true, decide_eq_true_eq] at t3
      exact t3.1
    · have t3 := List.all_eq_true.mp (List.all_eq_true.mp t2 a (List.mem_range.mpr ha)) b (List.mem_range.mpr hb)
      simp only [Bool.or_eq_true, decide_eq_true_eq] at t3
      exact t3.resolve_left hab
    · have t3 := List.all_eq_true.mp t1 k (List.mem_range.mpr hk)
      simp only [Bool.and_eq_true, decide_eq_true_eq] at t3
      exact t3.2.1
    · subst he
      have t3 := List.all_eq_true.mp t1 k (List.mem_range.mpr hk)
      simp only [Bool.and_eq_true, decide_eq_true_eq] at t3
      exact t3.2.2
  · have h1 := zfl_in h
    have h2 := of_decide_eq_true (List.all_eq_true.mp zfl_ok _ h1)
    exact ⟨(zown ci, zfd ci, zN ci), zcls_of h2.1, h2.2, zto4 (List.mem_map.mpr ⟨_, h1, rfl⟩)⟩
  · exact zto7 (List.mem_map.mpr ⟨_, zko_i h, rfl⟩)
  · exact zto8 (List.mem_map.mpr ⟨_, zko_j h, rfl⟩)
  · obtain ⟨h1, h2, h3⟩ := zne_in h
    subst h3
    have h4 := List.all_eq_true.mp zD_ok ci (List.mem_range.mpr h2)
    simp only [Bool.and_eq_true, decide_eq_true_eq] at h4
    have hm : (zown ci, zfd ci, zN ci) ∈ zcls := List.mem_of_getElem? (zcls_of h2)
    refine ⟨(zown ci, zfd ci, zN ci), zcls_of h2, zto9 (List.mem_map.mpr ⟨_, h1, rfl⟩), zto2 (List.mem_map.mpr ⟨_, hm, rfl⟩), zto3 (List.mem_map.mpr ⟨_, hm, rfl⟩), h4.1, fun k hk => ?_, fun B xa => zD_map B xa h2⟩
    have h5 := List.all_eq_true.mp h4.2 k (List.mem_range.mpr hk)
    exact of_decide_eq_true h5
  · have h1 : Nat.beq c0 5 = true ∧ Nat.beq j 9 = true := by
      have h2 : (Nat.beq c0 5 && Nat.beq j 9) = true := h
      simpa only [Bool.and_eq_true] using h2
    have e1 := Nat.eq_of_beq_eq_true h1.1
    have e2 := Nat.eq_of_beq_eq_true h1.2
    subst e1; subst e2
    exact zto9 (List.mem_map.mpr ⟨(5, 9, 2), by decide, rfl⟩)
theorem zml_chk : zall2 (fun c j => match zIT c j with | none => true | some q => decide ((c, j, q.1, q.2.1, q.2.2) ∈ zMLl)) = true := by decide +kernel
theorem zml_in {c j kd mi n : Nat} (h : zIT c j = some (kd, mi, n)) : (c, j, kd, mi, n) ∈ zMLl := by
  obtain ⟨h1, h2⟩ := zg2 h
  have h3 := zall2_ok zml_chk h1 h2
  rw [h] at h3
  exact of_decide_eq_true h3
def zrtn (mi : Nat) : Bool := match zMt mi with | some q => (match q.2.2.2.1 with | none => true | some _ => false) | none => true
theorem zml_ok : zMLl.all (fun q => Nat.beq q.2.2.1 0 || (Nat.ble 5 q.2.2.1 || (decide ((zY q.2.2.2.1).1.cls ≠ "java/lang/invoke/MethodHandle") && (decide ((zY q.2.2.2.1).1.cls ≠ "java/lang/invoke/VarHandle") && (decide ((parseMethodDescriptor (zY q.2.2.2.1).1.desc).map (fun d => d.parameters.length) = some q.2.2.2.2) && (Nat.beq q.2.2.1 1 || (Nat.beq q.2.2.1 2 || (decide ((zY q.2.2.2.1).1.name = "<init>") && zrtn q.2.2.2.1)))))))) = true := by decide +kernel
theorem zrtn_ok {mi : Nat} (h : zrtn mi = true) : ∀ (c : Nat) (ini : Bool) (nL : Nat) (rt : Option FieldType) (tab : Nat → Option (Instr × Nat)), zMt mi = some (c, ini, nL, rt, tab) → rt = none := by
  intro c ini nL rt tab hm
  unfold zrtn at h
  rw [hm] at h
  cases rt with
  | none => rfl
  | some t => cases h
theorem zCal_ok : zCal zTs zIT zY zown zmcl zMt zcls := by
  refine ⟨fun mi c ini nL rt tab h => zMt_ok h, fun w hw => good_of_word (zTs_good w hw), fun ci q h => by rw [(zcls_at h).2], fun c j kd mi n h => ?_⟩
  have h1 := zml_in h
  have h2 := List.all_eq_true.mp zml_ok _ h1
  refine ⟨fun e => ?_, fun e => ?_, fun e => ?_, fun e => ?_, fun e => ?_, fun e => ?_⟩
  · subst e
    exact ⟨zto12 (List.mem_map.mpr ⟨_, List.mem_filter.mpr ⟨h1, rfl⟩, rfl⟩), zto17 (List.mem_of_getElem? (i := 0) rfl), zto17 (List.mem_of_getElem? (i := 1) rfl)⟩
  · have hk : Nat.beq kd 0 = false := by
      cases hb : Nat.beq kd 0 with
      | false => rfl
      | true => have := Nat.eq_of_beq_eq_true hb; omega
    have hk5 : Nat.ble 5 kd = false := by
      cases hb : Nat.ble 5 kd with
      | false => rfl
      | true => have := Nat.le_of_ble_eq_true hb; omega
    simp only [hk, hk5, Bool.false_or, Bool.and_eq_true, decide_eq_true_eq] at h2
    exact ⟨h2.1, h2.2.1, h2.2.2.1, zto16 (List.mem_map.mpr ⟨_, List.mem_filter.mpr ⟨h1, by show (Nat.ble 1 kd && Nat.ble kd 4) = true; rw [Nat.ble_eq_true_of_le (show 1 ≤ kd by omega), Nat.ble_eq_true_of_le (show kd ≤ 4 by omega)]; rfl⟩, rfl⟩)⟩
  · subst e
    exact ⟨zto11 (List.mem_map.mpr ⟨_, List.mem_filter.mpr ⟨h1, rfl⟩, rfl⟩), zto13 (List.mem_map.mpr ⟨_, List.mem_filter.mpr ⟨h1, rfl⟩, rfl⟩), zto14 (List.mem_map.mpr ⟨_, List.mem_filter.mpr ⟨h1, rfl⟩, rfl⟩)⟩
  · subst e
    exact ⟨zto11 (List.mem_map.mpr ⟨_, List.mem_filter.mpr ⟨h1, rfl⟩, rfl⟩), zto15 (List.mem_map.mpr ⟨_, List.mem_filter.mpr ⟨h1, rfl⟩, rfl⟩)⟩
  · subst e
    have h3 : decide ((zY mi).1.name = "<init>") = true ∧ zrtn mi = true := by
      simp only [show Nat.beq 3 0 = false from rfl, show Nat.ble 5 3 = false from rfl, show Nat.beq 3 1 = false from rfl, show Nat.beq 3 2 = false from rfl, Bool.false_or, Bool.and_eq_true] at h2
      exact h2.2.2.2
    exact ⟨zto11 (List.mem_map.mpr ⟨_, List.mem_filter.mpr ⟨h1, rfl⟩, rfl⟩), zto13 (List.mem_map.mpr ⟨_, List.mem_filter.mpr ⟨h1, rfl⟩, rfl⟩), of_decide_eq_true h3.1, zrtn_ok h3.2⟩
  · subst e
    have h3 : decide ((zY mi).1.name = "<init>") = true ∧ zrtn mi = true := by
      simp only [show Nat.beq 4 0 = false from rfl, show Nat.ble 5 4 = false from rfl, show Nat.beq 4 1 = false from rfl, show Nat.beq 4 2 = false from rfl, Bool.false_or, Bool.and_eq_true] at h2
      exact h2.2.2.2
    exact ⟨zto13 (List.mem_map.mpr ⟨_, List.mem_filter.mpr ⟨h1, rfl⟩, rfl⟩), of_decide_eq_true h3.1, zrtn_ok h3.2⟩
theorem zMath_ok : zMath zTs zIT zown := by
  intro c j kd mi n h
  have h1 := zml_in h
  have hI : Cond.initialized "java/lang/Math" ∈ zTs := zto20 (List.mem_of_getElem? (i := 0) rfl)
  refine ⟨fun e => ?_, fun e => ?_, fun e => ?_, fun e => ?_, fun e => ?_, fun e => ?_⟩
  · subst e
    exact ⟨zto19 (List.mem_map.mpr ⟨_, List.mem_filter.mpr ⟨h1, rfl⟩, rfl⟩), zto20 (List.mem_of_getElem? (i := 1) rfl), hI, zto20 (List.mem_of_getElem? (i := 7) rfl)⟩
  · subst e
    exact ⟨zto19 (List.mem_map.mpr ⟨_, List.mem_filter.mpr ⟨h1, rfl⟩, rfl⟩), zto20 (List.mem_of_getElem? (i := 2) rfl), hI, zto20 (List.mem_of_getElem? (i := 8) rfl)⟩
  · subst e
    exact ⟨zto19 (List.mem_map.mpr ⟨_, List.mem_filter.mpr ⟨h1, rfl⟩, rfl⟩), zto20 (List.mem_of_getElem? (i := 3) rfl), hI, zto20 (List.mem_of_getElem? (i := 9) rfl)⟩
  · subst e
    exact ⟨zto19 (List.mem_map.mpr ⟨_, List.mem_filter.mpr ⟨h1, rfl⟩, rfl⟩), zto20 (List.mem_of_getElem? (i := 4) rfl), hI, zto20 (List.mem_of_getElem? (i := 10) rfl)⟩
  · subst e
    exact ⟨zto19 (List.mem_map.mpr ⟨_, List.mem_filter.mpr ⟨h1, rfl⟩, rfl⟩), zto20 (List.mem_of_getElem? (i := 5) rfl), hI, zto20 (List.mem_of_getElem? (i := 11) rfl)⟩
  · subst e
    exact ⟨zto19 (List.mem_map.mpr ⟨_, List.mem_filter.mpr ⟨h1, rfl⟩, rfl⟩), zto20 (List.mem_of_getElem? (i := 6) rfl), hI, zto20 (List.mem_of_getElem? (i := 12) rfl)⟩
/-- every run of our machine is a contract on the Java machine -/
theorem zMets {l : Launch} {B : Nat} {xa : Nat → Nat} {ca : Nat → ClassId} {D : va_G} (nf : Bool) (xs : List Int32) (d : Nat) : zMet l B xa ca D zcls zTs "LaughLine$Passenger" (zXt nf xs) zown zIT zY zMt d (zEv (zXt nf xs) zIT zmcl zMt d) := zEv_ok zCal_ok zMath_ok (fun _ _ _ _ _ _ _ => zTab_ok nf xs _) d
