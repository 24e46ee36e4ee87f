theorem zdry_n {ty : FieldType} {v : Value} {B : Nat} {xa : Nat → Nat} (h : narrow ty (zdry v) = zdry v) : narrow ty (zcv B xa v) = zcv B xa v := by
  cases v <;> first | exact h | (cases ty <;> rfl)
theorem zdry_f {ty : FieldType} {v : Value} {B : Nat} {xa : Nat → Nat} (h : fits ty (zdry v) = true) : fits ty (zcv B xa v) = true := by
  cases v <;> first | exact h | (cases ty <;> exact h)
theorem zputs_of {X : zX} {ini : Bool} {c ci k : Nat} {v : Value} (h : zputs X ini c ci k v = true) : (zfin X ci k = false ∨ (ini = true ∧ ci = c)) ∧ narrow (zty X ci k) (zdry v) = zdry v ∧ fits (zty X ci k) (zdry v) = true := by
  unfold zputs at h
  simp only [Bool.and_eq_true, Bool.or_eq_true, Bool.not_eq_true', decide_eq_true_eq, beq_iff_eq] at h
  exact ⟨h.1.1, h.1.2, h.2⟩
theorem zmap_set {B : Nat} {xa : Nat → Nat} (fs : List Value) (k : Nat) (v : Value) : (fs.map (zcv B xa)).set k (zcv B xa v) = (fs.set k v).map (zcv B xa) := by
  rw [List.map_set]
section ZS
variable {p : Program} {l : Launch} {e : Env} {R : Room} {s : State} {m : MethodId} {args : Array Value} {below : List Frame} {meth : Method} {c : Code} {H : Heap} {locs : List Loc} {Q : State → Prop}
variable {cc : ByteArray} {B : Nat} {xa : Nat → Nat} {ca : Nat → ClassId} {D : va_G} {cl : List vw_C}
set_option maxHeartbeats 8000000 in
set_option maxRecDepth 100000 in
theorem zstH_ok {Ts : List Cond} {P : String} {X : zX} {own : Nat → String} {ini : Bool} {c0 cells slots : Nat} {i : Instr} {len pc : Nat} {ls : zL} {st : List Value} {h : zH} {pc' : Nat} {ls' : zL} {st' : List Value} {h' : zH} {LS : Array Slot} (hx : p.tables.exec = Jvm.exec) (hb : c.code = cc) (hd : decode cc pc = .ok (i, len)) (hlen : zlok i len = true)
    (hts : ∀ w ∈ Ts, w.before args s = true) (hown : s.vm.findClass (own c0) = some m.cls) (hT : zTab Ts cl P X c0 (own c0)) (hG : zGS Ts B xa ca D cl P X own s) (hini : ini = true → meth.name = "<init>") (hR : zHR B xa ca D cl h H) (hS : va_S (zA B) s.heap H locs) (hB : B ≤ s.heap.size)
    (hroom : cells + (h'.length - h.length) ≤ R.cells ∧ slots + (zsl h' - zsl h) ≤ R.slots) (hs : zstH X ini c0 i pc ls st h = some (pc', ls', st', h'))
    (k : ∀ (H' : Heap) (locs' : List Loc), zHR B xa ca D cl h' H' → va_S (zA B) s.heap H' locs' → W p l e R s m args below meth c H' locs' (cells + (h'.length - h.length)) (slots + (zsl h' - zsl h)) Q (F0 m pc' LS (st'.map (zcv B xa)))) : (W p l e R s m args below meth c H locs cells slots Q (F0 m pc LS (st.map (zcv B xa)))) ∧ ls' = ls := by
  obtain ⟨hK, hAO, hGs, hGz, hGx, hGa, -⟩ := hG
  have hA : ∀ q : Nat, s.heap.size ≤ q → zA B q := fun q hq => Nat.le_trans hB hq
  have hci9 : ∀ {ci : Nat} {q : vw_C}, cl[ci]? = some q → ci < 1000 := fun hq => Nat.lt_of_lt_of_le (List.getElem?_eq_some_iff.mp hq).1 hT.2.2.2.2.2.2.2.2
  have ksame : h' = h → ∀ (H' : Heap) (locs' : List Loc), zHR B xa ca D cl h' H' → va_S (zA B) s.heap H' locs' → W p l e R s m args below meth c H' locs' cells slots Q (F0 m pc' LS (st'.map (zcv B xa))) := fun e H' locs' a b => by
    have k9 := k H' locs' a b
    subst e
    rwa [Nat.sub_self, Nat.sub_self, Nat.add_zero, Nat.add_zero] at k9
  cases i with
  | getfield j =>
    obtain rfl : len = 3 := eq_of_beq hlen
    dsimp only [zstH] at hs
    split at hs
    · split at hs
      · next ci k0 ci' fs hf ha =>
        split at hs
        · next v hv =>
          split at hs
          · next hci =>
            subst hci
            cases hs
            obtain ⟨⟨C, T, N⟩, hc, hk, hw⟩ := hT.2.1 _ _ _ hf
            obtain ⟨h1, h2, h3, h4, h5⟩ := hT.1 _ _ hc
            have hat := hR.2 _ _ ha (hci9 hc)
            exact ⟨va_get (D := D) (T := T) (N := N) (C := C) hx hb hts h1 hown hK (zP1 hat) 0 rfl hc k0 hk (hts _ hw) (fun _ h9 => h9) (v := zcv B xa v) (by rw [List.getElem?_map, hv]; rfl) hd (ksame rfl H locs hR hS), rfl⟩
          · cases hs
        · cases hs
      · cases hs
    · split at hs
      · next v hv =>
        cases hs
        obtain ⟨o, n, d, h1, h2⟩ := hGx _ _ _ _ hv
        exact ⟨vk_getf hx hb h1 hS hown (hts _ h2) (fun _ h9 => h9) hd (ksame rfl H locs hR hS), rfl⟩
      · cases hs
    · cases hs
  | putfield j =>
    obtain rfl : len = 3 := eq_of_beq hlen
    dsimp only [zstH] at hs
    split at hs
    · next v a r =>
      split at hs
      · next ci k0 ci' fs hf ha =>
        split at hs
        · next hcond =>
          obtain ⟨hci, hlf, hp⟩ := hcond
          subst hci
          cases hs
          obtain ⟨⟨C, T, N⟩, hc, hk, hw⟩ := hT.2.1 _ _ _ hf
          obtain ⟨h1, h2, h3, h4, h5⟩ := hT.1 _ _ hc
          have hat := hR.2 _ _ ha (hci9 hc)
          obtain ⟨p1, p2, p3⟩ := zputs_of hp
          rw [List.length_set, zsl_set ha (by simp [zsz]), Nat.sub_self, Nat.sub_self, Nat.add_zero, Nat.add_zero] at k
          refine ⟨zput_ok (T := T) (N := N) (C := C) hx hb hts h1 (fun k => zty X ci' k) h2 h3 hown hK hat hc hk (hts _ hw) ?_ (zdry_n p2) (zdry_f p3) (by rw [List.length_map]; exact hlf) hd ?_, rfl⟩
          · rcases p1 with q | ⟨q1, q2⟩
            · exact Or.inl ((h4 k0 hk).trans q)
            · cases hz : (T k0).2.2.2 with
              | false => exact Or.inl rfl
              | true => exact Or.inr ⟨rfl, hini q1, h5 q2 k0 hk⟩
          · intro H1 j9 w1 w2 w3
            refine k H1 _ (zHR_set hR w2 w3 ?_) (hS.put w2 w3 (Nat.le_add_right B a))
            rw [zmap_set] at w1
            exact w1
        · cases hs
      · cases hs
    · cases hs
  | getstatic j =>
    obtain rfl : len = 3 := eq_of_beq hlen
    dsimp only [zstH] at hs
    split at hs
    · next v hv =>
      cases hs
      obtain ⟨C, n, d, h1, h2⟩ := hGz _ _ _ hv
      exact ⟨va_gets hx hb h1 hS hown (hts _ h2) (fun _ h9 => h9) hd (ksame rfl H locs hR hS), rfl⟩
    · cases hs
  | ldc j =>
    obtain rfl : len = 2 := eq_of_beq hlen
    dsimp only [zstH] at hs
    split at hs
    · next x hv =>
      cases hs
      exact ⟨lv_ldc hx hb hown (hts _ (hT.2.2.1 _ _ hv)) hd (ksame rfl H locs hR hS), rfl⟩
    · next x hv =>
      cases hs
      obtain ⟨tx, h1⟩ := hGs _ _ _ hv
      exact ⟨va_ldcS hx hb hown h1 hd (ksame rfl H locs hR hS), rfl⟩
    · cases hs
  | ldc_w j =>
    obtain rfl : len = 3 := eq_of_beq hlen
    dsimp only [zstH] at hs
    split at hs
    · next x hv =>
      cases hs
      exact ⟨lv_ldcw hx hb hown (hts _ (hT.2.2.1 _ _ hv)) hd (ksame rfl H locs hR hS), rfl⟩
    · cases hs
  | ldc2_w j =>
    obtain rfl : len = 3 := eq_of_beq hlen
    dsimp only [zstH] at hs
    split at hs
    · next x hv =>
      cases hs
      exact ⟨lv_ldc2 hx hb hown (hts _ (hT.2.2.2.1 _ _ hv)) hd (ksame rfl H locs hR hS), rfl⟩
    · cases hs
  | iaload =>
    obtain rfl : len = 1 := eq_of_beq hlen
    dsimp only [zstH] at hs
    split at hs
    · split at hs
      · next l9 ha =>
        split at hs
        · next hi =>
          cases hs
          exact ⟨va_iald hx hb hK (zP1 (hR.2 _ _ ha (show (0 : Nat) < 1000 by decide))) 0 0 rfl rfl (zidx_in hi) hd (ksame rfl H locs hR hS), rfl⟩
        · cases hs
      · cases hs
    · split at hs
      · next l9 ha =>
        split at hs
        · next hi =>
          cases hs
          obtain ⟨scr, g1, g2, g3, g4, g5, g6, g7⟩ := hGa _ _ _ ha
          exact ⟨W.iald (v := .int (l9.getD _ 0)) hx hb (by rw [hS.2.1 _ (Array.getElem?_eq_some_iff.mp g1).1 g7]; exact g1) g2 g3 (fun q => zidx_in hi (q.imp id (fun q => Nat.le_trans g4 q))) (g6 _ (zidx_lt hi)) rfl rfl hd (ksame rfl H locs hR hS), rfl⟩
        · cases hs
      · cases hs
    · cases hs
  | baload =>
    obtain rfl : len = 1 := eq_of_beq hlen
    dsimp only [zstH] at hs
    split at hs
    · split at hs
      · next l9 ha =>
        split at hs
        · next hi =>
          cases hs
          exact ⟨va_zald hx hb hK (zP1 (hR.2 _ _ ha (show (2 : Nat) < 1000 by decide))) 0 2 rfl rfl (zidx_in hi) hd (ksame rfl H locs hR hS), rfl⟩
        · cases hs
      · cases hs
    · split at hs
      · next l9 ha =>
        split at hs
        · next hi =>
          cases hs
          obtain ⟨scr, g1, g2, g3, g4, g5, g6, g7⟩ := hGa _ _ _ ha
          exact ⟨W.bald (v := .int (l9.getD _ 0)) hx hb (by rw [hS.2.1 _ (Array.getElem?_eq_some_iff.mp g1).1 g7]; exact g1) g2 g3 (fun q => zidx_in hi (q.imp id (fun q => Nat.le_trans g4 q))) (g6 _ (zidx_lt hi)) rfl rfl hd (ksame rfl H locs hR hS), rfl⟩
        · cases hs
      · cases hs
    · cases hs
  | laload =>
    obtain rfl : len = 1 := eq_of_beq hlen
    dsimp only [zstH] at hs
    split at hs
    · split at hs
      · next l9 ha =>
        split at hs
        · next hi =>
          cases hs
          exact ⟨va_lald hx hb hK (zP1 (hR.2 _ _ ha (show (1 : Nat) < 1000 by decide))) 0 1 rfl rfl (zidx_in hi) hd (ksame rfl H locs hR hS), rfl⟩
        · cases hs
      · cases hs
    · cases hs
  | aaload =>
    obtain rfl : len = 1 := eq_of_beq hlen
    dsimp only [zstH] at hs
    split at hs
    · split at hs
      · next l9 ha =>
        split at hs
        · next hi =>
          cases hs
          refine ⟨va_aldq hx hb hK (zP1 (hR.2 _ _ ha (show (3 : Nat) < 1000 by decide))) 0 3 rfl rfl (zidx_in hi) hd ?_, rfl⟩
          have k9 := ksame rfl H locs hR hS
          cases hz : l9.getD (Int32.toNatClampNeg _) none with
          | none => rw [hz] at k9; exact k9
          | some z => rw [hz] at k9; exact k9
        · cases hs
      · cases hs
    · cases hs
  | iastore =>
    obtain rfl : len = 1 := eq_of_beq hlen
    dsimp only [zstH] at hs
    split at hs
    · next x i a r =>
      split at hs
      · next l9 ha =>
        split at hs
        · next hi =>
          cases hs
          have hat := hR.2 _ _ ha (show (0 : Nat) < 1000 by decide)
          rw [List.length_set, zsl_set ha (by simp [zsz]), Nat.sub_self, Nat.sub_self, Nat.add_zero, Nat.add_zero] at k
          refine ⟨W.iast hx hb hat ((hK.2 0 _ rfl).1 l9.length (fun j => .int (l9.getD j 0))) (fun q => by cases q) (by show ¬ (i < 0 ∨ (arrV _ _ _).slots.size ≤ _); rw [arrV_size]; exact zidx_in hi) rfl rfl hd fun H1 e1 z1 oq => ?_, rfl⟩
          refine k H1 _ (zHR_set hR z1 oq ?_) (hS.put z1 oq (Nat.le_add_right B a))
          show H1[B + a]? = some (vp_cell _ _)
          rw [e1]
          dsimp only [vp_cell]
          rw [arrV_store, List.length_set]
          rw [zupd_i (zidx_lt hi)]
        · cases hs
      · cases hs
    · cases hs
  | bastore =>
    obtain rfl : len = 1 := eq_of_beq hlen
    dsimp only [zstH] at hs
    split at hs
    · next x i a r =>
      split at hs
      · next l9 ha =>
        split at hs
        · next hi =>
          cases hs
          have hat := hR.2 _ _ ha (show (2 : Nat) < 1000 by decide)
          rw [List.length_set, zsl_set ha (by simp [zsz]), Nat.sub_self, Nat.sub_self, Nat.add_zero, Nat.add_zero] at k
          refine ⟨W.zast hx hb hat ((hK.2 2 _ rfl).1 l9.length (fun j => .int (l9.getD j 0))) (fun q => by cases q) (by show ¬ (i < 0 ∨ (arrV _ _ _).slots.size ≤ _); rw [arrV_size]; exact zidx_in hi) rfl rfl hd fun H1 e1 z1 oq => ?_, rfl⟩
          refine k H1 _ (zHR_set hR z1 oq ?_) (hS.put z1 oq (Nat.le_add_right B a))
          show H1[B + a]? = some (vp_cell _ _)
          rw [e1]
          dsimp only [vp_cell]
          rw [arrV_store, List.length_set]
          exact congrArg (fun f => some (arrV _ _ f)) (zupd_i (zidx_lt hi))
        · cases hs
      · cases hs
    · cases hs
  | lastore =>
    obtain rfl : len = 1 := eq_of_beq hlen
    dsimp only [zstH] at hs
    split at hs
    · next x i a r =>
      split at hs
      · next l9 ha =>
        split at hs
        · next hi =>
          cases hs
          have hat := hR.2 _ _ ha (show (1 : Nat) < 1000 by decide)
          rw [List.length_set, zsl_set ha (by simp [zsz]), Nat.sub_self, Nat.sub_self, Nat.add_zero, Nat.add_zero] at k
          refine ⟨W.last hx hb hat ((hK.2 1 _ rfl).1 l9.length (fun j => .long (l9.getD j 0))) (fun q => by cases q) (by show ¬ (i < 0 ∨ (arrV _ _ _).slots.size ≤ _); rw [arrV_size]; exact zidx_in hi) rfl rfl hd fun H1 e1 z1 oq => ?_, rfl⟩
          refine k H1 _ (zHR_set hR z1 oq ?_) (hS.put z1 oq (Nat.le_add_right B a))
          show H1[B + a]? = some (vp_cell _ _)
          rw [e1]
          dsimp only [vp_cell]
          rw [arrV_store, List.length_set]
          rw [zupd_l (zidx_lt hi)]
        · cases hs
      · cases hs
    · cases hs
  | aastore =>
    obtain rfl : len = 1 := eq_of_beq hlen
    dsimp only [zstH] at hs
    split at hs
    · next v i a r =>
      split at hs
      · next l9 ci fs9 ha hv =>
        split at hs
        · next hi9 =>
          obtain ⟨hi, hci⟩ := hi9
          subst hci
          cases hs
          have hat := hR.2 _ _ ha (show (3 : Nat) < 1000 by decide)
          obtain ⟨⟨C, T, N⟩, hc, hP⟩ := hT.2.2.2.2.2.2.2.1
          obtain ⟨r', hr', cellV, g1, g2, g3, -⟩ := hR.2 _ _ hv (hci9 hc)
          subst hP
          have hcls := (hK.1 _ _ hc).2
          obtain ⟨kA, comp, k1, k2, k3, -⟩ := (hK.2 3 _ rfl).2
          have hcomp : comp = D.1 (zpc X) := Option.some.inj (k3.symm.trans hcls.1)
          subst hcomp
          obtain ⟨kC, hkC, -⟩ := hcls.2
          rw [List.length_set, zsl_set ha (by simp [zsz]), Nat.sub_self, Nat.sub_self, Nat.add_zero, Nat.add_zero] at k
          have hlt := zidx_lt hi
          have hin := zidx_in hi
          refine ⟨W.aast hx hb hat (fun q h => by cases h) (fun h => by cases h) k1 k2 rfl hkC ⟨fun q => hin (Or.inl q), by show _ < (arrV _ _ _).slots.size; rw [arrV_size]; exact hlt⟩ g1 (fun q h => by rw [g3] at h; cases h) (by rw [g2]; exact hkC) (by rw [g2]; exact va_assign hcls) rfl rfl hd fun H1 e1 z1 oq => ?_, rfl⟩
          refine k H1 _ (zHR_set hR z1 oq ?_) (hS.put z1 oq (Nat.le_add_right B a))
          show H1[B + a]? = some (vp_cell _ _)
          rw [e1]
          dsimp only [vp_cell]
          rw [arrV_store, List.length_set]
          exact congrArg (fun f => some (arrV _ _ f)) (zupd_q hlt)
        · cases hs
      · cases hs
    · cases hs
  | arraylength =>
    obtain rfl : len = 1 := eq_of_beq hlen
    dsimp only [zstH] at hs
    split at hs
    · split at hs
      · next l9 ha =>
        cases hs
        exact ⟨va_alen hx hb hK (zP1 (hR.2 _ _ ha (show (0 : Nat) < 1000 by decide))) 0 0 rfl rfl rfl hd (ksame rfl H locs hR hS), rfl⟩
      · next l9 ha =>
        cases hs
        exact ⟨va_alen hx hb hK (zP1 (hR.2 _ _ ha (show (2 : Nat) < 1000 by decide))) 0 2 rfl rfl rfl hd (ksame rfl H locs hR hS), rfl⟩
      · next l9 ha =>
        cases hs
        exact ⟨va_alen hx hb hK (zP1 (hR.2 _ _ ha (show (1 : Nat) < 1000 by decide))) 0 1 rfl rfl rfl hd (ksame rfl H locs hR hS), rfl⟩
      · next l9 ha =>
        cases hs
        exact ⟨va_alen hx hb hK (zP1 (hR.2 _ _ ha (show (3 : Nat) < 1000 by decide))) 0 3 rfl rfl rfl hd (ksame rfl H locs hR hS), rfl⟩
      · cases hs
    · split at hs
      · next b9 l9 ha =>
        cases hs
        obtain ⟨scr, g1, g2, g3, g4, g5, g6, g7⟩ := hGa _ _ _ ha
        exact ⟨W.alen hx hb (by rw [hS.2.1 _ (Array.getElem?_eq_some_iff.mp g1).1 g7]; exact g1) g2 g5 rfl rfl hd (ksame rfl H locs hR hS), rfl⟩
      · cases hs
    · cases hs
  | new j =>
    obtain rfl : len = 3 := eq_of_beq hlen
    dsimp only [zstH] at hs
    split at hs
    · next ci fs hv =>
      cases hs
      obtain ⟨⟨C, T, N⟩, hc, hw1, hw2, hw3, hfl, hdv, hfm⟩ := hT.2.2.2.2.1 _ _ _ hv
      obtain ⟨h1, h2, h3, h4, h5⟩ := hT.1 _ _ hc
      have hKn := hK.1 ci _ hc
      have hsz := hR.1
      have hps := zsl_push h (ci, .inr (.inr (.inr fs)))
      have hz9 : zsz (ci, .inr (.inr (.inr fs))) = N := hfl
      rw [hz9] at hps
      rw [List.length_append, hps] at hroom k
      simp only [List.length_cons, List.length_nil] at hroom k
      refine ⟨W.newcK hx hb hown (hts _ hw1) (hts _ hw2) (hts _ hw3) rfl hd (by omega) (by show _ + N ≤ _; omega) hKn.2.1 rfl fun H1 kC hkC e1 z1 o1 => ?_, rfl⟩
      have k9 := k H1 locs (zHR_push hR z1 o1 ?_) ⟨Nat.le_trans hS.1 (by omega), fun x g1 g2 => (o1 x (Nat.lt_of_lt_of_le g1 hS.1)).trans (hS.2.1 x g1 g2), hS.2.2⟩
      · refine W.cs (cells' := cells + (h.length + (0 + 1) - h.length)) (slots' := slots + (zsl h + N - zsl h)) (by omega) (by show _ + N = _; omega) ?_
        show W _ _ _ _ _ _ _ _ _ _ _ _ _ _ _ (F0 m (pc + 3) LS (.ref H.size :: _))
        rw [hsz]
        exact k9
      · have hb9 := u_born (fun k => zty X ci k) hts h1 hKn hkC e1 h2
        refine ⟨_, hc, ?_⟩
        have hb8 := hb9.to (V' := vp_V fs) hdv
        show t_OB _ _ _ _ _ (vp_V (fs.map (zcv B xa)))
        rw [hfm]
        exact hb8
    · cases hs
  | newarray aty =>
    obtain rfl : len = 2 := eq_of_beq hlen
    cases aty with
    | int =>
      dsimp only [zstH] at hs
      split at hs
      · next n r =>
        split at hs
        · cases hs
        · next hn =>
          cases hs
          have hsz := hR.1
          have hps := zsl_push h (0, .inl (List.replicate n.toNatClampNeg 0))
          have hz9 : zsz (0, .inl (List.replicate n.toNatClampNeg 0)) = n.toNatClampNeg := List.length_replicate
          rw [hz9] at hps
          rw [List.length_append, hps] at hroom k
          simp only [List.length_cons, List.length_nil] at hroom k
          refine ⟨va_newaK hx hb (atype := .int) (hts _ hT.2.2.2.2.2.1.1) rfl hd rfl (fun q => hn (Or.inl q)) rfl (by show _ * 4 ≤ _; have := fun q => hn (Or.inr q); omega) (by omega) (by omega) rfl fun H1 cA e1 z1 o1 hAr hNm => ?_, rfl⟩
          have hcA : cA = ca 0 := Option.some.inj (hNm.symm.trans (hK.2 0 _ rfl).2)
          subst hcA
          have k9 := k H1 locs (zHR_push hR z1 o1 ?_) ⟨Nat.le_trans hS.1 (by omega), fun x g1 g2 => (o1 x (Nat.lt_of_lt_of_le g1 hS.1)).trans (hS.2.1 x g1 g2), hS.2.2⟩
          · refine W.cs (cells' := cells + (h.length + (0 + 1) - h.length)) (slots' := slots + (zsl h + n.toNatClampNeg - zsl h)) (by omega) (by omega) ?_
            show W _ _ _ _ _ _ _ _ _ _ _ _ _ _ _ (F0 m (pc + 2) LS (.ref H.size :: _))
            rw [hsz]
            exact k9
          · show H1[H.size]? = some (vp_cell _ _)
            rw [e1]
            dsimp only [vp_cell]
            rw [List.length_replicate]
            refine congrArg (fun f => some (arrV _ _ f)) ?_
            funext j
            simp [List.getD_eq_getElem?_getD, List.getElem?_replicate, newarray.typeOf, defaultValue]
            try (split <;> rfl)
      · cases hs
    | boolean =>
      dsimp only [zstH] at hs
      split at hs
      · next n r =>
        split at hs
        · cases hs
        · next hn =>
          cases hs
          have hsz := hR.1
          have hps := zsl_push h (2, .inl (List.replicate n.toNatClampNeg 0))
          have hz9 : zsz (2, .inl (List.replicate n.toNatClampNeg 0)) = n.toNatClampNeg := List.length_replicate
          rw [hz9] at hps
          rw [List.length_append, hps] at hroom k
          simp only [List.length_cons, List.length_nil] at hroom k
          refine ⟨va_newaK hx hb (atype := .boolean) (hts _ hT.2.2.2.2.2.1.2.2) rfl hd rfl (fun q => hn (Or.inl q)) rfl (by show _ * 1 ≤ _; have := fun q => hn (Or.inr q); omega) (by omega) (by omega) rfl fun H1 cA e1 z1 o1 hAr hNm => ?_, rfl⟩
          have hcA : cA = ca 2 := Option.some.inj (hNm.symm.trans (hK.2 2 _ rfl).2)
          subst hcA
          have k9 := k H1 locs (zHR_push hR z1 o1 ?_) ⟨Nat.le_trans hS.1 (by omega), fun x g1 g2 => (o1 x (Nat.lt_of_lt_of_le g1 hS.1)).trans (hS.2.1 x g1 g2), hS.2.2⟩
          · refine W.cs (cells' := cells + (h.length + (0 + 1) - h.length)) (slots' := slots + (zsl h + n.toNatClampNeg - zsl h)) (by omega) (by omega) ?_
            show W _ _ _ _ _ _ _ _ _ _ _ _ _ _ _ (F0 m (pc + 2) LS (.ref H.size :: _))
            rw [hsz]
            exact k9
          · show H1[H.size]? = some (vp_cell _ _)
            rw [e1]
            dsimp only [vp_cell]
            rw [List.length_replicate]
            refine congrArg (fun f => some (arrV _ _ f)) ?_
            funext j
            simp [List.getD_eq_getElem?_getD, List.getElem?_replicate, newarray.typeOf, defaultValue]
            try (split <;> rfl)
      · cases hs
    | long =>
      dsimp only [zstH] at hs
      split at hs
      · next n r =>
        split at hs
        · cases hs
        · next hn =>
          cases hs
          have hsz := hR.1
          have hps := zsl_push h (1, .inr <| .inl <| (List.replicate n.toNatClampNeg 0))
          have hz9 : zsz (1, .inr <| .inl <| (List.replicate n.toNatClampNeg 0)) = n.toNatClampNeg := List.length_replicate
          rw [hz9] at hps
          rw [List.length_append, hps] at hroom k
          simp only [List.length_cons, List.length_nil] at hroom k
          refine ⟨va_newaK hx hb (atype := .long) (hts _ hT.2.2.2.2.2.1.2.1) rfl hd rfl (fun q => hn (Or.inl q)) rfl (by show _ * 8 ≤ _; have := fun q => hn (Or.inr q); omega) (by omega) (by omega) rfl fun H1 cA e1 z1 o1 hAr hNm => ?_, rfl⟩
          have hcA : cA = ca 1 := Option.some.inj (hNm.symm.trans (hK.2 1 _ rfl).2)
          subst hcA
          have k9 := k H1 locs (zHR_push hR z1 o1 ?_) ⟨Nat.le_trans hS.1 (by omega), fun x g1 g2 => (o1 x (Nat.lt_of_lt_of_le g1 hS.1)).trans (hS.2.1 x g1 g2), hS.2.2⟩
          · refine W.cs (cells' := cells + (h.length + (0 + 1) - h.length)) (slots' := slots + (zsl h + n.toNatClampNeg - zsl h)) (by omega) (by omega) ?_
            show W _ _ _ _ _ _ _ _ _ _ _ _ _ _ _ (F0 m (pc + 2) LS (.ref H.size :: _))
            rw [hsz]
            exact k9
          · show H1[H.size]? = some (vp_cell _ _)
            rw [e1]
            dsimp only [vp_cell]
            rw [List.length_replicate]
            refine congrArg (fun f => some (arrV _ _ f)) ?_
            funext j
            simp [List.getD_eq_getElem?_getD, List.getElem?_replicate, newarray.typeOf, defaultValue]
            try (split <;> rfl)
      · cases hs
    | _ => exact nomatch (show (none : Option (Nat × zL × List Value × zH)) = some _ from hs)
  | anewarray j =>
    obtain rfl : len = 3 := eq_of_beq hlen
    dsimp only [zstH] at hs
    split at hs
    · next n r =>
      split at hs
      · cases hs
      · next hn =>
        cases hs
        have hsz := hR.1
        have hps := zsl_push h (3, .inr (.inr (.inl (List.replicate n.toNatClampNeg none))))
        have hz9 : zsz (3, .inr (.inr (.inl (List.replicate n.toNatClampNeg none)))) = n.toNatClampNeg := List.length_replicate
        rw [hz9] at hps
        rw [List.length_append, hps] at hroom k
        simp only [List.length_cons, List.length_nil] at hroom k
        have hq : zisP X c0 j = true := by
          cases hz : zisP X c0 j with
          | true => rfl
          | false => exact absurd (Or.inr (Or.inr hz)) hn
        refine ⟨W.anew hx hb hown (hts _ (hT.2.2.2.2.2.2.1 _ hq)) (va_AO.use hAO) rfl hd rfl (fun q => hn (Or.inl q)) (by have := fun q => hn (Or.inr (Or.inl q)); omega) (by omega) (by omega) fun cA kA comp f1 f2 f3 f4 => ?_, rfl⟩
        obtain ⟨kA', comp', k1, k2, k3, k4⟩ := (hK.2 3 _ rfl).2
        have hcA : cA = ca 3 := Option.some.inj (f1.symm.trans k4)
        subst hcA
        generalize hH1 : H.push ({ cls := ca 3, slots := Array.replicate n.toNatClampNeg .null, vm := .none } : Cell) = H1
        have z1 : H1.size = H.size + 1 := by rw [← hH1, Array.size_push]
        have e1 : H1[H.size]? = some (arrV (ca 3) n.toNatClampNeg (fun _ => .null)) := by rw [← hH1, Array.getElem?_push_size, ← arrV_new]
        have o1 : ∀ q : Nat, q < H.size → H1[q]? = H[q]? := fun q hq => by rw [← hH1, Array.getElem?_push, if_neg (Nat.ne_of_lt hq)]
        have k9 := k H1 locs (zHR_push hR z1 o1 ?_) ⟨Nat.le_trans hS.1 (by omega), fun x g1 g2 => (o1 x (Nat.lt_of_lt_of_le g1 hS.1)).trans (hS.2.1 x g1 g2), hS.2.2⟩
        · refine W.cs (cells' := cells + (h.length + (0 + 1) - h.length)) (slots' := slots + (zsl h + n.toNatClampNeg - zsl h)) (by omega) (by omega) ?_
          show W _ _ _ _ _ _ _ _ _ _ _ _ _ _ _ (F0 m (pc + 3) LS (.ref H.size :: _))
          rw [hsz]
          exact k9
        · show H1[H.size]? = some (vp_cell _ _)
          rw [e1]
          dsimp only [vp_cell]
          rw [List.length_replicate]
          refine congrArg (fun f => some (arrV _ _ f)) ?_
          funext j
          by_cases hj : j < n.toNatClampNeg <;> simp [List.getD_eq_getElem?_getD, List.getElem?_replicate, va_rf, hj]
    · cases hs
  | _ => exact nomatch (show (none : Option (Nat × zL × List Value × zH)) = some _ from hs)
end ZS
