/-! The reference's lines: what is full, what stands once. -/
def fulR (L : Nat → Nat) (w : Nat) : Bool := decide (1 ≤ w ∧ w ≤ 5 ∧ L w = mN w)
def onR (w : Nat) : Bool := decide (w = 0 ∨ w = 6 ∨ w = 7)
theorem ct_isFullR {nf : Bool} {xs : List Int32} {d : Nat} {m : xM} {g : xL} {G : xG} {L : Nat → Nat} {w : Nat} (hN : GK G) (hw : w < 9) (hL : ∀ w : Nat, 1 ≤ w → w ≤ 5 → m 130 (9 + w) = Int32.ofNat (L w) ∧ L w ≤ 8) : CT nf xs d 167 [.ref 128, .int (Int32.ofNat w)] m g G (PE (some (.int (bI (fulR L w)))) m g) := by
  refine CT.of (c := 11) (ini := false) (nL := 2) (rt := some .boolean) (tab := zt167) rfl (fun d' r h' N hd hr => ?_)
  replace hr : RR nf xs d' 11 false 2 (some .boolean) zt167 G r h' N (0, [(0, .ref 128), (1, .int (Int32.ofNat w))], [], m, g) := hr
  rcases (show w = 0 ∨ w = 1 ∨ w = 2 ∨ w = 3 ∨ w = 4 ∨ w = 5 ∨ w = 6 ∨ w = 7 ∨ w = 8 by omega) with rfl | rfl | rfl | rfl | rfl | rfl | rfl | rfl | rfl
  · replace hr := hr.go (s_iload_n t167_0 rfl)
    replace hr := hr.go (s_k t167_1)
    rcases hr.bNe t167_2 with ⟨b2, hr⟩ | ⟨b2, hr⟩
    · replace hr := hr.go (s_iload_n t167_15 rfl)
      replace hr := hr.go (s_k t167_16)
      rcases hr.bNe t167_17 with ⟨b17, hr⟩ | ⟨b17, hr⟩
      · replace hr := hr.go (s_iload_n t167_30 rfl)
        replace hr := hr.go (s_k t167_31)
        rcases hr.bNe t167_32 with ⟨b32, hr⟩ | ⟨b32, hr⟩
        · replace hr := hr.go (s_iload_n t167_45 rfl)
          replace hr := hr.go (s_k t167_46)
          rcases hr.bNe t167_47 with ⟨b47, hr⟩ | ⟨b47, hr⟩
          · replace hr := hr.go (s_iload_n t167_59 rfl)
            replace hr := hr.go (s_k t167_60)
            rcases hr.bNe t167_61 with ⟨b61, hr⟩ | ⟨b61, hr⟩
            · replace hr := hr.go (s_k t167_77)
              obtain ⟨rfl, hs⟩ := hr.iret t167_78
              exact ⟨_, _, hs, rfl, rfl, rfl⟩
            · exact absurd b61 (by decide)
          · exact absurd b47 (by decide)
        · exact absurd b32 (by decide)
      · exact absurd b17 (by decide)
    · exact absurd b2 (by decide)
  · replace hr := hr.go (s_iload_n t167_0 rfl)
    replace hr := hr.go (s_k t167_1)
    rcases hr.bNe t167_2 with ⟨b2, hr⟩ | ⟨b2, hr⟩
    · exact absurd b2 (by decide)
    · replace hr := hr.go (s_aload_n t167_5 rfl)
      replace hr := hr.go (s_k t167_6)
      replace hr := hr.cvI t167_7 rfl rfl (ct_fresher hN.1 hN.2.1)
      replace hr := hr.go (s_k t167_10)
      have hl := hL 1 (by decide) (by decide)
      have e0 : m 130 (9 + (1 : Int32)).toNatClampNeg = Int32.ofNat (L 1) := hl.1
      rw [e0] at hr
      rcases hr.bEq t167_12 with ⟨b12, hr⟩ | ⟨b12, hr⟩
      · replace hr := hr.go (s_k t167_73)
        replace hr := hr.go (s_goto t167_74)
        obtain ⟨rfl, hs⟩ := hr.iret t167_78
        exact ⟨_, _, hs, by unfold fulR; rw [decide_eq_true ⟨by decide, by decide, (xn_eq (b := 6) (by have := hl.2; omega) (by decide)).mp b12⟩]; rfl, rfl, rfl⟩
      · replace hr := hr.go (s_iload_n t167_15 rfl)
        replace hr := hr.go (s_k t167_16)
        rcases hr.bNe t167_17 with ⟨b17, hr⟩ | ⟨b17, hr⟩
        · replace hr := hr.go (s_iload_n t167_30 rfl)
          replace hr := hr.go (s_k t167_31)
          rcases hr.bNe t167_32 with ⟨b32, hr⟩ | ⟨b32, hr⟩
          · replace hr := hr.go (s_iload_n t167_45 rfl)
            replace hr := hr.go (s_k t167_46)
            rcases hr.bNe t167_47 with ⟨b47, hr⟩ | ⟨b47, hr⟩
            · replace hr := hr.go (s_iload_n t167_59 rfl)
              replace hr := hr.go (s_k t167_60)
              rcases hr.bNe t167_61 with ⟨b61, hr⟩ | ⟨b61, hr⟩
              · replace hr := hr.go (s_k t167_77)
                obtain ⟨rfl, hs⟩ := hr.iret t167_78
                exact ⟨_, _, hs, by unfold fulR; rw [decide_eq_false (fun q => b12 ((xn_eq (b := 6) (by have := hl.2; omega) (by decide)).mpr q.2.2))]; rfl, rfl, rfl⟩
              · exact absurd b61 (by decide)
            · exact absurd b47 (by decide)
          · exact absurd b32 (by decide)
        · exact absurd b17 (by decide)
  · replace hr := hr.go (s_iload_n t167_0 rfl)
    replace hr := hr.go (s_k t167_1)
    rcases hr.bNe t167_2 with ⟨b2, hr⟩ | ⟨b2, hr⟩
    · replace hr := hr.go (s_iload_n t167_15 rfl)
      replace hr := hr.go (s_k t167_16)
      rcases hr.bNe t167_17 with ⟨b17, hr⟩ | ⟨b17, hr⟩
      · exact absurd b17 (by decide)
      · replace hr := hr.go (s_aload_n t167_20 rfl)
        replace hr := hr.go (s_k t167_21)
        replace hr := hr.cvI t167_22 rfl rfl (ct_fresher hN.1 hN.2.1)
        replace hr := hr.go (s_k t167_25)
        have hl := hL 2 (by decide) (by decide)
        have e0 : m 130 (9 + (2 : Int32)).toNatClampNeg = Int32.ofNat (L 2) := hl.1
        rw [e0] at hr
        rcases hr.bEq t167_27 with ⟨b27, hr⟩ | ⟨b27, hr⟩
        · replace hr := hr.go (s_k t167_73)
          replace hr := hr.go (s_goto t167_74)
          obtain ⟨rfl, hs⟩ := hr.iret t167_78
          exact ⟨_, _, hs, by unfold fulR; rw [decide_eq_true ⟨by decide, by decide, (xn_eq (b := 6) (by have := hl.2; omega) (by decide)).mp b27⟩]; rfl, rfl, rfl⟩
        · replace hr := hr.go (s_iload_n t167_30 rfl)
          replace hr := hr.go (s_k t167_31)
          rcases hr.bNe t167_32 with ⟨b32, hr⟩ | ⟨b32, hr⟩
          · replace hr := hr.go (s_iload_n t167_45 rfl)
            replace hr := hr.go (s_k t167_46)
            rcases hr.bNe t167_47 with ⟨b47, hr⟩ | ⟨b47, hr⟩
            · replace hr := hr.go (s_iload_n t167_59 rfl)
              replace hr := hr.go (s_k t167_60)
              rcases hr.bNe t167_61 with ⟨b61, hr⟩ | ⟨b61, hr⟩
              · replace hr := hr.go (s_k t167_77)
                obtain ⟨rfl, hs⟩ := hr.iret t167_78
                exact ⟨_, _, hs, by unfold fulR; rw [decide_eq_false (fun q => b27 ((xn_eq (b := 6) (by have := hl.2; omega) (by decide)).mpr q.2.2))]; rfl, rfl, rfl⟩
              · exact absurd b61 (by decide)
            · exact absurd b47 (by decide)
          · exact absurd b32 (by decide)
    · exact absurd b2 (by decide)
  · replace hr := hr.go (s_iload_n t167_0 rfl)
    replace hr := hr.go (s_k t167_1)
    rcases hr.bNe t167_2 with ⟨b2, hr⟩ | ⟨b2, hr⟩
    · replace hr := hr.go (s_iload_n t167_15 rfl)
      replace hr := hr.go (s_k t167_16)
      rcases hr.bNe t167_17 with ⟨b17, hr⟩ | ⟨b17, hr⟩
      · replace hr := hr.go (s_iload_n t167_30 rfl)
        replace hr := hr.go (s_k t167_31)
        rcases hr.bNe t167_32 with ⟨b32, hr⟩ | ⟨b32, hr⟩
        · exact absurd b32 (by decide)
        · replace hr := hr.go (s_aload_n t167_35 rfl)
          replace hr := hr.go (s_k t167_36)
          replace hr := hr.cvI t167_37 rfl rfl (ct_fresher hN.1 hN.2.1)
          replace hr := hr.go (s_k t167_40)
          have hl := hL 3 (by decide) (by decide)
          have e0 : m 130 (9 + (3 : Int32)).toNatClampNeg = Int32.ofNat (L 3) := hl.1
          rw [e0] at hr
          rcases hr.bEq t167_42 with ⟨b42, hr⟩ | ⟨b42, hr⟩
          · replace hr := hr.go (s_k t167_73)
            replace hr := hr.go (s_goto t167_74)
            obtain ⟨rfl, hs⟩ := hr.iret t167_78
            exact ⟨_, _, hs, by unfold fulR; rw [decide_eq_true ⟨by decide, by decide, (xn_eq (b := 8) (by have := hl.2; omega) (by decide)).mp b42⟩]; rfl, rfl, rfl⟩
          · replace hr := hr.go (s_iload_n t167_45 rfl)
            replace hr := hr.go (s_k t167_46)
            rcases hr.bNe t167_47 with ⟨b47, hr⟩ | ⟨b47, hr⟩
            · replace hr := hr.go (s_iload_n t167_59 rfl)
              replace hr := hr.go (s_k t167_60)
              rcases hr.bNe t167_61 with ⟨b61, hr⟩ | ⟨b61, hr⟩
              · replace hr := hr.go (s_k t167_77)
                obtain ⟨rfl, hs⟩ := hr.iret t167_78
                exact ⟨_, _, hs, by unfold fulR; rw [decide_eq_false (fun q => b42 ((xn_eq (b := 8) (by have := hl.2; omega) (by decide)).mpr q.2.2))]; rfl, rfl, rfl⟩
              · exact absurd b61 (by decide)
            · exact absurd b47 (by decide)
      · exact absurd b17 (by decide)
    · exact absurd b2 (by decide)
  · replace hr := hr.go (s_iload_n t167_0 rfl)
    replace hr := hr.go (s_k t167_1)
    rcases hr.bNe t167_2 with ⟨b2, hr⟩ | ⟨b2, hr⟩
    · replace hr := hr.go (s_iload_n t167_15 rfl)
      replace hr := hr.go (s_k t167_16)
      rcases hr.bNe t167_17 with ⟨b17, hr⟩ | ⟨b17, hr⟩
      · replace hr := hr.go (s_iload_n t167_30 rfl)
        replace hr := hr.go (s_k t167_31)
        rcases hr.bNe t167_32 with ⟨b32, hr⟩ | ⟨b32, hr⟩
        · replace hr := hr.go (s_iload_n t167_45 rfl)
          replace hr := hr.go (s_k t167_46)
          rcases hr.bNe t167_47 with ⟨b47, hr⟩ | ⟨b47, hr⟩
          · exact absurd b47 (by decide)
          · replace hr := hr.go (s_aload_n t167_50 rfl)
            replace hr := hr.go (s_k t167_51)
            replace hr := hr.cvI t167_52 rfl rfl (ct_fresher hN.1 hN.2.1)
            replace hr := hr.go (s_k t167_55)
            have hl := hL 4 (by decide) (by decide)
            have e0 : m 130 (9 + (4 : Int32)).toNatClampNeg = Int32.ofNat (L 4) := hl.1
            rw [e0] at hr
            rcases hr.bEq t167_56 with ⟨b56, hr⟩ | ⟨b56, hr⟩
            · replace hr := hr.go (s_k t167_73)
              replace hr := hr.go (s_goto t167_74)
              obtain ⟨rfl, hs⟩ := hr.iret t167_78
              exact ⟨_, _, hs, by unfold fulR; rw [decide_eq_true ⟨by decide, by decide, (xn_eq (b := 5) (by have := hl.2; omega) (by decide)).mp b56⟩]; rfl, rfl, rfl⟩
            · replace hr := hr.go (s_iload_n t167_59 rfl)
              replace hr := hr.go (s_k t167_60)
              rcases hr.bNe t167_61 with ⟨b61, hr⟩ | ⟨b61, hr⟩
              · replace hr := hr.go (s_k t167_77)
                obtain ⟨rfl, hs⟩ := hr.iret t167_78
                exact ⟨_, _, hs, by unfold fulR; rw [decide_eq_false (fun q => b56 ((xn_eq (b := 5) (by have := hl.2; omega) (by decide)).mpr q.2.2))]; rfl, rfl, rfl⟩
              · exact absurd b61 (by decide)
        · exact absurd b32 (by decide)
      · exact absurd b17 (by decide)
    · exact absurd b2 (by decide)
  · replace hr := hr.go (s_iload_n t167_0 rfl)
    replace hr := hr.go (s_k t167_1)
    rcases hr.bNe t167_2 with ⟨b2, hr⟩ | ⟨b2, hr⟩
    · replace hr := hr.go (s_iload_n t167_15 rfl)
      replace hr := hr.go (s_k t167_16)
      rcases hr.bNe t167_17 with ⟨b17, hr⟩ | ⟨b17, hr⟩
      · replace hr := hr.go (s_iload_n t167_30 rfl)
        replace hr := hr.go (s_k t167_31)
        rcases hr.bNe t167_32 with ⟨b32, hr⟩ | ⟨b32, hr⟩
        · replace hr := hr.go (s_iload_n t167_45 rfl)
          replace hr := hr.go (s_k t167_46)
          rcases hr.bNe t167_47 with ⟨b47, hr⟩ | ⟨b47, hr⟩
          · replace hr := hr.go (s_iload_n t167_59 rfl)
            replace hr := hr.go (s_k t167_60)
            rcases hr.bNe t167_61 with ⟨b61, hr⟩ | ⟨b61, hr⟩
            · exact absurd b61 (by decide)
            · replace hr := hr.go (s_aload_n t167_64 rfl)
              replace hr := hr.go (s_k t167_65)
              replace hr := hr.cvI t167_66 rfl rfl (ct_fresher hN.1 hN.2.1)
              replace hr := hr.go (s_k t167_69)
              have hl := hL 5 (by decide) (by decide)
              have e0 : m 130 (9 + (5 : Int32)).toNatClampNeg = Int32.ofNat (L 5) := hl.1
              rw [e0] at hr
              rcases hr.bNe t167_70 with ⟨b70, hr⟩ | ⟨b70, hr⟩
              · replace hr := hr.go (s_k t167_77)
                obtain ⟨rfl, hs⟩ := hr.iret t167_78
                exact ⟨_, _, hs, by unfold fulR; rw [decide_eq_false (fun q => b70 ((xn_eq (b := 3) (by have := hl.2; omega) (by decide)).mpr q.2.2))]; rfl, rfl, rfl⟩
              · replace hr := hr.go (s_k t167_73)
                replace hr := hr.go (s_goto t167_74)
                obtain ⟨rfl, hs⟩ := hr.iret t167_78
                exact ⟨_, _, hs, by unfold fulR; rw [decide_eq_true ⟨by decide, by decide, (xn_eq (b := 3) (by have := hl.2; omega) (by decide)).mp b70⟩]; rfl, rfl, rfl⟩
          · exact absurd b47 (by decide)
        · exact absurd b32 (by decide)
      · exact absurd b17 (by decide)
    · exact absurd b2 (by decide)
  · replace hr := hr.go (s_iload_n t167_0 rfl)
    replace hr := hr.go (s_k t167_1)
    rcases hr.bNe t167_2 with ⟨b2, hr⟩ | ⟨b2, hr⟩
    · replace hr := hr.go (s_iload_n t167_15 rfl)
      replace hr := hr.go (s_k t167_16)
      rcases hr.bNe t167_17 with ⟨b17, hr⟩ | ⟨b17, hr⟩
      · replace hr := hr.go (s_iload_n t167_30 rfl)
        replace hr := hr.go (s_k t167_31)
        rcases hr.bNe t167_32 with ⟨b32, hr⟩ | ⟨b32, hr⟩
        · replace hr := hr.go (s_iload_n t167_45 rfl)
          replace hr := hr.go (s_k t167_46)
          rcases hr.bNe t167_47 with ⟨b47, hr⟩ | ⟨b47, hr⟩
          · replace hr := hr.go (s_iload_n t167_59 rfl)
            replace hr := hr.go (s_k t167_60)
            rcases hr.bNe t167_61 with ⟨b61, hr⟩ | ⟨b61, hr⟩
            · replace hr := hr.go (s_k t167_77)
              obtain ⟨rfl, hs⟩ := hr.iret t167_78
              exact ⟨_, _, hs, rfl, rfl, rfl⟩
            · exact absurd b61 (by decide)
          · exact absurd b47 (by decide)
        · exact absurd b32 (by decide)
      · exact absurd b17 (by decide)
    · exact absurd b2 (by decide)
  · replace hr := hr.go (s_iload_n t167_0 rfl)
    replace hr := hr.go (s_k t167_1)
    rcases hr.bNe t167_2 with ⟨b2, hr⟩ | ⟨b2, hr⟩
    · replace hr := hr.go (s_iload_n t167_15 rfl)
      replace hr := hr.go (s_k t167_16)
      rcases hr.bNe t167_17 with ⟨b17, hr⟩ | ⟨b17, hr⟩
      · replace hr := hr.go (s_iload_n t167_30 rfl)
        replace hr := hr.go (s_k t167_31)
        rcases hr.bNe t167_32 with ⟨b32, hr⟩ | ⟨b32, hr⟩
        · replace hr := hr.go (s_iload_n t167_45 rfl)
          replace hr := hr.go (s_k t167_46)
          rcases hr.bNe t167_47 with ⟨b47, hr⟩ | ⟨b47, hr⟩
          · replace hr := hr.go (s_iload_n t167_59 rfl)
            replace hr := hr.go (s_k t167_60)
            rcases hr.bNe t167_61 with ⟨b61, hr⟩ | ⟨b61, hr⟩
            · replace hr := hr.go (s_k t167_77)
              obtain ⟨rfl, hs⟩ := hr.iret t167_78
              exact ⟨_, _, hs, rfl, rfl, rfl⟩
            · exact absurd b61 (by decide)
          · exact absurd b47 (by decide)
        · exact absurd b32 (by decide)
      · exact absurd b17 (by decide)
    · exact absurd b2 (by decide)
  · replace hr := hr.go (s_iload_n t167_0 rfl)
    replace hr := hr.go (s_k t167_1)
    rcases hr.bNe t167_2 with ⟨b2, hr⟩ | ⟨b2, hr⟩
    · replace hr := hr.go (s_iload_n t167_15 rfl)
      replace hr := hr.go (s_k t167_16)
      rcases hr.bNe t167_17 with ⟨b17, hr⟩ | ⟨b17, hr⟩
      · replace hr := hr.go (s_iload_n t167_30 rfl)
        replace hr := hr.go (s_k t167_31)
        rcases hr.bNe t167_32 with ⟨b32, hr⟩ | ⟨b32, hr⟩
        · replace hr := hr.go (s_iload_n t167_45 rfl)
          replace hr := hr.go (s_k t167_46)
          rcases hr.bNe t167_47 with ⟨b47, hr⟩ | ⟨b47, hr⟩
          · replace hr := hr.go (s_iload_n t167_59 rfl)
            replace hr := hr.go (s_k t167_60)
            rcases hr.bNe t167_61 with ⟨b61, hr⟩ | ⟨b61, hr⟩
            · replace hr := hr.go (s_k t167_77)
              obtain ⟨rfl, hs⟩ := hr.iret t167_78
              exact ⟨_, _, hs, rfl, rfl, rfl⟩
            · exact absurd b61 (by decide)
          · exact absurd b47 (by decide)
        · exact absurd b32 (by decide)
      · exact absurd b17 (by decide)
    · exact absurd b2 (by decide)
theorem ct_isOnce {nf : Bool} {xs : List Int32} {d : Nat} {m : xM} {g : xL} {G : xG} {w : Nat} (hw : w < 9) : CT nf xs d 168 [.int (Int32.ofNat w)] m g G (PE (some (.int (bI (onR w)))) m g) := by
  refine CT.of (c := 11) (ini := false) (nL := 1) (rt := some .boolean) (tab := zt168) rfl (fun d' r h' N hd hr => ?_)
  replace hr : RR nf xs d' 11 false 1 (some .boolean) zt168 G r h' N (0, [(0, .int (Int32.ofNat w))], [], m, g) := hr
  rcases (show w = 0 ∨ w = 1 ∨ w = 2 ∨ w = 3 ∨ w = 4 ∨ w = 5 ∨ w = 6 ∨ w = 7 ∨ w = 8 by omega) with rfl | rfl | rfl | rfl | rfl | rfl | rfl | rfl | rfl
  · replace hr := hr.go (s_iload_n t168_0 rfl)
    rcases hr.zEq t168_1 with ⟨b1, hr⟩ | ⟨b1, hr⟩
    · replace hr := hr.go (s_k t168_16)
      replace hr := hr.go (s_goto t168_17)
      obtain ⟨rfl, hs⟩ := hr.iret t168_21
      exact ⟨_, _, hs, rfl, rfl, rfl⟩
    · exact absurd b1 (by decide)
  · replace hr := hr.go (s_iload_n t168_0 rfl)
    rcases hr.zEq t168_1 with ⟨b1, hr⟩ | ⟨b1, hr⟩
    · exact absurd b1 (by decide)
    · replace hr := hr.go (s_iload_n t168_4 rfl)
      replace hr := hr.go (s_k t168_5)
      rcases hr.bEq t168_7 with ⟨b7, hr⟩ | ⟨b7, hr⟩
      · exact absurd b7 (by decide)
      · replace hr := hr.go (s_iload_n t168_10 rfl)
        replace hr := hr.go (s_k t168_11)
        rcases hr.bNe t168_13 with ⟨b13, hr⟩ | ⟨b13, hr⟩
        · replace hr := hr.go (s_k t168_20)
          obtain ⟨rfl, hs⟩ := hr.iret t168_21
          exact ⟨_, _, hs, rfl, rfl, rfl⟩
        · exact absurd b13 (by decide)
  · replace hr := hr.go (s_iload_n t168_0 rfl)
    rcases hr.zEq t168_1 with ⟨b1, hr⟩ | ⟨b1, hr⟩
    · exact absurd b1 (by decide)
    · replace hr := hr.go (s_iload_n t168_4 rfl)
      replace hr := hr.go (s_k t168_5)
      rcases hr.bEq t168_7 with ⟨b7, hr⟩ | ⟨b7, hr⟩
      · exact absurd b7 (by decide)
      · replace hr := hr.go (s_iload_n t168_10 rfl)
        replace hr := hr.go (s_k t168_11)
        rcases hr.bNe t168_13 with ⟨b13, hr⟩ | ⟨b13, hr⟩
        · replace hr := hr.go (s_k t168_20)
          obtain ⟨rfl, hs⟩ := hr.iret t168_21
          exact ⟨_, _, hs, rfl, rfl, rfl⟩
        · exact absurd b13 (by decide)
  · replace hr := hr.go (s_iload_n t168_0 rfl)
    rcases hr.zEq t168_1 with ⟨b1, hr⟩ | ⟨b1, hr⟩
    · exact absurd b1 (by decide)
    · replace hr := hr.go (s_iload_n t168_4 rfl)
      replace hr := hr.go (s_k t168_5)
      rcases hr.bEq t168_7 with ⟨b7, hr⟩ | ⟨b7, hr⟩
      · exact absurd b7 (by decide)
      · replace hr := hr.go (s_iload_n t168_10 rfl)
        replace hr := hr.go (s_k t168_11)
        rcases hr.bNe t168_13 with ⟨b13, hr⟩ | ⟨b13, hr⟩
        · replace hr := hr.go (s_k t168_20)
          obtain ⟨rfl, hs⟩ := hr.iret t168_21
          exact ⟨_, _, hs, rfl, rfl, rfl⟩
        · exact absurd b13 (by decide)
  · replace hr := hr.go (s_iload_n t168_0 rfl)
    rcases hr.zEq t168_1 with ⟨b1, hr⟩ | ⟨b1, hr⟩
    · exact absurd b1 (by decide)
    · replace hr := hr.go (s_iload_n t168_4 rfl)
      replace hr := hr.go (s_k t168_5)
      rcases hr.bEq t168_7 with ⟨b7, hr⟩ | ⟨b7, hr⟩
      · exact absurd b7 (by decide)
      · replace hr := hr.go (s_iload_n t168_10 rfl)
        replace hr := hr.go (s_k t168_11)
        rcases hr.bNe t168_13 with ⟨b13, hr⟩ | ⟨b13, hr⟩
        · replace hr := hr.go (s_k t168_20)
          obtain ⟨rfl, hs⟩ := hr.iret t168_21
          exact ⟨_, _, hs, rfl, rfl, rfl⟩
        · exact absurd b13 (by decide)
  · replace hr := hr.go (s_iload_n t168_0 rfl)
    rcases hr.zEq t168_1 with ⟨b1, hr⟩ | ⟨b1, hr⟩
    · exact absurd b1 (by decide)
    · replace hr := hr.go (s_iload_n t168_4 rfl)
      replace hr := hr.go (s_k t168_5)
      rcases hr.bEq t168_7 with ⟨b7, hr⟩ | ⟨b7, hr⟩
      · exact absurd b7 (by decide)
      · replace hr := hr.go (s_iload_n t168_10 rfl)
        replace hr := hr.go (s_k t168_11)
        rcases hr.bNe t168_13 with ⟨b13, hr⟩ | ⟨b13, hr⟩
        · replace hr := hr.go (s_k t168_20)
          obtain ⟨rfl, hs⟩ := hr.iret t168_21
          exact ⟨_, _, hs, rfl, rfl, rfl⟩
        · exact absurd b13 (by decide)
  · replace hr := hr.go (s_iload_n t168_0 rfl)
    rcases hr.zEq t168_1 with ⟨b1, hr⟩ | ⟨b1, hr⟩
    · exact absurd b1 (by decide)
    · replace hr := hr.go (s_iload_n t168_4 rfl)
      replace hr := hr.go (s_k t168_5)
      rcases hr.bEq t168_7 with ⟨b7, hr⟩ | ⟨b7, hr⟩
      · replace hr := hr.go (s_k t168_16)
        replace hr := hr.go (s_goto t168_17)
        obtain ⟨rfl, hs⟩ := hr.iret t168_21
        exact ⟨_, _, hs, rfl, rfl, rfl⟩
      · exact absurd b7 (by decide)
  · replace hr := hr.go (s_iload_n t168_0 rfl)
    rcases hr.zEq t168_1 with ⟨b1, hr⟩ | ⟨b1, hr⟩
    · exact absurd b1 (by decide)
    · replace hr := hr.go (s_iload_n t168_4 rfl)
      replace hr := hr.go (s_k t168_5)
      rcases hr.bEq t168_7 with ⟨b7, hr⟩ | ⟨b7, hr⟩
      · exact absurd b7 (by decide)
      · replace hr := hr.go (s_iload_n t168_10 rfl)
        replace hr := hr.go (s_k t168_11)
        rcases hr.bNe t168_13 with ⟨b13, hr⟩ | ⟨b13, hr⟩
        · exact absurd b13 (by decide)
        · replace hr := hr.go (s_k t168_16)
          replace hr := hr.go (s_goto t168_17)
          obtain ⟨rfl, hs⟩ := hr.iret t168_21
          exact ⟨_, _, hs, rfl, rfl, rfl⟩
  · replace hr := hr.go (s_iload_n t168_0 rfl)
    rcases hr.zEq t168_1 with ⟨b1, hr⟩ | ⟨b1, hr⟩
    · exact absurd b1 (by decide)
    · replace hr := hr.go (s_iload_n t168_4 rfl)
      replace hr := hr.go (s_k t168_5)
      rcases hr.bEq t168_7 with ⟨b7, hr⟩ | ⟨b7, hr⟩
      · exact absurd b7 (by decide)
      · replace hr := hr.go (s_iload_n t168_10 rfl)
        replace hr := hr.go (s_k t168_11)
        rcases hr.bNe t168_13 with ⟨b13, hr⟩ | ⟨b13, hr⟩
        · replace hr := hr.go (s_k t168_20)
          obtain ⟨rfl, hs⟩ := hr.iret t168_21
          exact ⟨_, _, hs, rfl, rfl, rfl⟩
        · exact absurd b13 (by decide)
