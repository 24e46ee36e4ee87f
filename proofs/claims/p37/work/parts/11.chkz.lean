def zchkR (code : ByteArray) (tab : Nat → Option (Instr × Nat)) (lo n : Nat) : Bool := (List.range n).all (fun k => match tab (lo + k) with
  | none => true
  | some q => decide (decode code (lo + k) = .ok (q.1, q.2)) && zlok q.1 q.2)
theorem zchkR_ok {code : ByteArray} {tab : Nat → Option (Instr × Nat)} {lo n : Nat} (h : zchkR code tab lo n = true) {pc : Nat} {i : Instr} {len : Nat} (h1 : lo ≤ pc) (h2 : pc < lo + n) (hp : tab pc = some (i, len)) : decode code pc = .ok (i, len) ∧ zlok i len = true := by
  have h3 := List.all_eq_true.mp h (pc - lo) (List.mem_range.mpr (by omega))
  rw [show lo + (pc - lo) = pc by omega, hp] at h3
  simp only [Bool.and_eq_true, decide_eq_true_eq] at h3
  exact h3
theorem ztlaw_0 : zchkR code ztlaw 0 60 = true := by decide +kernel
theorem ztlaw_60 : zchkR code ztlaw 60 60 = true := by decide +kernel
theorem ztlaw_120 : zchkR code ztlaw 120 60 = true := by decide +kernel
theorem ztlaw_180 : zchkR code ztlaw 180 60 = true := by decide +kernel
theorem ztlaw_240 : zchkR code ztlaw 240 60 = true := by decide +kernel
theorem ztlaw_300 : zchkR code ztlaw 300 60 = true := by decide +kernel
theorem ztlaw_360 : zchkR code ztlaw 360 60 = true := by decide +kernel
theorem ztlaw_420 : zchkR code ztlaw 420 60 = true := by decide +kernel
theorem ztlaw_480 : zchkR code ztlaw 480 60 = true := by decide +kernel
theorem ztlaw_540 : zchkR code ztlaw 540 60 = true := by decide +kernel
theorem ztlaw_600 : zchkR code ztlaw 600 60 = true := by decide +kernel
theorem ztlaw_660 : zchkR code ztlaw 660 60 = true := by decide +kernel
theorem ztlaw_720 : zchkR code ztlaw 720 60 = true := by decide +kernel
theorem ztlaw_780 : zchkR code ztlaw 780 60 = true := by decide +kernel
theorem ztlaw_840 : zchkR code ztlaw 840 60 = true := by decide +kernel
theorem ztlaw_900 : zchkR code ztlaw 900 60 = true := by decide +kernel
theorem ztlaw_960 : zchkR code ztlaw 960 60 = true := by decide +kernel
theorem ztlaw_1020 : zchkR code ztlaw 1020 60 = true := by decide +kernel
theorem ztlaw_1080 : zchkR code ztlaw 1080 60 = true := by decide +kernel
theorem ztlaw_1140 : zchkR code ztlaw 1140 60 = true := by decide +kernel
theorem ztlaw_1200 : zchkR code ztlaw 1200 60 = true := by decide +kernel
theorem ztlaw_1260 : zchkR code ztlaw 1260 60 = true := by decide +kernel
theorem ztlaw_1320 : zchkR code ztlaw 1320 60 = true := by decide +kernel
theorem ztlaw_1380 : zchkR code ztlaw 1380 60 = true := by decide +kernel
theorem ztlaw_1440 : zchkR code ztlaw 1440 60 = true := by decide +kernel
theorem ztlaw_ok : ∀ (pc : Nat) (i : Instr) (len : Nat), ztlaw pc = some (i, len) → decode code pc = .ok (i, len) ∧ zlok i len = true := by
  intro pc i len hp
  by_cases h0 : pc < 60
  · exact zchkR_ok ztlaw_0 (by omega) (by omega) hp
  by_cases h60 : pc < 120
  · exact zchkR_ok ztlaw_60 (by omega) (by omega) hp
  by_cases h120 : pc < 180
  · exact zchkR_ok ztlaw_120 (by omega) (by omega) hp
  by_cases h180 : pc < 240
  · exact zchkR_ok ztlaw_180 (by omega) (by omega) hp
  by_cases h240 : pc < 300
  · exact zchkR_ok ztlaw_240 (by omega) (by omega) hp
  by_cases h300 : pc < 360
  · exact zchkR_ok ztlaw_300 (by omega) (by omega) hp
  by_cases h360 : pc < 420
  · exact zchkR_ok ztlaw_360 (by omega) (by omega) hp
  by_cases h420 : pc < 480
  · exact zchkR_ok ztlaw_420 (by omega) (by omega) hp
  by_cases h480 : pc < 540
  · exact zchkR_ok ztlaw_480 (by omega) (by omega) hp
  by_cases h540 : pc < 600
  · exact zchkR_ok ztlaw_540 (by omega) (by omega) hp
  by_cases h600 : pc < 660
  · exact zchkR_ok ztlaw_600 (by omega) (by omega) hp
  by_cases h660 : pc < 720
  · exact zchkR_ok ztlaw_660 (by omega) (by omega) hp
  by_cases h720 : pc < 780
  · exact zchkR_ok ztlaw_720 (by omega) (by omega) hp
  by_cases h780 : pc < 840
  · exact zchkR_ok ztlaw_780 (by omega) (by omega) hp
  by_cases h840 : pc < 900
  · exact zchkR_ok ztlaw_840 (by omega) (by omega) hp
  by_cases h900 : pc < 960
  · exact zchkR_ok ztlaw_900 (by omega) (by omega) hp
  by_cases h960 : pc < 1020
  · exact zchkR_ok ztlaw_960 (by omega) (by omega) hp
  by_cases h1020 : pc < 1080
  · exact zchkR_ok ztlaw_1020 (by omega) (by omega) hp
  by_cases h1080 : pc < 1140
  · exact zchkR_ok ztlaw_1080 (by omega) (by omega) hp
  by_cases h1140 : pc < 1200
  · exact zchkR_ok ztlaw_1140 (by omega) (by omega) hp
  by_cases h1200 : pc < 1260
  · exact zchkR_ok ztlaw_1200 (by omega) (by omega) hp
  by_cases h1260 : pc < 1320
  · exact zchkR_ok ztlaw_1260 (by omega) (by omega) hp
  by_cases h1320 : pc < 1380
  · exact zchkR_ok ztlaw_1320 (by omega) (by omega) hp
  by_cases h1380 : pc < 1440
  · exact zchkR_ok ztlaw_1380 (by omega) (by omega) hp
  by_cases h1440 : pc < 1500
  · exact zchkR_ok ztlaw_1440 (by omega) (by omega) hp
  exact absurd hp (by rw [show ztlaw pc = none from zcut (show 1500 ≤ pc by omega)]; exact fun h => nomatch h)
theorem ztrid_0 : zchkR method_3_code ztrid 0 60 = true := by decide +kernel
theorem ztrid_ok : ∀ (pc : Nat) (i : Instr) (len : Nat), ztrid pc = some (i, len) → decode method_3_code pc = .ok (i, len) ∧ zlok i len = true := by
  intro pc i len hp
  by_cases h0 : pc < 60
  · exact zchkR_ok ztrid_0 (by omega) (by omega) hp
  exact absurd hp (by rw [show ztrid pc = none from zcut (show 23 ≤ pc by omega)]; exact fun h => nomatch h)
