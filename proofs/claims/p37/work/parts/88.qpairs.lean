/-! The pairs of calls, checked (by program: wip/eng/t12.py). -/
def leI (a b : Option aV) (_ : List aY) : Bool := lint a && lint b
def leL (a b : Option aV) (_ : List aY) : Bool := llng a && llng b
def leF (a b : Option aV) (E : List aY) : Bool := match a, b with
  | some v, some w => lsm E v w
  | _, _ => false
theorem lk0 : lck qc140 qc55 [(0, (-2147483648), 2147483647), (0, (-2147483648), 2147483647), (0, (-2147483648), 2147483647), (0, (-2147483648), 2147483647), (0, (-2147483648), 2147483647)] leI = true := by decide +kernel
theorem lk1 : lck qc237 qc282 [(0, (-2147483648), 2147483647)] leI = true := by decide +kernel
theorem lk2 : lckq qc44 qc90 [(0, (-2147483648), 2147483647)] leI = true := by decide +kernel
theorem lk3 : lckq qc141 qc145 [(0, (-2147483648), 2147483647), (0, (-2147483648), 2147483647)] leI = true := by decide +kernel
theorem lk5 : lckq qc45 qc118 [(0, (-2147483648), 2147483647), (0, (-2147483648), 2147483647)] leI = true := by decide +kernel
theorem lk6 : lck qc46 qc152 [(0, (-2147483648), 2147483647), (0, (-2147483648), 2147483647)] leI = true := by decide +kernel
theorem lk7 : lckq qc47 qc120 [(0, (-2147483648), 2147483647), (0, (-2147483648), 2147483647)] leI = true := by decide +kernel
theorem lk8 : lck qc48 qc121 [(0, (-2147483648), 2147483647), (0, (-2147483648), 2147483647)] leI = true := by decide +kernel
theorem lk9 : lckq qc181 qc153 [(0, (-2147483648), 2147483647)] leI = true := by decide +kernel
theorem lk10 : lckq qc182 qc200 [(0, (-2147483648), 2147483647), (0, (-2147483648), 2147483647), (0, (-2147483648), 2147483647)] leL = true := by decide +kernel
theorem lk11 : lck qc183 qc201 [(0, (-2147483648), 2147483647), (0, 0, 1)] leI = true := by decide +kernel
theorem lk12 : lck qc184 qc202 [(0, (-2147483648), 2147483647), (0, (-2147483648), 2147483647)] leI = true := by decide +kernel
theorem lk13 : lck qc185 qc203 [(0, (-2147483648), 2147483647), (0, (-2147483648), 2147483647), (0, 0, 1)] leI = true := by decide +kernel
theorem lk14 : lck qc238 qc234 [(0, (-2147483648), 2147483647)] leI = true := by decide +kernel
theorem lkH14 : lckH qc238 [(0, (-2147483648), 2147483647)] = true := by decide +kernel
theorem lk15 : lckq qc253 qc248 [(0, (-2147483648), 2147483647), (0, (-2147483648), 2147483647)] leI = true := by decide +kernel
theorem lk16 : lckq qc240 qc235 [(0, (-2147483648), 2147483647)] leI = true := by decide +kernel
theorem lk17 : lckq qc230 qc236 [] leI = true := by decide +kernel
theorem lk18 : lckq qc255 qc264 [(0, (-2147483648), 2147483647), (0, (-2147483648), 2147483647)] leI = true := by decide +kernel
theorem lk19 : lckq qc256 qc265 [(0, (-2147483648), 2147483647), (0, (-2147483648), 2147483647), (0, (-2147483648), 2147483647)] leI = true := by decide +kernel
theorem lk20 : lckq qc257 qc274 [(0, (-2147483648), 2147483647)] leI = true := by decide +kernel
theorem lk21 : lckq qc258 qc266 [(0, (-2147483648), 2147483647)] leI = true := by decide +kernel
theorem lk22 : lckq qc262 qc267 [(0, (-2147483648), 2147483647), (0, (-2147483648), 2147483647)] leI = true := by decide +kernel
theorem lk23 : lckq qc263 qc268 [(0, (-2147483648), 2147483647), (0, (-2147483648), 2147483647), (0, (-2147483648), 2147483647)] leI = true := by decide +kernel
theorem lk24 : lckq qc259 qc269 [(0, (-2147483648), 2147483647), (0, (-2147483648), 2147483647)] leI = true := by decide +kernel
theorem lk25 : lckq qc260 qc270 [] leI = true := by decide +kernel
theorem lk26 : lckq qc261 qc250 [(0, (-2147483648), 2147483647)] leI = true := by decide +kernel
theorem lk27 : lck qc52 qc123 [(0, (-2147483648), 2147483647), (0, (-2147483648), 2147483647), (0, 0, 1)] leI = true := by decide +kernel
theorem lk28 : lck qc53 qc124 [(0, (-2147483648), 2147483647)] leI = true := by decide +kernel
theorem lk29 : lckq qc54 qc125 [(0, (-2147483648), 2147483647)] leI = true := by decide +kernel
theorem lk30 : lckq qc246 qc272 [(0, (-2147483648), 2147483647)] leI = true := by decide +kernel
theorem lk31 : lckq qc254 qc251 [(0, (-2147483648), 2147483647), (0, (-2147483648), 2147483647), (0, (-2147483648), 2147483647), (0, (-2147483648), 2147483647)] leI = true := by decide +kernel
theorem lk32 : lckq qc241 qc252 [(0, (-2147483648), 2147483647), (0, (-2147483648), 2147483647), (0, (-2147483648), 2147483647)] leI = true := by decide +kernel
theorem lk33 : lck qc49 qc156 [] leI = true := by decide +kernel
theorem lk34 : lck qc186 qc157 [] leI = true := by decide +kernel
theorem lk35 : lck qc187 qc158 [] leI = true := by decide +kernel
theorem lk36 : lckq qc142 qc204 [(0, (-2147483648), 2147483647)] leI = true := by decide +kernel
