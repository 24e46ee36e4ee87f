/-! The pairs of calls, checked (by program: wip/eng/t12.py). -/
def leI (a b : Option aV) (_ : List aY) : Bool := lint a && lint b
def leL (a b : Option aV) (_ : List aY) : Bool := llng a && llng b
def leF (a b : Option aV) (E : List aY) : Bool := match a, b with
  | some v, some w => lsm E v w
  | _, _ => false
theorem lk0 : lck qc110 qc41 [(0, (-2147483648), 2147483647), (0, (-2147483648), 2147483647), (0, (-2147483648), 2147483647), (0, (-2147483648), 2147483647), (0, (-2147483648), 2147483647)] leI = true := by decide +kernel
theorem lk1 : lck qc186 qc231 [(0, (-2147483648), 2147483647)] leI = true := by decide +kernel
theorem lk2 : lck3 qc30 qc76 [(0, (-2147483648), 2147483647)] leI = true := by decide +kernel
theorem lk3 : lck3 qc111 qc115 [(0, (-2147483648), 2147483647), (0, (-2147483648), 2147483647)] leI = true := by decide +kernel
theorem lk5 : lck3 qc31 qc93 [(0, (-2147483648), 2147483647), (0, (-2147483648), 2147483647)] leI = true := by decide +kernel
theorem lk6 : lck3 qc32 qc120 [(0, (-2147483648), 2147483647), (0, (-2147483648), 2147483647)] leI = true := by decide +kernel
theorem lk7 : lck3 qc33 qc95 [(0, (-2147483648), 2147483647), (0, (-2147483648), 2147483647)] leI = true := by decide +kernel
theorem lk8 : lck3 qc34 qc96 [(0, (-2147483648), 2147483647), (0, (-2147483648), 2147483647)] leI = true := by decide +kernel
theorem lk9 : lck3 qc143 qc121 [(0, (-2147483648), 2147483647)] leI = true := by decide +kernel
theorem lk10 : lck3 qc144 qc160 [(0, (-2147483648), 2147483647), (0, (-2147483648), 2147483647), (0, (-2147483648), 2147483647)] leL = true := by decide +kernel
theorem lk11 : lck3 qc145 qc161 [(0, (-2147483648), 2147483647), (0, 0, 1)] leI = true := by decide +kernel
theorem lk12 : lck3 qc146 qc162 [(0, (-2147483648), 2147483647), (0, (-2147483648), 2147483647)] leI = true := by decide +kernel
theorem lk13 : lck3 qc147 qc163 [(0, (-2147483648), 2147483647), (0, (-2147483648), 2147483647), (0, 0, 1)] leI = true := by decide +kernel
theorem lk14 : lck3 qc187 qc183 [(0, (-2147483648), 2147483647)] leI = true := by decide +kernel
theorem lk15 : lck3 qc202 qc197 [(0, (-2147483648), 2147483647), (0, (-2147483648), 2147483647)] leI = true := by decide +kernel
theorem lk16 : lck3 qc189 qc184 [(0, (-2147483648), 2147483647)] leI = true := by decide +kernel
theorem lk17 : lck3 qc179 qc185 [] leI = true := by decide +kernel
theorem lk18 : lck3 qc204 qc213 [(0, (-2147483648), 2147483647), (0, (-2147483648), 2147483647)] leI = true := by decide +kernel
theorem lk19 : lck3 qc205 qc214 [(0, (-2147483648), 2147483647), (0, (-2147483648), 2147483647), (0, (-2147483648), 2147483647)] leI = true := by decide +kernel
theorem lk20 : lck3 qc206 qc223 [(0, (-2147483648), 2147483647)] leI = true := by decide +kernel
theorem lk21 : lck3 qc207 qc215 [(0, (-2147483648), 2147483647)] leI = true := by decide +kernel
theorem lk22 : lck3 qc211 qc216 [(0, (-2147483648), 2147483647), (0, (-2147483648), 2147483647)] leI = true := by decide +kernel
theorem lk23 : lck3 qc212 qc217 [(0, (-2147483648), 2147483647), (0, (-2147483648), 2147483647), (0, (-2147483648), 2147483647)] leI = true := by decide +kernel
theorem lk24 : lck3 qc208 qc218 [(0, (-2147483648), 2147483647), (0, (-2147483648), 2147483647)] leI = true := by decide +kernel
theorem lk25 : lck3 qc209 qc219 [] leI = true := by decide +kernel
theorem lk26 : lck3 qc210 qc199 [(0, (-2147483648), 2147483647)] leI = true := by decide +kernel
theorem lk27 : lck3 qc38 qc98 [(0, (-2147483648), 2147483647), (0, (-2147483648), 2147483647), (0, 0, 1)] leI = true := by decide +kernel
theorem lk28 : lck3 qc39 qc99 [(0, (-2147483648), 2147483647)] leI = true := by decide +kernel
theorem lk29 : lck3 qc40 qc100 [(0, (-2147483648), 2147483647)] leI = true := by decide +kernel
theorem lk30 : lck3 qc195 qc221 [(0, (-2147483648), 2147483647)] leI = true := by decide +kernel
theorem lk31 : lck3 qc203 qc200 [(0, (-2147483648), 2147483647), (0, (-2147483648), 2147483647), (0, (-2147483648), 2147483647), (0, (-2147483648), 2147483647)] leI = true := by decide +kernel
theorem lk32 : lck3 qc190 qc201 [(0, (-2147483648), 2147483647), (0, (-2147483648), 2147483647), (0, (-2147483648), 2147483647)] leI = true := by decide +kernel
theorem lk33 : lck3 qc35 qc124 [] leI = true := by decide +kernel
theorem lk34 : lck3 qc148 qc125 [] leI = true := by decide +kernel
theorem lk35 : lck3 qc149 qc126 [] leI = true := by decide +kernel
theorem lk36 : lck3 qc112 qc164 [(0, (-2147483648), 2147483647)] leI = true := by decide +kernel
