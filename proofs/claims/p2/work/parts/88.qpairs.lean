/-! The pairs of calls, checked (by program: wip/eng/t12.py). -/
def leI (a b : Option aV) (_ : List aY) : Bool := lint a && lint b
def leL (a b : Option aV) (_ : List aY) : Bool := llng a && llng b
def leF (a b : Option aV) (E : List aY) : Bool := match a, b with
  | some v, some w => lsm E v w
  | _, _ => false
theorem lk0 : lck qc110 qc41 [(0, (-2147483648), 2147483647), (0, (-2147483648), 2147483647), (0, (-2147483648), 2147483647), (0, (-2147483648), 2147483647), (0, (-2147483648), 2147483647)] leF = true := by decide +kernel
theorem lk1 : lck qc186 qc231 [(0, (-2147483648), 2147483647)] leI = true := by decide +kernel
theorem lk2 : lck qc30 qc76 [(0, (-2147483648), 2147483647)] leI = true := by decide +kernel
theorem lk3 : lck qc111 qc115 [(0, (-2147483648), 2147483647), (0, (-2147483648), 2147483647)] leI = true := by decide +kernel
theorem lk5 : lck qc31 qc93 [(0, (-2147483648), 2147483647), (0, (-2147483648), 2147483647)] leI = true := by decide +kernel
theorem lk6 : lck qc32 qc120 [(0, (-2147483648), 2147483647), (0, (-2147483648), 2147483647)] leI = true := by decide +kernel
theorem lk7 : lck qc33 qc95 [(0, (-2147483648), 2147483647), (0, (-2147483648), 2147483647)] leI = true := by decide +kernel
theorem lk8 : lck qc34 qc96 [(0, (-2147483648), 2147483647), (0, (-2147483648), 2147483647)] leI = true := by decide +kernel
theorem lk9 : lck qc143 qc121 [(0, (-2147483648), 2147483647)] leI = true := by decide +kernel
theorem lk10 : lck qc144 qc160 [(0, (-2147483648), 2147483647), (0, (-2147483648), 2147483647), (0, (-2147483648), 2147483647)] leL = true := by decide +kernel
theorem lk11 : lck qc145 qc161 [(0, (-2147483648), 2147483647), (0, 0, 1)] leI = true := by decide +kernel
theorem lk12 : lck qc146 qc162 [(0, (-2147483648), 2147483647), (0, (-2147483648), 2147483647)] leI = true := by decide +kernel
theorem lk13 : lck qc147 qc163 [(0, (-2147483648), 2147483647), (0, (-2147483648), 2147483647), (0, 0, 1)] leI = true := by decide +kernel
theorem lk14 : lck qc187 qc183 [(0, (-2147483648), 2147483647)] leI = true := by decide +kernel
theorem lk15 : lck qc202 qc197 [(0, (-2147483648), 2147483647), (0, (-2147483648), 2147483647)] leI = true := by decide +kernel
theorem lk16 : lck qc189 qc184 [(0, (-2147483648), 2147483647)] leI = true := by decide +kernel
theorem lk17 : lck qc179 qc185 [] leI = true := by decide +kernel
theorem lk18 : lck qc204 qc213 [(0, (-2147483648), 2147483647), (0, (-2147483648), 2147483647)] leI = true := by decide +kernel
theorem lk19 : lck qc205 qc214 [(0, (-2147483648), 2147483647), (0, (-2147483648), 2147483647), (0, (-2147483648), 2147483647)] leI = true := by decide +kernel
theorem lk20 : lck qc206 qc223 [(0, (-2147483648), 2147483647)] leI = true := by decide +kernel
theorem lk21 : lck qc207 qc215 [(0, (-2147483648), 2147483647)] leI = true := by decide +kernel
theorem lk22 : lck qc211 qc216 [(0, (-2147483648), 2147483647), (0, (-2147483648), 2147483647)] leI = true := by decide +kernel
theorem lk23 : lck qc212 qc217 [(0, (-2147483648), 2147483647), (0, (-2147483648), 2147483647), (0, (-2147483648), 2147483647)] leI = true := by decide +kernel
theorem lk24 : lck qc208 qc218 [(0, (-2147483648), 2147483647), (0, (-2147483648), 2147483647)] leI = true := by decide +kernel
theorem lk25 : lck qc209 qc219 [] leI = true := by decide +kernel
theorem lk26 : lck qc210 qc199 [(0, (-2147483648), 2147483647)] leI = true := by decide +kernel
theorem lk27 : lck qc38 qc98 [(0, (-2147483648), 2147483647), (0, (-2147483648), 2147483647), (0, 0, 1)] leI = true := by decide +kernel
theorem lk28 : lck qc39 qc99 [(0, (-2147483648), 2147483647)] leI = true := by decide +kernel
theorem lk29 : lck qc40 qc100 [(0, (-2147483648), 2147483647)] leI = true := by decide +kernel
theorem lk30 : lck qc195 qc221 [(0, (-2147483648), 2147483647)] leI = true := by decide +kernel
theorem lk31 : lck qc203 qc200 [(0, (-2147483648), 2147483647), (0, (-2147483648), 2147483647), (0, (-2147483648), 2147483647), (0, (-2147483648), 2147483647)] leI = true := by decide +kernel
theorem lk32 : lck qc190 qc201 [(0, (-2147483648), 2147483647), (0, (-2147483648), 2147483647), (0, (-2147483648), 2147483647)] leI = true := by decide +kernel
theorem lk33 : lck qc35 qc124 [] leI = true := by decide +kernel
theorem lk34 : lck qc148 qc125 [] leI = true := by decide +kernel
theorem lk35 : lck qc149 qc126 [] leI = true := by decide +kernel
theorem lk36 : lck qc112 qc164 [(0, (-2147483648), 2147483647)] leI = true := by decide +kernel
