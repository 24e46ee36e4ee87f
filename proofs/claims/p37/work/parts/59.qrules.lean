/-! The rules at protected places: Reader (sort 2; its row of what waits 6), the reference (49; number 51, sumFrom 65, sumTo 66, knotSort 67, knotValue 68). Worked out: Reader 7 how many of what waits are no signs, 8 knots less waits and that, 9 72 less waits; reference 74 counted less knots laid, 75 height of the knots from the law's begin, 76 that begin, 77 whether the laws laid are whole, 78 the same of those that stand, 79 .. 82 how many places at the begin of both halves are alike. -/
/-- a symbol for a cell of this sort -/
def asq (E : List aY) (k : Nat) (so : Int) : Bool := match E[k]? with
  | some (2, x, _) => ieq x so
  | _ => false
def amf (E : List aY) (so : Int) (s : Nat) (c : Int) : aM → Option aV
  | [] => none
  | e :: r => bif asq E e.1.1 so && (Nat.beq e.1.2.1 s && ieq e.1.2.2 c) then some e.2 else amf E so s c r
def apls (v : aV) (d : Int) : aV := match v with
  | .inl (s, c) => .inl (s, c + d)
  | v => v
def avi (E : List aY) (v : aV) : Option (Int × Int) := match v with
  | .inl (s, c) => aiv E s c
  | _ => none
/-- it lies within these -/
def avb (E : List aY) (v : aV) (l u : Int) : Bool := match avi E v with
  | some p => ile l p.1 && ile p.2 u
  | none => false
def avb' (E : List aY) (v : Option aV) (l u : Int) : Bool := match v with
  | some v => avb E v l u
  | none => false
/-- v + 1, which is 64 at most -/
def qup (E : List aY) (v : aV) : Option (List aY × aV) := match v with
  | .inl (s, c) => match acut E s (c + 1) (-2147483648, 64) with
    | some E' => some (E', .inl (s, c + 1))
    | none => none
  | _ => none
/-- v + d, from 0 to 72 -/
def qgw (E : List aY) (v : aV) (d : Int) : Option (List aY × aV) := match v with
  | .inl (s, c) => match acut E s (c + d) (0, 72) with
    | some E' => some (E', .inl (s, c + d))
    | none => none
  | _ => none
/-- a sign 1, none 0 -/
def qsg (E : List aY) (v : aV) : Option Bool := bif avb E v 10 19 || avb E v 44 46 then some true else (bif avb E v (-2147483648) 9 || (avb E v 20 43 || avb E v 47 2147483647) then some false else none)
abbrev qR : Type := Option (Option (List aY × aM × List aK))
def qUw (E : List aY) (m : aM) (q : aK) : qR := match amf E 2 0 2 m with
  | some w => bif aveq w (.inl q.2) then some (some (E, [], [])) else none
  | none => none
def qUk (E : List aY) (m : aM) (r : Nat) (v : aV) : qR := match amg m (r, 0, 4) with
  | some k => match amg m (r, 0, 8) with
    | some gs => bif aveq v (apls k 1) && avb E v 0 64 then (match qup E gs with
      | some A => some (some (A.1, [((r, 0, 8), A.2)], []))
      | none => some none) else some (some (E, [], [(r, 0, 8)]))
    | none => some (some (E, [], [(r, 0, 8)]))
  | none => some (some (E, [], [(r, 0, 8)]))
def qUpush (E : List aY) (m : aM) (r : Nat) (w : Nat × Int) (gc gs gw : aV) : qR := match amf E 6 w.1 w.2 m with
  | none => none
  | some t => match qgw E gw (-1) with
    | none => some none
    | some B => match qsg B.1 t with
      | some true => some (some (B.1, [((r, 0, 7), gc), ((r, 0, 8), apls gs (-1)), ((r, 0, 9), B.2)], []))
      | some false => some (some (B.1, [((r, 0, 7), apls gc 1), ((r, 0, 8), gs), ((r, 0, 9), B.2)], []))
      | none => none
def qUpop (E : List aY) (m : aM) (r : Nat) (w : Nat × Int) (gc gs gw : aV) : qR := bif (avb E (.inl w) (-2147483648) 0 || avb E gw 72 2147483647) && avb E gc 1 2147483647 then some none else (match amf E 6 w.1 (w.2 + -1) m with
  | none => none
  | some t => match qgw E gw 1 with
    | none => some none
    | some B => match qsg B.1 t with
      | some true => bif avb' B.1 (amg m (r, 0, 4)) 0 64 then (match qup B.1 gs with
        | some A => some (some (A.1, [((r, 0, 7), gc), ((r, 0, 8), A.2), ((r, 0, 9), B.2)], []))
        | none => some none) else none
      | some false => some (some (B.1, [((r, 0, 7), apls gc (-1)), ((r, 0, 8), gs), ((r, 0, 9), B.2)], []))
      | none => none)
def qUs (E : List aY) (m : aM) (r : Nat) (v : aV) : qR := bif aveq v (.inl (0, 0)) then (match amg m (r, 0, 4) with
  | some (.inl k) => some (some (E, [((r, 0, 7), .inl (0, 0)), ((r, 0, 8), .inl k), ((r, 0, 9), .inl (0, 72))], []))
  | _ => some (some (E, [((r, 0, 7), .inl (0, 0)), ((r, 0, 9), .inl (0, 72))], [(r, 0, 8)]))) else (match amg m (r, 0, 2), amg m (r, 0, 7), amg m (r, 0, 8), amg m (r, 0, 9) with
    | some (.inl w), some gc, some gs, some gw => bif aveq v (.inl (w.1, w.2 + 1)) then qUpush E m r w gc gs gw else (bif aveq v (.inl (w.1, w.2 + -1)) then qUpop E m r w gc gs gw else none)
    | _, _, _, _ => none)
/-- the reference's symbol, by the field that holds a row -/
def qmo (E : List aY) (row : Nat) : aM → Option Nat
  | [] => none
  | e :: r => bif asq E e.1.1 49 && aveq e.2 (.inr (.inr (.inl row))) then some e.1.1 else qmo E row r
def qz (E : List aY) (m : aM) (so : Int) (j : Int) : Bool := avb' E (amf E so 0 j m) 0 0
def qUco (E : List aY) (m : aM) (r : Nat) (v : aV) : qR := bif avb E v 0 0 && (avb' E (amf E 51 0 17 m) 0 0 && ((qz E m 65 3 && (qz E m 65 4 && qz E m 65 5)) && (qz E m 66 3 && (qz E m 66 4 && qz E m 66 5)))) then some (some (E, [((r, 0, 74), .inl (0, 0)), ((r, 0, 75), .inl (0, 0)), ((r, 0, 76), .inl (0, 0)), ((r, 0, 77), .inl (0, 1))], [])) else (match amg m (r, 0, 33), amg m (r, 0, 74) with
  | some c, some d => bif aveq v (apls c 1) && avb E v 0 64 then (match qup E d with
    | some A => some (some (A.1, [((r, 0, 74), A.2)], []))
    | none => some none) else some (some (E, [], [(r, 0, 74)]))
  | _, _ => some (some (E, [], [(r, 0, 74)])))
/-- height behind a knot -/
def qht (E : List aY) (a b h : aV) : Option (Option (List aY × aV)) := bif avb E h 0 64 then (bif avb E a 0 0 || (avb E a 1 1 && avb E b 0 6) then some (qup E h) else (bif avb E a 2 2 && (avb E b 260 260 && avb E h 1 64) then some (some (E, h)) else (bif avb E a 2 2 && ((avb E b (-2147483648) 259 || avb E b 261 2147483647) && avb E h 2 64) then some (some (E, apls h (-1))) else none))) else none
def qUn (E : List aY) (m : aM) (r : Nat) (v : aV) : qR := match qmo E r m with
  | none => none
  | some o => match amf E 51 0 17 m, amg m (o, 0, 74), amg m (o, 0, 75), amg m (o, 0, 77) with
    | some (.inl n), some d, some h, some p2 => bif aveq v (.inl (n.1, n.2 + 1)) && (avb E (.inl n) 0 63 && avb E p2 1 1) then (match amf E 67 n.1 (n.2 + 64) m, amf E 68 n.1 (n.2 + 64) m with
      | some a, some b => match qht E a b h with
        | some (some A) => some (some (A.1, [((o, 0, 74), apls d (-1)), ((o, 0, 75), A.2), ((o, 0, 77), p2)], []))
        | some none => some none
        | none => some (some (E, [], [(o, 0, 74), (o, 0, 75), (o, 0, 77)]))
      | _, _ => some (some (E, [], [(o, 0, 74), (o, 0, 75), (o, 0, 77)]))) else some (some (E, [], [(o, 0, 74), (o, 0, 75), (o, 0, 77)]))
    | _, _, _, _ => some (some (E, [], [(o, 0, 74), (o, 0, 75), (o, 0, 77)]))
def qas (w : Option aV) (v : aV) : Bool := match w with
  | some w => aveq w v
  | none => false
/-- the first half of a row (number e of the four, n places) takes a value -/
def qUh (E : List aY) (m : aM) (r : Nat) (so : Int) (e : Nat) (n k : Int) (v : aV) : qR := match qmo E r m with
  | none => none
  | some o => bif qas (amf E so 0 (k + n) m) v && (ieq k 0 || avb' E (amg m (o, 0, 79 + (e : Int))) k n) then
      (bif ieq (k + 1) n && (avb' E (amg m (o, 0, 77)) 1 1 && ((Nat.beq e 0 || avb' E (amg m (o, 0, 79)) 3 3) && ((Nat.beq e 1 || avb' E (amg m (o, 0, 80)) 3 3) && ((Nat.beq e 2 || avb' E (amg m (o, 0, 81)) 64 64) && (Nat.beq e 3 || avb' E (amg m (o, 0, 82)) 64 64))))) then some (some (E ++ [(0, k + 1, n)], [((o, 0, 79 + (e : Int)), .inl (E.length, 0)), ((o, 0, 78), .inl (0, 1))], []))
      else some (some (E ++ [(0, k + 1, n), (0, 0, 1)], [((o, 0, 79 + (e : Int)), .inl (E.length, 0)), ((o, 0, 78), .inl (E.length + 1, 0))], [])))
    else some (some (E ++ [(0, 0, 1)], [((o, 0, 78), .inl (E.length, 0))], [(o, 0, 79 + (e : Int))]))
/-- a knot's half behind those that are laid -/
def qUks (E : List aY) (m : aM) (r : Nat) (e : Nat) (q : aK) : qR := match qmo E r m with
  | none => none
  | some o => match amf E 51 0 17 m with
    | some (.inl n) => bif aveq (.inl (n.1, n.2 + 64)) (.inl q.2) then some (some (E, [], [(o, 0, 79 + (e : Int))])) else none
    | _ => none
def qUsf (E : List aY) (m : aM) (r : Nat) (v : aV) : qR := match qmo E r m with
  | none => none
  | some o => match amf E 51 0 17 m, amg m (o, 0, 77) with
    | some (.inl n), some p2 => bif aveq v (.inl n) && avb E p2 1 1 then some (some (E, [((o, 0, 76), .inl n), ((o, 0, 75), .inl (0, 0)), ((o, 0, 77), p2)], [(o, 0, 79)])) else some (some (E, [], [(o, 0, 75), (o, 0, 76), (o, 0, 77), (o, 0, 79)]))
    | _, _ => some (some (E, [], [(o, 0, 75), (o, 0, 76), (o, 0, 77), (o, 0, 79)]))
def qUst (E : List aY) (m : aM) (r : Nat) (q : aK) (v : aV) : qR := match qmo E r m with
  | none => none
  | some o => match amf E 51 0 17 m, amg m (o, 0, 77), amf E 65 q.2.1 q.2.2 m, amg m (o, 0, 76), amg m (o, 0, 75) with
    | some (.inl n), some p2, some b, some gb, some gh => bif aveq v (.inl n) && (avb E p2 1 1 && (aveq b gb && avb E gh 1 1)) then some (some (E, [((o, 0, 77), p2)], [(o, 0, 80)])) else some (some (E, [], [(o, 0, 77), (o, 0, 80)]))
    | _, _, _, _, _ => some (some (E, [], [(o, 0, 77), (o, 0, 80)]))
/-- the token's sort and value: 83 is the value of a word (sort 0), else 0 -/
def qnz (E : List aY) (v : aV) : Bool := avb E v 1 2147483647 || avb E v (-2147483648) (-1)
def qnz' (E : List aY) (v : Option aV) : Bool := match v with
  | some v => qnz E v
  | none => false
def qUso (E : List aY) (m : aM) (r : Nat) (v : aV) : qR := bif qnz E v || avb' E (amg m (r, 0, 27)) (-1) 21 then some (some (E, [], [(r, 0, 83)])) else some (some (E ++ [(0, -2147483648, 2147483647)], [((r, 0, 83), .inl (E.length, 0))], []))
def qUva (E : List aY) (m : aM) (r : Nat) (v : aV) : qR := bif avb E v (-1) 21 || qnz' E (amg m (r, 0, 26)) then some (some (E, [], [(r, 0, 83)])) else some (some (E ++ [(0, -2147483648, 2147483647)], [((r, 0, 83), .inl (E.length, 0))], []))
def qU : aU := fun E m s q v =>
  bif ieq s 6 then qUw E m q else (bif ieq s 2 then (bif Nat.beq q.2.1 0 && ieq q.2.2 4 then qUk E m q.1 v else (bif Nat.beq q.2.1 0 && ieq q.2.2 2 then qUs E m q.1 v else none)) else
  (bif ieq s 49 then (bif Nat.beq q.2.1 0 && ieq q.2.2 33 then qUco E m q.1 v else (bif Nat.beq q.2.1 0 && ieq q.2.2 26 then qUso E m q.1 v else (bif Nat.beq q.2.1 0 && ieq q.2.2 27 then qUva E m q.1 v else none))) else (bif ieq s 51 then (bif Nat.beq q.2.1 0 && ieq q.2.2 17 then qUn E m q.1 v else none) else (match aiv E q.2.1 q.2.2 with
    | none => none
    | some p => bif ieq s 65 then (bif ieq p.1 p.2 && !ile 3 p.1 then qUh E m q.1 65 0 3 p.1 v else (bif ile 3 p.1 then qUsf E m q.1 v else none)) else
      (bif ieq s 66 then (bif ieq p.1 p.2 && !ile 3 p.1 then qUh E m q.1 66 1 3 p.1 v else (bif ile 3 p.1 then qUst E m q.1 q v else none)) else
      (bif ieq s 67 then (bif ieq p.1 p.2 && !ile 64 p.1 then qUh E m q.1 67 2 64 p.1 v else (bif ile 64 p.1 then qUks E m q.1 2 q else none)) else
      (bif ieq s 68 then (bif ieq p.1 p.2 && !ile 64 p.1 then qUh E m q.1 68 3 64 p.1 v else (bif ile 64 p.1 then qUks E m q.1 3 q else none)) else none)))))))
def qPt : aPt := ([(2, 2, 2), (2, 4, 4), (6, 0, 71), (49, 33, 33), (49, 26, 26), (49, 27, 27), (51, 17, 17), (65, 0, 5), (66, 0, 5), (67, 0, 127), (68, 0, 127)], qU)
