/-! The places that are worked out of the heap, by what stands in places alone (rd), so that a write elsewhere leaves them. -/
def qi (h : zH) (a k : Nat) : Int := match rd h a k with
  | some (.int x) => x.toInt
  | _ => 0
/-- no sign -/
def qns (t : Int) : Bool := !((ile 10 t && ile t 19) || (ile 44 t && ile t 46))
def qgc (h : zH) : Nat := (List.range (qi h 2 2).toNat).countP (fun i => qns (qi h 6 i))
/-- one knot: height behind it -/
def qst (s v : Int) (H : Nat) : Option Nat := bif ieq s 0 then some (H + 1) else (bif ieq s 1 then (bif ile 0 v && ile v 6 then some (H + 1) else none) else (bif ieq s 2 then (bif ieq v 260 then (bif Nat.ble 1 H then some H else none) else (bif Nat.ble 2 H then some (H - 1) else none)) else none))
/-- height of n knots from b on, in the half that begins at o -/
def qhn (h : zH) (o b : Nat) : Nat → Option Nat
  | 0 => some 0
  | n + 1 => match qhn h o b n with
    | some H => qst (qi h 146 (o + b + n)) (qi h 147 (o + b + n)) H
    | none => none
def qN (h : zH) : Int := qi h 130 17
def qba (h : zH) : Int := imx (qi h 144 3) (imx (qi h 144 4) (qi h 144 5))
/-- a law from f to t, in the half that begins at o, is whole (or isn't there); m: as far as knots go -/
def qlw (h : zH) (o : Nat) (f t m : Int) : Bool := ile 0 f && (ile f m && (ile t m && (ile t f || (match qhn h o f.toNat (t - f).toNat with
  | some H => Nat.beq H 1
  | none => false))))
def qp2 (h : zH) : Bool := qlw h 64 (qi h 144 3) (qi h 145 3) (qN h) && (qlw h 64 (qi h 144 4) (qi h 145 4) (qN h) && qlw h 64 (qi h 144 5) (qi h 145 5) (qN h))
def qp1 (h : zH) : Bool := qlw h 0 (qi h 144 0) (qi h 145 0) 64 && (qlw h 0 (qi h 144 1) (qi h 145 1) 64 && qlw h 0 (qi h 144 2) (qi h 145 2) 64)
/-- how many leading places of the first half are as in the second -/
def qpe (h : zH) (a n : Nat) : Nat → Nat
  | 0 => 0
  | k + 1 => bif Nat.beq (qpe h a n k) k && ieq (qi h a k) (qi h a (n + k)) then k + 1 else qpe h a n k
def qG : aG := fun a k h => bif Nat.beq a 2 then (bif Nat.beq k 7 then some (Int32.ofInt (qgc h)) else (bif Nat.beq k 8 then some (Int32.ofInt (qi h 2 4 - qi h 2 2 + qgc h)) else (bif Nat.beq k 9 then some (Int32.ofInt (72 - qi h 2 2)) else none)))
  else (bif Nat.beq a 128 then (bif Nat.beq k 74 then some (Int32.ofInt (qi h 128 33 - qN h)) else (bif Nat.beq k 75 then some (Int32.ofInt (match qhn h 64 (qba h).toNat (qN h - qba h).toNat with
    | some H => (H : Int)
    | none => -1)) else (bif Nat.beq k 76 then some (Int32.ofInt (qba h)) else (bif Nat.beq k 77 then some (bif qp2 h then 1 else 0) else (bif Nat.beq k 78 then some (bif qp1 h then 1 else 0) else (bif Nat.beq k 79 then some (Int32.ofInt (qpe h 144 3 3)) else (bif Nat.beq k 80 then some (Int32.ofInt (qpe h 145 3 3)) else (bif Nat.beq k 81 then some (Int32.ofInt (qpe h 146 64 64)) else (bif Nat.beq k 82 then some (Int32.ofInt (qpe h 147 64 64)) else none))))))))) else none)
