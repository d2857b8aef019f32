/-! X4_holds -/
def fX4_holds (v1 : Int32) (v2 : Int32) (tb_c : Int32) (tb_r : Int32) : Option (Int32) := if v1 < (0 : Int32) then (some (0 : Int32)) else (if tb_r ≤ v1 then (some (0 : Int32)) else (if v2 < (0 : Int32) then (some (0 : Int32)) else (if tb_c ≤ v2 then (some (0 : Int32)) else (some (1 : Int32)))))
/-! X4_cell -/
def fX4_cell (v1 : Int32) (v2 : Int32) (tb_c : Int32) (tb_r : Int32) (tb_n : Nat) (tb_f : (Nat → Int32)) : Option (Int32) := bn1 (fX4_holds v1 v2 tb_c tb_r) fun r4 => if r4 = (0 : Int32) then (some (-3 : Int32)) else (gd (ix ((v1 * tb_c) + v2) tb_n) <| some (tb_f ((v1 * tb_c) + v2).toNatClampNeg))
/-! X4_size -/
def fX4_size  (tb_r : Int32) : Option (Int32) := some tb_r
/-! X6_boxOfMark -/
def fX6_boxOfMark_2 (v1 : Int32) (boxes_r : Int32) (boxes_f : (Nat → Int32))  : Nat → Int32 → Option (Int32)
  | 0, _ => none
  | n + 1, v2 => bn1 (fX4_size boxes_r) fun r5 => if r5 ≤ v2 then (some (-3 : Int32)) else (bn1 (fX4_cell v2 (0 : Int32) (9 : Int32) boxes_r 216 boxes_f) fun r14 => if r14 = v1 then (some v2) else (fX6_boxOfMark_2 v1 boxes_r boxes_f n (v2 + (1 : Int32))))
def fX6_boxOfMark (v1 : Int32) (boxes_r : Int32) (boxes_f : (Nat → Int32)) : Option (Int32) := fX6_boxOfMark_2 v1 boxes_r boxes_f FU (0 : Int32)
/-! X4_put -/
def fX4_put (v1 : Int32) (v2 : Int32) (v3 : Int32) (tb_c : Int32) (tb_r : Int32) (tb_n : Nat) (tb_f : (Nat → Int32)) : Option ((Nat → Int32)) := bn1 (fX4_holds v1 v2 tb_c tb_r) fun r4 => if r4 = (0 : Int32) then (some tb_f) else (gd (ix ((v1 * tb_c) + v2) tb_n) <| some (upd tb_f ((v1 * tb_c) + v2).toNatClampNeg v3))
/-! X4_isFull -/
def fX4_isFull  (tb_m : Int32) (tb_r : Int32) : Option (Int32) := if tb_r < tb_m then (some (0 : Int32)) else (some (1 : Int32))
/-! X4_grow -/
def fX4_grow  (tb_m : Int32) (tb_r : Int32) : Option (Int32 × Int32) := bn1 (fX4_isFull tb_m tb_r) fun r2 => if r2 = (0 : Int32) then (some (((tb_r + (1 : Int32)) - (1 : Int32)), (tb_r + (1 : Int32)))) else (some ((-3 : Int32), tb_r))
/-! X6_isWithin -/
def fX6_isWithin (v0 : Int32) (v1 : Int32) (v2 : Int32)  : Option (Int32) := if v0 < v1 then (some (0 : Int32)) else (if v2 < v0 then (some (0 : Int32)) else (some (1 : Int32)))
