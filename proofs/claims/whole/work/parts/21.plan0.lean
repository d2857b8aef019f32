/-! THE PLAN: what its numbers promise -/
def isum : Nat → (Nat → Int) → Int
  | 0, _ => 0
  | n + 1, f => isum n f + f n
def imx (a : Int) : Int := if a ≤ 0 then 0 else a
/-- the sum over all arcs: for each week the routes that arrive in time, and the waits; from, to, cost, room -/
def csum (nR : Nat) (rt : Nat → Nat) (G : Nat → Nat → Nat → Nat → Int) : Int := isum 5 (fun w => isum nR (fun r => if w + rt (5 * r + 2) < 5 then G (6 * w + rt (5 * r)) (6 * (w + rt (5 * r + 2)) + rt (5 * r + 1)) (rt (5 * r + 3)) (rt (5 * r + 4)) else 0) + (if w + 1 < 5 then isum 6 (fun p => G (6 * w + p) (6 * (w + 1) + p) 0 1000) else 0))
/-- what the prices y promise -/
def Dst (nR : Nat) (rt : Nat → Nat) (L : Nat) (s d : Nat → Nat) (y : Nat → Int) : Int := isum 30 (fun k => (L : Int) * d k - s k * y k - d k * imx ((L : Int) - y k)) - csum nR rt (fun a b c u => (u : Int) * imx (y b - y a - (c : Int)))
/-- V is the greatest of these promises -/
def IsMax (nR : Nat) (rt : Nat → Nat) (L : Nat) (s d : Nat → Nat) (V : Int) : Prop := (∃ y : Nat → Int, (∀ k, k < 30 → 0 ≤ y k) ∧ Dst nR rt L s d y = V) ∧ ∀ y : Nat → Int, (∀ k, k < 30 → 0 ≤ y k) → Dst nR rt L s d y ≤ V
/-- one box more at knot k -/
def bump (s : Nat → Nat) (k : Nat) : Nat → Nat := fun j => if j = k then s j + 1 else s j
def planOK (wf rf : Nat → Int32) (nr lk least : Int32) (gain : Nat → Int32) : Prop := IsMax nr.toNatClampNeg (fun i => (rf i).toNatClampNeg) lk.toNatClampNeg (fun k => (wf (2 * k)).toNatClampNeg) (fun k => (wf (2 * k + 1)).toNatClampNeg) least.toInt ∧ ∀ k, k < 30 → (0 ≤ (gain k).toInt ∧ (gain k).toInt ≤ 500) ∧ IsMax nr.toNatClampNeg (fun i => (rf i).toNatClampNeg) lk.toNatClampNeg (bump (fun k => (wf (2 * k)).toNatClampNeg) k) (fun k => (wf (2 * k + 1)).toNatClampNeg) (least.toInt - (gain k).toInt)
