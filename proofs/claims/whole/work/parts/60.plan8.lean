/-! THE PLAN: weak duality -/
theorem imx_ge (a : Int) : a ≤ imx a ∧ 0 ≤ imx a := by
  unfold imx
  split <;> omega
theorem isum_pick {t : Nat} (y : Nat → Int) (x : Int) : ∀ n, t < n → isum n (fun k => y k * (if t = k then x else 0)) = y t * x := by
  intro n ht
  have h := isum_at (f := fun k => y k * (if t = k then x else 0)) (g := fun _ => 0) (c := t) (x := y t * x) n ht (fun i hi hne => by
    show y i * (if t = i then x else 0) = 0
    rw [if_neg (fun z => hne z.symm), Int.mul_zero]) (by
    show y t * (if t = t then x else 0) = 0 + y t * x
    rw [if_pos rfl, Int.zero_add])
  rw [h, isum_zero, Int.zero_add]
/-- what comes into a knot less what goes out of it -/
def net (nP : Nat) (fr to : Nat → Nat) (x : Nat → Int) (k : Nat) : Int := isum nP (fun i => (if to i = k then x i else 0) - (if fr i = k then x i else 0))
theorem isum_mul (c : Int) (f : Nat → Int) : ∀ n, isum n (fun i => c * f i) = c * isum n f := by
  intro n
  induction n with
  | zero => rw [isum, isum, Int.mul_zero]
  | succ n ih => rw [isum, isum, ih, Int.mul_add]
theorem net_sum {nP : Nat} {fr to : Nat → Nat} (x y : Nat → Int) (hft : ∀ i, i < nP → fr i < 30 ∧ to i < 30) : isum 30 (fun k => y k * net nP fr to x k) = isum nP (fun i => x i * (y (to i) - y (fr i))) := by
  have e1 : isum 30 (fun k => y k * net nP fr to x k) = isum 30 (fun k => isum nP (fun i => y k * (if to i = k then x i else 0) - y k * (if fr i = k then x i else 0))) := by
    apply isum_eq
    intro k hk
    unfold net
    rw [← isum_mul]
    apply isum_eq
    intro i hi
    rw [Int.mul_sub]
  rw [e1, isum_swap]
  apply isum_eq
  intro i hi
  rw [isum_sub, isum_pick y (x i) 30 (hft i hi).2, isum_pick y (x i) 30 (hft i hi).1, Int.mul_sub, Int.mul_comm (x i), Int.mul_comm (x i)]
/-- a plan that can be -/
def Feas (nP : Nat) (fr to : Nat → Nat) (u s d x z : Nat → Int) : Prop := (∀ i, i < nP → 0 ≤ x i ∧ x i ≤ u i) ∧ (∀ k, k < 30 → 0 ≤ z k ∧ z k ≤ d k) ∧ ∀ k, k < 30 → 0 ≤ net nP fr to x k + s k - z k
def costP (nP : Nat) (c : Nat → Int) (L : Int) (d x z : Nat → Int) : Int := isum nP (fun i => c i * x i) + isum 30 (fun k => L * (d k - z k))
def dualP (nP : Nat) (fr to : Nat → Nat) (c u : Nat → Int) (L : Int) (s d y : Nat → Int) : Int := isum 30 (fun k => L * d k - s k * y k - d k * imx (L - y k)) - isum nP (fun i => u i * imx (y (to i) - y (fr i) - c i))
theorem weak {nP : Nat} {fr to : Nat → Nat} {c u s d x z y : Nat → Int} {L : Int} (hft : ∀ i, i < nP → fr i < 30 ∧ to i < 30) (hF : Feas nP fr to u s d x z) (hy : ∀ k, k < 30 → 0 ≤ y k) : dualP nP fr to c u L s d y ≤ costP nP c L d x z := by
  obtain ⟨h1, h2, h3⟩ := hF
  unfold dualP costP
  have a1 : isum nP (fun i => x i * (y (to i) - y (fr i))) ≤ isum nP (fun i => c i * x i + u i * imx (y (to i) - y (fr i) - c i)) := by
    apply isum_le
    intro i hi
    obtain ⟨b1, b2⟩ := h1 i hi
    obtain ⟨m1, m2⟩ := imx_ge (y (to i) - y (fr i) - c i)
    have e1 : x i * (y (to i) - y (fr i) - c i) ≤ x i * imx (y (to i) - y (fr i) - c i) := Int.mul_le_mul_of_nonneg_left m1 b1
    have e2 : x i * imx (y (to i) - y (fr i) - c i) ≤ u i * imx (y (to i) - y (fr i) - c i) := Int.mul_le_mul_of_nonneg_right b2 m2
    have e3 : x i * (y (to i) - y (fr i) - c i) = x i * (y (to i) - y (fr i)) - c i * x i := by rw [Int.mul_sub, Int.mul_comm (x i) (c i)]
    omega
  have a2 : isum 30 (fun k => s k * y k - z k * y k) ≤ isum 30 (fun k => L * (d k - z k) - (L * d k - s k * y k - d k * imx (L - y k))) := by
    apply isum_le
    intro k hk
    obtain ⟨b1, b2⟩ := h2 k hk
    obtain ⟨m1, m2⟩ := imx_ge (L - y k)
    have e1 : z k * (L - y k) ≤ z k * imx (L - y k) := Int.mul_le_mul_of_nonneg_left m1 b1
    have e2 : z k * imx (L - y k) ≤ d k * imx (L - y k) := Int.mul_le_mul_of_nonneg_right b2 m2
    have e3 : z k * (L - y k) = L * z k - z k * y k := by rw [Int.mul_sub, Int.mul_comm (z k) L]
    have e4 : L * (d k - z k) = L * d k - L * z k := Int.mul_sub _ _ _
    omega
  have a3 : 0 ≤ isum 30 (fun k => y k * net nP fr to x k + (s k * y k - z k * y k)) := by
    rw [← isum_zero 30]
    apply isum_le
    intro k hk
    have b := h3 k hk
    have e1 : 0 ≤ y k * (net nP fr to x k + s k - z k) := Int.mul_nonneg (hy k hk) b
    have e2 : y k * (net nP fr to x k + s k - z k) = y k * net nP fr to x k + (s k * y k - z k * y k) := by rw [Int.mul_sub, Int.mul_add, Int.mul_comm (y k) (s k), Int.mul_comm (y k) (z k)]; omega
    omega
  rw [isum_add, net_sum x y hft] at a3
  rw [isum_add] at a1
  rw [isum_sub (fun k => L * (d k - z k)) (fun k => L * d k - s k * y k - d k * imx (L - y k))] at a2
  omega
