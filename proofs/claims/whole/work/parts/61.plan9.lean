theorem imx_pos {a : Int} (h : 0 ≤ a) : imx a = a := by
  unfold imx
  split <;> omega
theorem imx_neg {a : Int} (h : a ≤ 0) : imx a = 0 := if_pos h
/-- where the slacks are in order, the plan costs what the prices promise -/
theorem strong {nP : Nat} {fr to : Nat → Nat} {c u s d x z y : Nat → Int} {L : Int} (hft : ∀ i, i < nP → fr i < 30 ∧ to i < 30) (hF : Feas nP fr to u s d x z) (c1 : ∀ i, i < nP → x i < u i → y (to i) - y (fr i) - c i ≤ 0) (c2 : ∀ i, i < nP → 0 < x i → 0 ≤ y (to i) - y (fr i) - c i) (c3 : ∀ k, k < 30 → z k < d k → L ≤ y k) (c4 : ∀ k, k < 30 → 0 < z k → y k ≤ L) (c5 : ∀ k, k < 30 → 0 < net nP fr to x k + s k - z k → y k = 0) : costP nP c L d x z = dualP nP fr to c u L s d y := by
  obtain ⟨h1, h2, h3⟩ := hF
  unfold dualP costP
  have a1 : isum nP (fun i => x i * (y (to i) - y (fr i))) = isum nP (fun i => c i * x i + u i * imx (y (to i) - y (fr i) - c i)) := by
    apply isum_eq
    intro i hi
    obtain ⟨b1, b2⟩ := h1 i hi
    have e3 : x i * (y (to i) - y (fr i) - c i) = x i * (y (to i) - y (fr i)) - c i * x i := by rw [Int.mul_sub, Int.mul_comm (x i) (c i)]
    have key : u i * imx (y (to i) - y (fr i) - c i) = x i * (y (to i) - y (fr i) - c i) := by
      by_cases q : x i < u i
      · have w := c1 i hi q
        rw [imx_neg w, Int.mul_zero]
        by_cases p : 0 < x i
        · have w2 := c2 i hi p
          have w3 : y (to i) - y (fr i) - c i = 0 := by omega
          rw [w3, Int.mul_zero]
        · have w3 : x i = 0 := by omega
          rw [w3, Int.zero_mul]
      · have e : x i = u i := by omega
        by_cases p : 0 < x i
        · rw [imx_pos (c2 i hi p), e]
        · have w3 : x i = 0 := by omega
          have w4 : u i = 0 := by omega
          rw [w3, w4, Int.zero_mul, Int.zero_mul]
    omega
  have a2 : isum 30 (fun k => s k * y k - z k * y k) = isum 30 (fun k => L * (d k - z k) - (L * d k - s k * y k - d k * imx (L - y k))) := by
    apply isum_eq
    intro k hk
    obtain ⟨b1, b2⟩ := h2 k hk
    have e3 : z k * (L - y k) = L * z k - z k * y k := by rw [Int.mul_sub, Int.mul_comm (z k) L]
    have e4 : L * (d k - z k) = L * d k - L * z k := Int.mul_sub _ _ _
    have key : d k * imx (L - y k) = z k * (L - y k) := by
      by_cases q : z k < d k
      · have w := c3 k hk q
        rw [imx_neg (by omega), Int.mul_zero]
        by_cases p : 0 < z k
        · have w2 := c4 k hk p
          have w3 : L - y k = 0 := by omega
          rw [w3, Int.mul_zero]
        · have w3 : z k = 0 := by omega
          rw [w3, Int.zero_mul]
      · have e : z k = d k := by omega
        by_cases p : 0 < z k
        · have w2 := c4 k hk p
          rw [imx_pos (by omega), e]
        · have w3 : z k = 0 := by omega
          have w4 : d k = 0 := by omega
          rw [w3, w4, Int.zero_mul, Int.zero_mul]
    omega
  have a3 : isum 30 (fun k => y k * net nP fr to x k + (s k * y k - z k * y k)) = 0 := by
    rw [← isum_zero 30]
    apply isum_eq
    intro k hk
    have b := h3 k hk
    have e1 : y k * (net nP fr to x k + s k - z k) = 0 := by
      by_cases p : 0 < net nP fr to x k + s k - z k
      · rw [c5 k hk p, Int.zero_mul]
      · have w : net nP fr to x k + s k - z k = 0 := by omega
        rw [w, Int.mul_zero]
    have e2 : y k * (net nP fr to x k + s k - z k) = y k * net nP fr to x k + (s k * y k - z k * y k) := by rw [Int.mul_sub, Int.mul_add, Int.mul_comm (y k) (s k), Int.mul_comm (y k) (z k)]; omega
    omega
  rw [isum_add, net_sum x y hft] at a3
  rw [isum_add] at a1
  rw [isum_sub (fun k => L * (d k - z k)) (fun k => L * d k - s k * y k - d k * imx (L - y k))] at a2
  omega
