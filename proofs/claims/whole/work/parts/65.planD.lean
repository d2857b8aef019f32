/-! THE PLAN: what stands between the sends of the class -/
def CI (P : Nat) (fr to c u : Nat → Nat) (L : Nat) (s d rm um idl : Nat → Nat) (g : Nat → Int) (V : Int) : Prop :=
  (∀ i, i < P → rm (2 * i) + rm (2 * i + 1) = u i) ∧ (∀ k, k < 30 → um k ≤ d k) ∧
  (∀ k, k < 30 → (idl k : Int) ≤ net P fr to (xo rm) k + s k - (d k - um k)) ∧
  (∀ k, k < 30 → (idl k : Int) < net P fr to (xo rm) k + s k - (d k - um k) → g k = 0) ∧
  V = isum P (fun i => (c i : Int) * xo rm i) + isum 30 (fun k => (L : Int) * um k)
def umS (um : Nat → Nat) (e b : Nat) : Nat → Nat := fun j => if j = e then (if um e = 0 then 0 else um e - b) else um j
theorem umS_le (um : Nat → Nat) (e b j : Nat) : umS um e b j ≤ um j := by
  unfold umS
  by_cases h : j = e
  · rw [if_pos h, h]
    split <;> omega
  · rw [if_neg h]
    exact Nat.le_refl _
theorem send_CI {P L b k0 e : Nat} {fr to c u s d rm um idl rm' : Nat → Nat} {g : Nat → Int} {wy : Nat → Option Nat} {V : Int} (h : CI P fr to c u L s d rm um idl g V) (hW : WK 30 P fr to c u b g wy k0 rm 0 e rm') (he : e < 30) (hbi : b ≤ idl k0) (hQ : um e = 0 ∨ b ≤ um e) (hg : g e = bsN L um e) : CI P fr to c u L s d rm' (umS um e b) (stN idl k0 (idl k0 - b)) g (V - b * g k0) := by
  obtain ⟨h1, h2, h3, h4, h5⟩ := h
  obtain ⟨w1, w2, w3, -, -⟩ := hW
  have i1 : ∀ k, (stN idl k0 (idl k0 - b) k : Int) = idl k - (if k0 = k then (b : Int) else 0) := by
    intro k
    unfold stN
    by_cases q : k = k0
    · rw [if_pos q, if_pos q.symm, q]
      omega
    · rw [if_neg q, if_neg (fun z => q z.symm)]
      omega
  have u1 : ∀ k, (umS um e b k : Int) = um k - (if e = k then (if um e = 0 then 0 else (b : Int)) else 0) := by
    intro k
    unfold umS
    by_cases q : k = e
    · rw [if_pos q, if_pos q.symm, q]
      by_cases z : um e = 0
      · rw [if_pos z, if_pos z]
        omega
      · rw [if_neg z, if_neg z]
        omega
    · rw [if_neg q, if_neg (fun z => q z.symm)]
      omega
  have key : ∀ k, net P fr to (xo rm') k + s k - (d k - umS um e b k) - stN idl k0 (idl k0 - b) k = net P fr to (xo rm) k + s k - (d k - um k) - idl k + (if e = k then (if um e = 0 then (b : Int) else 0) else 0) := by
    intro k
    rw [i1, u1, w2]
    by_cases q : e = k
    · rw [if_pos q, if_pos q, if_pos q]
      by_cases z : um e = 0
      · rw [if_pos z, if_pos z]
        omega
      · rw [if_neg z, if_neg z]
        omega
    · rw [if_neg q, if_neg q, if_neg q]
      omega
  refine ⟨w1, fun k hk => Nat.le_trans (umS_le _ _ _ _) (h2 k hk), fun k hk => ?_, fun k hk hlt => ?_, ?_⟩
  · have a1 := key k
    have a2 := h3 k hk
    have a3 : (0 : Int) ≤ (if e = k then (if um e = 0 then (b : Int) else 0) else 0) := by
      split
      · split <;> omega
      · omega
    omega
  · have a1 := key k
    by_cases q : e = k
    · by_cases z : um e = 0
      · rw [← q, hg]
        unfold bsN
        rw [if_pos z]
      · rw [if_pos q, if_neg z] at a1
        exact h4 k hk (by omega)
    · rw [if_neg q] at a1
      exact h4 k hk (by omega)
  · have a1 : isum 30 (fun k => (L : Int) * (umS um e b k : Nat)) = isum 30 (fun k => (L : Int) * um k) + -(b * g e) := by
      refine isum_at (c := e) 30 he (fun k _ hk => ?_) ?_
      · show (L : Int) * (umS um e b k : Nat) = (L : Int) * um k
        rw [u1, if_neg (fun z => hk z.symm), Int.sub_zero]
      · show (L : Int) * (umS um e b e : Nat) = (L : Int) * um e + -(b * g e)
        rw [u1, if_pos rfl, hg]
        unfold bsN
        by_cases z : um e = 0
        · rw [if_pos z, if_pos z, Int.mul_zero, Int.sub_zero, Int.neg_zero, Int.add_zero]
        · rw [if_neg z, if_neg z, Int.mul_sub, Int.mul_comm (L : Int) (b : Int)]
          omega
    rw [a1, w3, h5, Int.mul_sub]
    omega
/-- what the class's state between the sends is a plan of -/
theorem CI_feas {P L : Nat} {fr to c u s d rm um idl : Nat → Nat} {g : Nat → Int} {V : Int} (h : CI P fr to c u L s d rm um idl g V) : Feas P fr to (fun i => (u i : Int)) (fun k => (s k : Int)) (fun k => (d k : Int)) (xo rm) (fun k => (d k : Int) - um k) ∧ costP P (fun i => (c i : Int)) (L : Int) (fun k => (d k : Int)) (xo rm) (fun k => (d k : Int) - um k) = V := by
  obtain ⟨h1, h2, h3, h4, h5⟩ := h
  refine ⟨⟨fun i hi => ?_, fun k hk => ?_, fun k hk => ?_⟩, ?_⟩
  · have := h1 i hi
    show 0 ≤ xo rm i ∧ xo rm i ≤ (u i : Int)
    unfold xo
    omega
  · have := h2 k hk
    show 0 ≤ (d k : Int) - um k ∧ (d k : Int) - um k ≤ (d k : Int)
    omega
  · have := h3 k hk
    show 0 ≤ net P fr to (xo rm) k + s k - ((d k : Int) - um k)
    omega
  · unfold costP
    rw [h5]
    congr 1
    apply isum_eq
    intro k hk
    show (L : Int) * ((d k : Int) - ((d k : Int) - um k)) = (L : Int) * um k
    congr 1
    omega
/-- when nothing is left to send, the gains promise what the plan costs -/
theorem CI_end {P L : Nat} {fr to c u s d rm um idl : Nat → Nat} {g : Nat → Int} {V : Int} (h : CI P fr to c u L s d rm um idl g V) (hft : ∀ i, i < P → fr i < 30 ∧ to i < 30) (hS : Sup (2 * P) (dS fr to) (dS to fr) (dC c) (fun a => 0 < rm a) (bsN L um) g) (hg : ∀ k, k < 30 → 0 ≤ g k ∧ g k ≤ L) (he : ∀ k, k < 30 → 0 < idl k → g k ≤ 0) : V = dualP P fr to (fun i => (c i : Int)) (fun i => (u i : Int)) (L : Int) (fun k => (s k : Int)) (fun k => (d k : Int)) g := by
  obtain ⟨hF, hV⟩ := CI_feas h
  obtain ⟨h1, h2, h3, h4, h5⟩ := h
  rw [← hV]
  refine strong hft hF (fun i hi hx => ?_) (fun i hi hx => ?_) (fun k hk hz => ?_) (fun k hk _ => (hg k hk).2) (fun k hk hs => ?_)
  · have a1 := h1 i hi
    have hx : xo rm i < (u i : Int) := hx
    unfold xo at hx
    have a2 := hS.2 (2 * i) (by omega) (show 0 < rm (2 * i) by omega)
    rw [dS_even, dS_even, dC_even] at a2
    show g (to i) - g (fr i) - (c i : Int) ≤ 0
    omega
  · have hx : 0 < xo rm i := hx
    unfold xo at hx
    have a2 := hS.2 (2 * i + 1) (by omega) (show 0 < rm (2 * i + 1) by omega)
    rw [dS_odd, dS_odd, dC_odd] at a2
    show 0 ≤ g (to i) - g (fr i) - (c i : Int)
    omega
  · have hz : (d k : Int) - um k < (d k : Int) := hz
    have a1 := hS.1 k hk
    unfold bsN at a1
    rw [if_neg (by omega)] at a1
    exact a1
  · have hs : 0 < net P fr to (xo rm) k + s k - ((d k : Int) - um k) := hs
    by_cases q : (idl k : Int) < net P fr to (xo rm) k + s k - (d k - um k)
    · exact h4 k hk q
    · have a1 := h3 k hk
      have a2 := he k hk (by omega)
      have a3 := (hg k hk).1
      omega
theorem CI_pos {P L : Nat} {fr to c u s d rm um idl : Nat → Nat} {g : Nat → Int} {V : Int} (h : CI P fr to c u L s d rm um idl g V) : 0 ≤ V := by
  obtain ⟨-, -, -, -, h5⟩ := h
  have a1 : isum P (fun _ => 0) ≤ isum P (fun i => (c i : Int) * xo rm i) := isum_le P (fun i hi => Int.mul_nonneg (by omega) (by unfold xo; omega))
  have a2 : isum 30 (fun _ => 0) ≤ isum 30 (fun k => (L : Int) * um k) := isum_le 30 (fun i hi => Int.mul_nonneg (by omega) (by omega))
  rw [isum_zero] at a1 a2
  omega
