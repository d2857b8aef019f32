/-! QUARRELS -/
theorem min_loop (g : Nat → Int32 → Int32 → Option Int32) (nW : Nat) (h60 : nW ≤ 60) (Q : Nat → Prop) (D : Nat → Nat) (z : Int32) (hz : z < 0)
    (hx : ∀ n a, g (n + 1) a (nI nW) = some a)
    (hs : ∀ n i a, i < nW → (a = z ∨ ∃ s, s < i ∧ a = nI s) → g (n + 1) a (nI i) = g n (@ite Int32 (Q i ∧ (a = z ∨ ∃ s, s < i ∧ a = nI s ∧ D i < D s)) (Classical.propDecidable _) (nI i) a) (nI (i + 1))) :
    ∃ r, g FU z 0 = some r ∧ ((r = z ∧ ∀ i, i < nW → ¬ Q i) ∨ ∃ s, s < nW ∧ r = nI s ∧ Q s ∧ ∀ i, i < nW → Q i → 100 * D s + s ≤ 100 * D i + i) := by
  have main : ∀ (k i n : Nat) (a : Int32), i + k = nW → k < n → ((a = z ∧ ∀ j, j < i → ¬ Q j) ∨ ∃ s, s < i ∧ a = nI s ∧ Q s ∧ ∀ j, j < i → Q j → 100 * D s + s ≤ 100 * D j + j) → ∃ r, g n a (nI i) = some r ∧ ((r = z ∧ ∀ i, i < nW → ¬ Q i) ∨ ∃ s, s < nW ∧ r = nI s ∧ Q s ∧ ∀ i, i < nW → Q i → 100 * D s + s ≤ 100 * D i + i) := by
    intro k
    induction k with
    | zero =>
      intro i n a h1 h2 h3
      obtain ⟨n, rfl⟩ : ∃ x, n = x + 1 := ⟨n - 1, by omega⟩
      obtain rfl : i = nW := by omega
      exact ⟨a, hx n a, h3⟩
    | succ k ih =>
      intro i n a h1 h2 h3
      obtain ⟨n, rfl⟩ : ∃ x, n = x + 1 := ⟨n - 1, by omega⟩
      rw [hs n i a (by omega) (by rcases h3 with h | ⟨s, h, h', -⟩; exact Or.inl h.1; exact Or.inr ⟨s, h, h'⟩)]
      apply ih (i + 1) n _ (by omega) (by omega)
      by_cases c : Q i ∧ (a = z ∨ ∃ s, s < i ∧ a = nI s ∧ D i < D s)
      · rw [if_pos c]
        refine Or.inr ⟨i, by omega, rfl, c.1, fun j hj qj => ?_⟩
        by_cases e : j = i
        · subst e; omega
        · rcases h3 with ⟨h4, h5⟩ | ⟨s, hs', h4, h5, h6⟩
          · exact absurd qj (h5 j (by omega))
          · have := h6 j (by omega) qj
            rcases c.2 with c2 | ⟨s', hs2, c3, c4⟩
            · exact absurd hz (by rw [← c2, h4]; exact nlt0 s (by omega))
            · have : s' = s := by
                rw [h4] at c3
                exact ((nI_eq (by omega) (by omega)).1 c3).symm
              subst this
              omega
      · rw [if_neg c]
        rcases h3 with ⟨h4, h5⟩ | ⟨s, hs', h4, h5, h6⟩
        · refine Or.inl ⟨h4, fun j hj qj => ?_⟩
          by_cases e : j = i
          · subst e
            exact c ⟨qj, Or.inl h4⟩
          · exact h5 j (by omega) qj
        · refine Or.inr ⟨s, by omega, h4, h5, fun j hj qj => ?_⟩
          by_cases e : j = i
          · subst e
            have : ¬ D j < D s := fun w => c ⟨qj, Or.inr ⟨s, hs', h4, w⟩⟩
            omega
          · exact h6 j (by omega) qj
  exact main nW 0 FU z (by omega) (by rw [FU_eq]; omega) (Or.inl ⟨rfl, fun j hj => absurd hj (by omega)⟩)
def sumF : Nat → (Nat → Nat) → Nat
  | 0, _ => 0
  | n + 1, f => sumF n f + f n
theorem sum_eq (f g : Nat → Nat) : ∀ n, (∀ i, i < n → f i = g i) → sumF n f = sumF n g := by
  intro n
  induction n with
  | zero => intro h; rfl
  | succ n ih =>
    intro h
    rw [sumF, sumF, ih (fun i hi => h i (by omega)), h n (by omega)]
theorem sum_split (f g : Nat → Nat) (c x : Nat) : ∀ n, c < n → (∀ i, i < n → i ≠ c → f i = g i) → f c = g c + x → sumF n f = sumF n g + x := by
  intro n
  induction n with
  | zero => intro h; omega
  | succ n ih =>
    intro h1 h2 h3
    rw [sumF, sumF]
    by_cases e : c = n
    · subst e
      rw [sum_eq f g c (fun i hi => h2 i (by omega) (by omega)), h3]
      omega
    · rw [ih (by omega) (fun i hi hc => h2 i (by omega) hc) h3, h2 n (by omega) (fun z => e z.symm)]
      omega
theorem sum_zero (f : Nat → Nat) : ∀ n, (∀ i, i < n → f i = 0) → sumF n f = 0 := by
  intro n
  induction n with
  | zero => intro h; rfl
  | succ n ih =>
    intro h
    rw [sumF, ih (fun i hi => h i (by omega)), h n (by omega)]
/-- a chain of successors sums to the sum over all -/
theorem chain_sum {nW : Nat} (h60 : nW ≤ 60) (P : Nat → Prop) [DecidablePred P] (D G : Nat → Nat) (hD : ∀ i, i < nW → D i ≤ 200) (g : Nat → Int32 → Int32 → Option Int32)
    (hend : ∀ n a, g (n + 1) a (-1) = some a)
    (hstep : ∀ w, w < nW → P w → (G w = 0 ∧ (∀ i, i < nW → P i → ¬ 100 * D w + w < 100 * D i + i) ∧ ∀ n a, g (n + 1) a (nI w) = g n a (-1)) ∨ ∃ s, s < nW ∧ P s ∧ 100 * D w + w < 100 * D s + s ∧ (∀ i, i < nW → P i → 100 * D w + w < 100 * D i + i → 100 * D s + s ≤ 100 * D i + i) ∧ ∀ n a, g (n + 1) a (nI w) = g n (a + nI (G w)) (nI s)) :
    ∀ (B w n : Nat) (a : Int32), w < nW → P w → 30000 - (100 * D w + w) ≤ B → B + 2 ≤ n → g n a (nI w) = some (a + nI (sumF nW (fun i => if P i ∧ 100 * D w + w ≤ 100 * D i + i then G i else 0))) := by
  intro B
  induction B with
  | zero =>
    intro w n a hw hp hB hn
    have := hD w hw
    omega
  | succ B ih =>
    intro w n a hw hp hB hn
    obtain ⟨n, rfl⟩ : ∃ x, n = x + 1 := ⟨n - 1, by omega⟩
    rcases hstep w hw hp with ⟨h1, h2, h3⟩ | ⟨s, hs, ps, h1, h2, h3⟩
    · obtain ⟨n, rfl⟩ : ∃ x, n = x + 1 := ⟨n - 1, by omega⟩
      rw [h3, hend, sum_zero]
      · rw [nI_0, Int32.add_zero]
      · intro i hi
        by_cases c : P i ∧ 100 * D w + w ≤ 100 * D i + i
        · rw [if_pos c]
          have := h2 i hi c.1
          have e : i = w := by omega
          rw [e]; exact h1
        · rw [if_neg c]
    · have k1 := hD w hw
      have k2 := hD s hs
      rw [h3, ih s n (a + nI (G w)) hs ps (by omega) (by omega)]
      have e : sumF nW (fun i => if P i ∧ 100 * D w + w ≤ 100 * D i + i then G i else 0) = sumF nW (fun i => if P i ∧ 100 * D s + s ≤ 100 * D i + i then G i else 0) + G w := by
        apply sum_split _ _ w (G w) nW hw
        · intro i hi hne
          by_cases c : P i
          · by_cases c2 : 100 * D w + w ≤ 100 * D i + i
            · have := h2 i hi c (by omega)
              rw [if_pos ⟨c, c2⟩, if_pos ⟨c, this⟩]
            · rw [if_neg (fun z => c2 z.2), if_neg (fun z => c2 (by omega))]
          · rw [if_neg (fun z => c z.1), if_neg (fun z => c z.1)]
        · show (if P w ∧ 100 * D w + w ≤ 100 * D w + w then G w else 0) = (if P w ∧ 100 * D s + s ≤ 100 * D w + w then G w else 0) + G w
          rw [if_pos ⟨hp, Nat.le_refl _⟩, if_neg (fun z => by omega), Nat.zero_add]
      rw [e, Int32.add_assoc, nI_add, Nat.add_comm (G w)]
theorem class_sum {nW : Nat} (h60 : nW ≤ 60) (G : Nat → Nat) (g : Nat → Int32 → Int32 → Option Int32)
    (hx : ∀ n a, g (n + 1) a (nI nW) = some a) (hs : ∀ n i a, i < nW → g (n + 1) a (nI i) = g n (a + nI (G i)) (nI (i + 1))) : g FU 0 0 = some (nI (sumF nW G)) := by
  have main : ∀ (k i n : Nat), i + k = nW → k < n → g n (nI (sumF i G)) (nI i) = some (nI (sumF nW G)) := by
    intro k
    induction k with
    | zero =>
      intro i n h1 h2
      obtain ⟨n, rfl⟩ : ∃ x, n = x + 1 := ⟨n - 1, by omega⟩
      obtain rfl : i = nW := by omega
      exact hx n _
    | succ k ih =>
      intro i n h1 h2
      obtain ⟨n, rfl⟩ : ∃ x, n = x + 1 := ⟨n - 1, by omega⟩
      rw [hs n i _ (by omega), nI_add]
      exact ih (i + 1) n (by omega) (by omega)
  exact main nW 0 FU (by omega) (by rw [FU_eq]; omega)
