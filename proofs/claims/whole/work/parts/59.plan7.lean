/-! THE PLAN: sums of integers -/
theorem isum_eq {f g : Nat → Int} : ∀ n, (∀ i, i < n → f i = g i) → isum n f = isum n g := by
  intro n
  induction n with
  | zero => intro h; rfl
  | succ n ih =>
    intro h
    rw [isum, isum, ih (fun i hi => h i (by omega)), h n (by omega)]
theorem isum_le {f g : Nat → Int} : ∀ n, (∀ i, i < n → f i ≤ g i) → isum n f ≤ isum n g := by
  intro n
  induction n with
  | zero => intro h; exact Int.le_refl 0
  | succ n ih =>
    intro h
    have h1 := ih (fun i hi => h i (by omega))
    have h2 := h n (by omega)
    rw [isum, isum]
    omega
theorem isum_add (f g : Nat → Int) : ∀ n, isum n (fun i => f i + g i) = isum n f + isum n g := by
  intro n
  induction n with
  | zero => rfl
  | succ n ih =>
    rw [isum, isum, isum, ih]
    omega
theorem isum_sub (f g : Nat → Int) : ∀ n, isum n (fun i => f i - g i) = isum n f - isum n g := by
  intro n
  induction n with
  | zero => rfl
  | succ n ih =>
    rw [isum, isum, isum, ih]
    omega
theorem isum_zero : ∀ n, isum n (fun _ => 0) = 0 := by
  intro n
  induction n with
  | zero => rfl
  | succ n ih => rw [isum, ih]; rfl
/-- the sum changes by what one cell changes -/
theorem isum_at {f g : Nat → Int} {c : Nat} {x : Int} : ∀ n, c < n → (∀ i, i < n → i ≠ c → f i = g i) → f c = g c + x → isum n f = isum n g + x := by
  intro n
  induction n with
  | zero => intro h; omega
  | succ n ih =>
    intro h1 h2 h3
    rw [isum, isum]
    by_cases e : c = n
    · subst e
      rw [isum_eq c (fun i hi => h2 i (by omega) (by omega)), h3]
      omega
    · rw [ih (by omega) (fun i hi hc => h2 i (by omega) hc) h3, h2 n (by omega) (fun z => e z.symm)]
      omega
/-- sums in either order -/
theorem isum_swap (f : Nat → Nat → Int) : ∀ n m, isum n (fun i => isum m (fun j => f i j)) = isum m (fun j => isum n (fun i => f i j)) := by
  intro n m
  induction n with
  | zero =>
    rw [show isum m (fun j => isum 0 (fun i => f i j)) = isum m (fun _ => 0) from rfl, isum_zero]
    rfl
  | succ n ih =>
    rw [isum, ih, ← isum_add]
    rfl
