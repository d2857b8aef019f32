/-! THE PLAN: chains of ways -/
theorem php : ∀ (N M : Nat) (f : Nat → Nat), (∀ d, d < M → f d < N) → (∀ d d', d < M → d' < M → f d = f d' → d = d') → M ≤ N := by
  intro N
  induction N with
  | zero =>
    intro M f h1 h2
    rcases Nat.eq_zero_or_pos M with z | z
    · omega
    · have := h1 0 z
      omega
  | succ N ih =>
    intro M f h1 h2
    rcases Nat.eq_zero_or_pos M with z | z
    · omega
    · obtain ⟨m, rfl⟩ : ∃ m, M = m + 1 := ⟨M - 1, by omega⟩
      have := ih m (fun d => if f d = N then f m else f d) ?_ ?_
      · omega
      · intro d hd
        show (if f d = N then f m else f d) < N
        have a1 := h1 d (by omega)
        have a2 := h1 m (by omega)
        by_cases c : f d = N
        · rw [if_pos c]
          have : f m ≠ N := fun w => by
            have := h2 d m (by omega) (by omega) (by rw [c, w])
            omega
          omega
        · rw [if_neg c]
          omega
      · intro d d' hd hd' e
        have e : (if f d = N then f m else f d) = (if f d' = N then f m else f d') := e
        by_cases c : f d = N
        · by_cases c' : f d' = N
          · exact h2 d d' (by omega) (by omega) (by rw [c, c'])
          · rw [if_pos c, if_neg c'] at e
            have := h2 m d' (by omega) (by omega) e
            omega
        · by_cases c' : f d' = N
          · rw [if_neg c, if_pos c'] at e
            have := h2 d m (by omega) (by omega) e
            omega
          · rw [if_neg c, if_neg c'] at e
            exact h2 d d' (by omega) (by omega) e
/-- the chain of ways out of k ends after n arcs -/
def chn (en : Nat → Nat) (wy : Nat → Option Nat) : Nat → Nat → Prop
  | 0, k => wy k = none
  | n + 1, k => ∃ a, wy k = some a ∧ chn en wy n (en a)
def pas (en : Nat → Nat) (wy : Nat → Option Nat) : Nat → Nat → Nat → Prop
  | 0, x, k => x = k
  | n + 1, x, k => x = k ∨ ∃ a, wy x = some a ∧ pas en wy n (en a) k
theorem chn_one {en : Nat → Nat} {wy : Nat → Option Nat} : ∀ (n m k : Nat), chn en wy n k → chn en wy m k → n = m := by
  intro n
  induction n with
  | zero =>
    intro m k h1 h2
    cases m with
    | zero => rfl
    | succ m =>
      obtain ⟨a, h3, -⟩ := h2
      have h1 : wy k = none := h1
      rw [h1] at h3
      exact absurd h3 (by simp)
  | succ n ih =>
    intro m k h1 h2
    obtain ⟨a, h3, h4⟩ := h1
    cases m with
    | zero =>
      have h2 : wy k = none := h2
      rw [h2] at h3
      exact absurd h3 (by simp)
    | succ m =>
      obtain ⟨a', h5, h6⟩ := h2
      rw [h3] at h5
      obtain rfl := Option.some.inj h5
      rw [ih m (en a) h4 h6]
theorem chn_all {en : Nat → Nat} {wy : Nat → Option Nat} (hen : ∀ k a, k < 30 → wy k = some a → en a < 30) : ∀ (n k : Nat), k < 30 → chn en wy n k → ∀ d, d ≤ n → ∃ x, x < 30 ∧ chn en wy d x := by
  intro n
  induction n with
  | zero =>
    intro k hk h d hd
    obtain rfl : d = 0 := by omega
    exact ⟨k, hk, h⟩
  | succ n ih =>
    intro k hk h d hd
    by_cases e : d = n + 1
    · subst e; exact ⟨k, hk, h⟩
    · obtain ⟨a, h1, h2⟩ := h
      exact ih (en a) (hen k a hk h1) h2 d (by omega)
theorem chn_short {en : Nat → Nat} {wy : Nat → Option Nat} (hen : ∀ k a, k < 30 → wy k = some a → en a < 30) {n k : Nat} (hk : k < 30) (h : chn en wy n k) : n ≤ 29 := by
  have key : ∀ d, ∃ x, d ≤ n → x < 30 ∧ chn en wy d x := by
    intro d
    by_cases c : d ≤ n
    · obtain ⟨x, hx⟩ := chn_all hen n k hk h d c
      exact ⟨x, fun _ => hx⟩
    · exact ⟨0, fun z => absurd z c⟩
  obtain ⟨f, hf⟩ := Classical.axiomOfChoice key
  have := php 30 (n + 1) f (fun d hd => (hf d (by omega)).1) (fun d d' hd hd' e => by
    have h1 := (hf d (by omega)).2
    have h2 := (hf d' (by omega)).2
    rw [e] at h1
    exact chn_one d d' (f d') h1 h2)
  omega
theorem pas_le {en : Nat → Nat} {wy : Nat → Option Nat} (δ : Nat → Int) (hen : ∀ k a, k < 30 → wy k = some a → en a < 30) (hδ : ∀ x a, x < 30 → wy x = some a → δ (en a) ≤ δ x) : ∀ (n x k : Nat), x < 30 → pas en wy n x k → δ k ≤ δ x := by
  intro n
  induction n with
  | zero =>
    intro x k hx h
    have h : x = k := h
    rw [h]
    exact Int.le_refl _
  | succ n ih =>
    intro x k hx h
    rcases h with h | ⟨a, h1, h2⟩
    · rw [h]
      exact Int.le_refl _
    · have h3 := ih (en a) k (hen x a hx h1) h2
      have h4 := hδ x a hx h1
      omega
def setO (wy : Nat → Option Nat) (k a : Nat) : Nat → Option Nat := fun j => if j = k then some a else wy j
theorem chn_set {en : Nat → Nat} {wy : Nat → Option Nat} {k a : Nat} (hall : ∀ x, x < 30 → ∃ n, chn en wy n x) (hen : ∀ k a, k < 30 → wy k = some a → en a < 30) (ha : en a < 30) (hno : ∀ n, ¬ pas en wy n (en a) k) : ∀ x, x < 30 → ∃ n, chn en (setO wy k a) n x := by
  have stay : ∀ (n x : Nat), chn en wy n x → ¬ pas en wy n x k → chn en (setO wy k a) n x := by
    intro n
    induction n with
    | zero =>
      intro x h1 h2
      show (if x = k then some a else wy x) = none
      rw [if_neg (show ¬ x = k from h2)]
      exact h1
    | succ n ih =>
      intro x h1 h2
      obtain ⟨b, h3, h4⟩ := h1
      refine ⟨b, ?_, ih (en b) h4 (fun z => h2 (Or.inr ⟨b, h3, z⟩))⟩
      show (if x = k then some a else wy x) = some b
      rw [if_neg (fun z => h2 (Or.inl z))]
      exact h3
  obtain ⟨nj, hj⟩ := hall (en a) ha
  have hk : chn en (setO wy k a) (nj + 1) k := by
    refine ⟨a, ?_, stay nj (en a) hj (hno nj)⟩
    show (if k = k then some a else wy k) = some a
    rw [if_pos rfl]
  have main : ∀ (n x : Nat), x < 30 → chn en wy n x → ∃ m, chn en (setO wy k a) m x := by
    intro n
    induction n with
    | zero =>
      intro x hx h
      by_cases e : x = k
      · rw [e]; exact ⟨_, hk⟩
      · refine ⟨0, ?_⟩
        show (if x = k then some a else wy x) = none
        rw [if_neg e]
        exact h
    | succ n ih =>
      intro x hx h
      by_cases e : x = k
      · rw [e]; exact ⟨_, hk⟩
      · obtain ⟨b, h3, h4⟩ := h
        obtain ⟨m, hm⟩ := ih (en b) (hen x b hx h3) h4
        refine ⟨m + 1, b, ?_, hm⟩
        show (if x = k then some a else wy x) = some b
        rw [if_neg e]
        exact h3
  intro x hx
  obtain ⟨n, h⟩ := hall x hx
  exact main n x hx h
