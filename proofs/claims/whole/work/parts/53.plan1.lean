/-! THE PLAN: Bellman and Ford, over integers -/
def Sup (nA : Nat) (st en : Nat → Nat) (co : Nat → Int) (act : Nat → Prop) (base y : Nat → Int) : Prop := (∀ k, k < 30 → base k ≤ y k) ∧ ∀ a, a < nA → act a → y (en a) - co a ≤ y (st a)
noncomputable def low (T : Nat → Prop) (y : Nat → Int) : Nat → Int := fun k => @ite Int (T k) (Classical.propDecidable _) (y k - 1) (y k)
theorem low_in {T : Nat → Prop} {y : Nat → Int} {k : Nat} (h : T k) : low T y k = y k - 1 := if_pos h
theorem low_out {T : Nat → Prop} {y : Nat → Int} {k : Nat} (h : ¬ T k) : low T y k = y k := if_neg h
theorem sum_le (f g : Nat → Nat) : ∀ n, (∀ i, i < n → f i ≤ g i) → sumF n f ≤ sumF n g := by
  intro n
  induction n with
  | zero => intro h; exact Nat.le_refl 0
  | succ n ih =>
    intro h
    have h1 := ih (fun i hi => h i (by omega))
    have h2 := h n (by omega)
    rw [sumF, sumF]
    omega
theorem sum_lt' (f g : Nat → Nat) (c : Nat) : ∀ n, c < n → (∀ i, i < n → f i ≤ g i) → f c < g c → sumF n f < sumF n g := by
  intro n
  induction n with
  | zero => intro h; omega
  | succ n ih =>
    intro h1 h2 h3
    rw [sumF, sumF]
    by_cases e : c = n
    · subst e
      have := sum_le f g c (fun i hi => h2 i (by omega))
      omega
    · have h4 := ih (by omega) (fun i hi => h2 i (by omega)) h3
      have h5 := h2 n (by omega)
      omega
/-- a super-solution that cannot be lowered by 1 on any set -/
theorem least_sup {nA : Nat} {st en : Nat → Nat} {co : Nat → Int} {act : Nat → Prop} {base : Nat → Int} : ∀ (N : Nat) (y : Nat → Int), Sup nA st en co act base y → sumF 30 (fun k => (y k - base k).toNat) ≤ N → ∃ g, Sup nA st en co act base g ∧ ∀ T : Nat → Prop, (∃ k, k < 30 ∧ T k) → ¬ Sup nA st en co act base (low T g) := by
  intro N
  induction N with
  | zero =>
    intro y hy hN
    refine ⟨y, hy, ?_⟩
    rintro T ⟨k, hk, hT⟩ hl
    have h1 := hl.1 k hk
    rw [low_in hT] at h1
    have := sum_lt' (fun _ => 0) (fun k => (y k - base k).toNat) k 30 hk (fun i hi => Nat.zero_le _) (by show 0 < (y k - base k).toNat; omega)
    have z : sumF 30 (fun _ => 0) = 0 := sum_zero _ _ (fun _ _ => rfl)
    omega
  | succ N ih =>
    intro y hy hN
    by_cases c : ∃ T : Nat → Prop, (∃ k, k < 30 ∧ T k) ∧ Sup nA st en co act base (low T y)
    · obtain ⟨T, ⟨k, hk, hT⟩, hl⟩ := c
      refine ih (low T y) hl ?_
      have h1 := hl.1 k hk
      rw [low_in hT] at h1
      have := sum_lt' (fun k => (low T y k - base k).toNat) (fun k => (y k - base k).toNat) k 30 hk (fun i hi => by
        show (low T y i - base i).toNat ≤ (y i - base i).toNat
        by_cases z : T i
        · rw [low_in z]; omega
        · rw [low_out z]; omega) (by
        show (low T y k - base k).toNat < (y k - base k).toNat
        rw [low_in hT]; omega)
      omega
    · exact ⟨y, hy, fun T hT hl => c ⟨T, hT, hl⟩⟩
/-- one round: nothing falls, every arc that stood open is heeded, and no super-solution is passed -/
def Rnd (nA : Nat) (st en : Nat → Nat) (co : Nat → Int) (act : Nat → Prop) (base g g' : Nat → Int) : Prop := (∀ k, k < 30 → g k ≤ g' k) ∧ (∀ a, a < nA → act a → g (en a) - co a ≤ g' (st a)) ∧ ∀ y, Sup nA st en co act base y → (∀ k, k < 30 → g k ≤ y k) → ∀ k, k < 30 → g' k ≤ y k
def eqN (g h : Nat → Int) : Nat → Nat := fun k => if g k = h k then 1 else 0
/-- each round makes one more knot final, until all are -/
theorem rnd_grow {nA : Nat} {st en : Nat → Nat} {co : Nat → Int} {act : Nat → Prop} {base g g' s : Nat → Int} (hst : ∀ a, a < nA → st a < 30 ∧ en a < 30) (hs : Sup nA st en co act base s) (hl : ∀ T : Nat → Prop, (∃ k, k < 30 ∧ T k) → ¬ Sup nA st en co act base (low T s)) (hb : ∀ k, k < 30 → base k ≤ g k) (hg : ∀ k, k < 30 → g k ≤ s k) (hr : Rnd nA st en co act base g g') (hn : ∃ k, k < 30 ∧ g k ≠ s k) : sumF 30 (eqN g s) < sumF 30 (eqN g' s) := by
  obtain ⟨r1, r2, r3⟩ := hr
  have up : ∀ k, k < 30 → g' k ≤ s k := r3 s hs hg
  have keep : ∀ k, k < 30 → g k = s k → g' k = s k := fun k hk e => by
    have h1 := r1 k hk
    have h2 := up k hk
    omega
  -- some knot that is not final has a tight open arc to a final one
  have key : ∃ k, k < 30 ∧ g k ≠ s k ∧ ∃ a, a < nA ∧ act a ∧ st a = k ∧ g (en a) = s (en a) ∧ s (en a) - co a = s k := by
    by_cases c : ∃ k, k < 30 ∧ g k ≠ s k ∧ ∃ a, a < nA ∧ act a ∧ st a = k ∧ g (en a) = s (en a) ∧ s (en a) - co a = s k
    · exact c
    · exfalso
      obtain ⟨k0, hk0, hn0⟩ := hn
      refine hl (fun k => k < 30 ∧ g k ≠ s k) ⟨k0, hk0, hk0, hn0⟩ ⟨fun k hk => ?_, fun a ha haa => ?_⟩
      · by_cases z : k < 30 ∧ g k ≠ s k
        · rw [low_in (T := fun k => k < 30 ∧ g k ≠ s k) z]
          have h1 := hb k hk
          have h2 := hg k hk
          have h3 := z.2
          omega
        · rw [low_out (T := fun k => k < 30 ∧ g k ≠ s k) z]
          exact hs.1 k hk
      · have h0 := hs.2 a ha haa
        obtain ⟨q1, q2⟩ := hst a ha
        by_cases z : st a < 30 ∧ g (st a) ≠ s (st a)
        · rw [low_in (T := fun k => k < 30 ∧ g k ≠ s k) z]
          by_cases z2 : en a < 30 ∧ g (en a) ≠ s (en a)
          · rw [low_in (T := fun k => k < 30 ∧ g k ≠ s k) z2]; omega
          · rw [low_out (T := fun k => k < 30 ∧ g k ≠ s k) z2]
            have e2 : g (en a) = s (en a) := by
              by_cases w : g (en a) = s (en a)
              · exact w
              · exact absurd ⟨q2, w⟩ z2
            have : s (en a) - co a ≠ s (st a) := fun w => c ⟨st a, q1, z.2, a, ha, haa, rfl, e2, w⟩
            omega
        · rw [low_out (T := fun k => k < 30 ∧ g k ≠ s k) z]
          by_cases z2 : en a < 30 ∧ g (en a) ≠ s (en a)
          · rw [low_in (T := fun k => k < 30 ∧ g k ≠ s k) z2]; omega
          · rw [low_out (T := fun k => k < 30 ∧ g k ≠ s k) z2]; exact h0
  obtain ⟨k, hk, hne, a, ha, haa, e1, e2, e3⟩ := key
  refine sum_lt' (eqN g s) (eqN g' s) k 30 hk (fun i hi => ?_) ?_
  · unfold eqN
    by_cases z : g i = s i
    · rw [if_pos z, if_pos (keep i hi z)]; exact Nat.le_refl 1
    · rw [if_neg z]; exact Nat.zero_le _
  · unfold eqN
    have h1 := r2 a ha haa
    rw [e1] at h1
    have h2 := up k hk
    rw [if_neg hne, if_pos (by omega)]
    decide
