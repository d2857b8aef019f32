theorem sum_max (f : Nat → Nat) : ∀ n, (∀ i, i < n → f i ≤ 1) → sumF n f ≤ n := by
  intro n
  induction n with
  | zero => intro h; exact Nat.le_refl 0
  | succ n ih =>
    intro h
    have h1 := ih (fun i hi => h i (by omega))
    have h2 := h n (by omega)
    rw [sumF]
    omega
theorem Sup_eq {nA : Nat} {st en : Nat → Nat} {co : Nat → Int} {act : Nat → Prop} {base g s : Nat → Int} (hst : ∀ a, a < nA → st a < 30 ∧ en a < 30) (hs : Sup nA st en co act base s) (he : ∀ k, k < 30 → g k = s k) : Sup nA st en co act base g := by
  refine ⟨fun k hk => by rw [he k hk]; exact hs.1 k hk, fun a ha haa => ?_⟩
  rw [he _ (hst a ha).1, he _ (hst a ha).2]
  exact hs.2 a ha haa
/-- the rounds of the class come to rest -/
theorem rounds_at {nA : Nat} {st en : Nat → Nat} {co : Nat → Int} {rm : Nat → Nat} {fs fe fc fr : Nat → Int32} {base y : Nat → Int} (hA : RArcs nA st en co rm fs fe fc fr) (hy : Sup nA st en co (fun a => 0 < rm a) base y) (hy5 : ∀ k, k < 30 → y k ≤ 500) (hb0 : ∀ k, k < 30 → 0 ≤ base k) : ∀ (rem r n : Nat) (chg : Int32) (g : Nat → Int) (wy : Nat → Option Nat) (fg fw : Nat → Int32) (s : Nat → Int), r + rem = 31 → rem < n → (chg = 1 ∨ (chg = 0 ∧ Sup nA st en co (fun a => 0 < rm a) base g)) → RGain g wy fg fw → WI nA st en co (fun a => 0 < rm a) base g wy → (∀ y, Sup nA st en co (fun a => 0 < rm a) base y → ∀ k, k < 30 → g k ≤ y k) → Sup nA st en co (fun a => 0 < rm a) base s → (∀ T : Nat → Prop, (∃ k, k < 30 ∧ T k) → ¬ Sup nA st en co (fun a => 0 < rm a) base (low T s)) → ((∀ k, k < 30 → g k = s k) ∨ r ≤ sumF 30 (eqN g s)) → ∃ g' wy' fg' fw', fX3_reckonGains_49 (nI nA) fs fe fc fr n chg (nI r) fg fw = some (fg', fw') ∧ RGain g' wy' fg' fw' ∧ WI nA st en co (fun a => 0 < rm a) base g' wy' ∧ Sup nA st en co (fun a => 0 < rm a) base g' ∧ ∀ y, Sup nA st en co (fun a => 0 < rm a) base y → ∀ k, k < 30 → g' k ≤ y k := by
  have hst : ∀ a, a < nA → st a < 30 ∧ en a < 30 := fun a ha => ⟨(hA.2 a ha).1.1, (hA.2 a ha).1.2.1⟩
  intro rem
  induction rem with
  | zero =>
    intro r n chg g wy fg fw s h1 h2 h3 h4 h5 h6 h7 h8 h9
    obtain ⟨n, rfl⟩ : ∃ x, n = x + 1 := ⟨n - 1, by omega⟩
    have all : ∀ k, k < 30 → g k = s k := by
      rcases h9 with h9 | h9
      · exact h9
      · have := sum_max (eqN g s) 30 (fun i hi => by unfold eqN; split <;> omega)
        omega
    refine ⟨g, wy, fg, fw, ?_, h4, h5, Sup_eq hst h7 all, h6⟩
    rw [fX3_reckonGains_49, if_pos (show (30 : Int32) < nI r from nI_lt (a := 30) (by omega) (by omega))]
  | succ rem ih =>
    intro r n chg g wy fg fw s h1 h2 h3 h4 h5 h6 h7 h8 h9
    obtain ⟨n, rfl⟩ : ∃ x, n = x + 1 := ⟨n - 1, by omega⟩
    have e30 : ¬ (30 : Int32) < nI r := nI_nlt (a := 30) (by omega) (by omega)
    rcases h3 with rfl | ⟨rfl, h3⟩
    · obtain ⟨chg', g', wy', fg', fw', q1, q2, q3, q4, q5, q6, q7⟩ := sweep_at hA hy hy5 hb0 h4 h5 (h6 y hy) (fun v1 a b => fX3_reckonGains_161 (fun v1 v2 a b => fX3_reckonGains_49 (nI nA) fs fe fc fr n v1 v2 a b) v1 (nI r) a b)
      have le' : ∀ y, Sup nA st en co (fun a => 0 < rm a) base y → ∀ k, k < 30 → g' k ≤ y k := fun y hy => q4.2.2 y hy (h6 y hy)
      have c' : (∀ k, k < 30 → g' k = s k) ∨ r + 1 ≤ sumF 30 (eqN g' s) := by
        by_cases z : ∃ k, k < 30 ∧ g k ≠ s k
        · right
          have grow := rnd_grow hst h7 h8 h5.1 (h6 s h7) q4 z
          rcases h9 with h9 | h9
          · obtain ⟨k, hk, hne⟩ := z
            exact absurd (h9 k hk) hne
          · omega
        · left
          intro k hk
          have e : g k = s k := by
            by_cases w : g k = s k
            · exact w
            · exact absurd ⟨k, hk, w⟩ z
          have a1 := q4.1 k hk
          have a2 := le' s h7 k hk
          omega
      have st' : chg' = 1 ∨ (chg' = 0 ∧ Sup nA st en co (fun a => 0 < rm a) base g') := by
        rcases q1 with z | z
        · right
          refine ⟨z, q3.1, fun a ha haa => ?_⟩
          have e := q6 z
          rw [e _ (hst a ha).2]
          exact q4.2.1 a ha haa
        · exact Or.inl z
      have nx := ih (r + 1) n chg' g' wy' fg' fw' s (by omega) (by omega) st' q2 q3 le' h7 h8 c'
      rw [fX3_reckonGains_49, if_neg e30, if_neg (by decide), q7]
      simp only [fX3_reckonGains_161, nI_1]
      exact nx
    · refine ⟨g, wy, fg, fw, ?_, h4, h5, h3, h6⟩
      rw [fX3_reckonGains_49, if_neg e30, if_pos rfl]
