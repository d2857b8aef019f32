/-! THE PLAN: one round of the class -/
def woI (o : Option Nat) : Int32 := match o with
  | none => -3
  | some a => nI a
/-- the arcs as they are laid -/
def RArcs (nA : Nat) (st en : Nat → Nat) (co : Nat → Int) (rm : Nat → Nat) (fs fe fc fr : Nat → Int32) : Prop := nA ≤ 148 ∧ ∀ a, a < nA → (st a < 30 ∧ en a < 30 ∧ -99 ≤ co a ∧ co a ≤ 99 ∧ rm a ≤ 2000) ∧ fs a = nI (st a) ∧ fe a = nI (en a) ∧ fc a = zI (co a) ∧ fr a = nI (rm a)
def RGain (g : Nat → Int) (wy : Nat → Option Nat) (fg fw : Nat → Int32) : Prop := ∀ k, k < 30 → (0 ≤ g k ∧ g k ≤ 500) ∧ fg k = zI (g k) ∧ fw k = woI (wy k)
/-- gains and ways stand together -/
def WI (nA : Nat) (st en : Nat → Nat) (co : Nat → Int) (act : Nat → Prop) (base g : Nat → Int) (wy : Nat → Option Nat) : Prop := (∀ k, k < 30 → base k ≤ g k) ∧ (∀ k, k < 30 → wy k = none → g k = base k) ∧ (∀ k a, k < 30 → wy k = some a → a < nA ∧ act a ∧ st a = k ∧ g k ≤ g (en a) - co a) ∧ ∀ k, k < 30 → ∃ n, chn en wy n k
def upZ (g : Nat → Int) (k : Nat) (v : Int) : Nat → Int := fun j => if j = k then v else g j
theorem WI_set {nA : Nat} {st en : Nat → Nat} {co : Nat → Int} {act : Nat → Prop} {base g y : Nat → Int} {wy : Nat → Option Nat} (hst : ∀ a, a < nA → st a < 30 ∧ en a < 30) (hy : Sup nA st en co act base y) (h : WI nA st en co act base g wy) {a : Nat} (ha : a < nA) (haa : act a) (hlt : g (st a) < g (en a) - co a) : WI nA st en co act base (upZ g (st a) (g (en a) - co a)) (setO wy (st a) a) ∧ en a ≠ st a := by
  obtain ⟨h1, h2, h3, h4⟩ := h
  obtain ⟨q1, q2⟩ := hst a ha
  have hen : ∀ k b, k < 30 → wy k = some b → en b < 30 := fun k b hk hb => (hst b (h3 k b hk hb).1).2
  have hno : ∀ n, ¬ pas en wy n (en a) (st a) := by
    intro n hp
    have := pas_le (fun k => y k - g k) hen (fun x b hx hb => by
      obtain ⟨b1, b2, b3, b4⟩ := h3 x b hx hb
      have := hy.2 b b1 b2
      rw [b3] at this
      show y (en b) - g (en b) ≤ y x - g x
      omega) n (en a) (st a) q2 hp
    have h5 := hy.2 a ha haa
    have this : y (st a) - g (st a) ≤ y (en a) - g (en a) := this
    omega
  have hne : en a ≠ st a := fun z => hno 0 z
  have up : ∀ k, g k ≤ upZ g (st a) (g (en a) - co a) k := by
    intro k
    unfold upZ
    split
    · rename_i e
      rw [e]; omega
    · exact Int.le_refl _
  refine ⟨⟨fun k hk => Int.le_trans (h1 k hk) (up k), fun k hk hn => ?_, fun k b hk hb => ?_, chn_set h4 hen q2 hno⟩, hne⟩
  · by_cases e : k = st a
    · have : setO wy (st a) a k = some a := if_pos e
      rw [this] at hn
      exact absurd hn (by simp)
    · have e1 : setO wy (st a) a k = wy k := if_neg e
      have e2 : upZ g (st a) (g (en a) - co a) k = g k := if_neg e
      rw [e1] at hn
      rw [e2]
      exact h2 k hk hn
  · by_cases e : k = st a
    · have e1 : setO wy (st a) a k = some a := if_pos e
      rw [e1] at hb
      obtain rfl := Option.some.inj hb
      have e2 : upZ g (st a) (g (en a) - co a) k = g (en a) - co a := if_pos e
      have e3 : upZ g (st a) (g (en a) - co a) (en a) = g (en a) := if_neg hne
      exact ⟨ha, haa, e.symm, by rw [e2, e3]; exact Int.le_refl _⟩
    · have e1 : setO wy (st a) a k = wy k := if_neg e
      have e2 : upZ g (st a) (g (en a) - co a) k = g k := if_neg e
      rw [e1] at hb
      obtain ⟨b1, b2, b3, b4⟩ := h3 k b hk hb
      refine ⟨b1, b2, b3, ?_⟩
      rw [e2]
      have := up (en b)
      omega
