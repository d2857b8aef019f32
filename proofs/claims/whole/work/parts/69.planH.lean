/-! THE PLAN: the reference, with its 32 knots -/
theorem chn_allR {en : Nat → Nat} {wy : Nat → Option Nat} (hen : ∀ k a, k < 32 → wy k = some a → en a < 32) : ∀ (n k : Nat), k < 32 → chn en wy n k → ∀ d, d ≤ n → ∃ x, x < 32 ∧ chn en wy d x := by
  intro n
  induction n with
  | zero =>
    intro k hk h d hd
    obtain rfl : d = 0 := by omega
    exact ⟨k, hk, h⟩
  | succ n ih =>
    intro k hk h d hd
    by_cases e : d = n + 1
    · subst e; exact ⟨k, hk, h⟩
    · obtain ⟨a, h1, h2⟩ := h
      exact ih (en a) (hen k a hk h1) h2 d (by omega)
theorem chn_shortR {en : Nat → Nat} {wy : Nat → Option Nat} (hen : ∀ k a, k < 32 → wy k = some a → en a < 32) {n k : Nat} (hk : k < 32) (h : chn en wy n k) : n ≤ 31 := by
  have key : ∀ d, ∃ x, d ≤ n → x < 32 ∧ chn en wy d x := by
    intro d
    by_cases c : d ≤ n
    · obtain ⟨x, hx⟩ := chn_allR hen n k hk h d c
      exact ⟨x, fun _ => hx⟩
    · exact ⟨0, fun z => absurd z c⟩
  obtain ⟨f, hf⟩ := Classical.axiomOfChoice key
  have := php 32 (n + 1) f (fun d hd => (hf d (by omega)).1) (fun d d' hd hd' e => by
    have h1 := (hf d (by omega)).2
    have h2 := (hf d' (by omega)).2
    rw [e] at h1
    exact chn_one d d' (f d') h1 h2)
  omega
theorem pas_leR {en : Nat → Nat} {wy : Nat → Option Nat} (δ : Nat → Int) (hen : ∀ k a, k < 32 → wy k = some a → en a < 32) (hδ : ∀ x a, x < 32 → wy x = some a → δ (en a) ≤ δ x) : ∀ (n x k : Nat), x < 32 → pas en wy n x k → δ k ≤ δ x := by
  intro n
  induction n with
  | zero =>
    intro x k hx h
    have h : x = k := h
    rw [h]
    exact Int.le_refl _
  | succ n ih =>
    intro x k hx h
    rcases h with h | ⟨a, h1, h2⟩
    · rw [h]
      exact Int.le_refl _
    · have h3 := ih (en a) k (hen x a hx h1) h2
      have h4 := hδ x a hx h1
      omega
theorem chn_setR {en : Nat → Nat} {wy : Nat → Option Nat} {k a : Nat} (hall : ∀ x, x < 32 → ∃ n, chn en wy n x) (hen : ∀ k a, k < 32 → wy k = some a → en a < 32) (ha : en a < 32) (hno : ∀ n, ¬ pas en wy n (en a) k) : ∀ x, x < 32 → ∃ n, chn en (setO wy k a) n x := by
  have stay : ∀ (n x : Nat), chn en wy n x → ¬ pas en wy n x k → chn en (setO wy k a) n x := by
    intro n
    induction n with
    | zero =>
      intro x h1 h2
      show (if x = k then some a else wy x) = none
      rw [if_neg (show ¬ x = k from h2)]
      exact h1
    | succ n ih =>
      intro x h1 h2
      obtain ⟨b, h3, h4⟩ := h1
      refine ⟨b, ?_, ih (en b) h4 (fun z => h2 (Or.inr ⟨b, h3, z⟩))⟩
      show (if x = k then some a else wy x) = some b
      rw [if_neg (fun z => h2 (Or.inl z))]
      exact h3
  obtain ⟨nj, hj⟩ := hall (en a) ha
  have hk : chn en (setO wy k a) (nj + 1) k := by
    refine ⟨a, ?_, stay nj (en a) hj (hno nj)⟩
    show (if k = k then some a else wy k) = some a
    rw [if_pos rfl]
  have main : ∀ (n x : Nat), x < 32 → chn en wy n x → ∃ m, chn en (setO wy k a) m x := by
    intro n
    induction n with
    | zero =>
      intro x hx h
      by_cases e : x = k
      · rw [e]; exact ⟨_, hk⟩
      · refine ⟨0, ?_⟩
        show (if x = k then some a else wy x) = none
        rw [if_neg e]
        exact h
    | succ n ih =>
      intro x hx h
      by_cases e : x = k
      · rw [e]; exact ⟨_, hk⟩
      · obtain ⟨b, h3, h4⟩ := h
        obtain ⟨m, hm⟩ := ih (en b) (hen x b hx h3) h4
        refine ⟨m + 1, b, ?_, hm⟩
        show (if x = k then some a else wy x) = some b
        rw [if_neg e]
        exact h3
  intro x hx
  obtain ⟨n, h⟩ := hall x hx
  exact main n x hx h
def SupR (nA : Nat) (st en : Nat → Nat) (co : Nat → Int) (act : Nat → Prop) (base y : Nat → Int) : Prop := (∀ k, k < 32 → base k ≤ y k) ∧ ∀ a, a < nA → act a → y (en a) - co a ≤ y (st a)
/-- gains and ways stand together -/
def WIR (nA : Nat) (st en : Nat → Nat) (co : Nat → Int) (act : Nat → Prop) (base g : Nat → Int) (wy : Nat → Option Nat) : Prop := (∀ k, k < 32 → base k ≤ g k) ∧ (∀ k, k < 32 → wy k = none → g k = base k) ∧ (∀ k a, k < 32 → wy k = some a → a < nA ∧ act a ∧ st a = k ∧ g k ≤ g (en a) - co a) ∧ ∀ k, k < 32 → ∃ n, chn en wy n k
theorem WI_setR {nA : Nat} {st en : Nat → Nat} {co : Nat → Int} {act : Nat → Prop} {base g y : Nat → Int} {wy : Nat → Option Nat} (hst : ∀ a, a < nA → st a < 32 ∧ en a < 32) (hy : SupR nA st en co act base y) (h : WIR nA st en co act base g wy) {a : Nat} (ha : a < nA) (haa : act a) (hlt : g (st a) < g (en a) - co a) : WIR nA st en co act base (upZ g (st a) (g (en a) - co a)) (setO wy (st a) a) ∧ en a ≠ st a := by
  obtain ⟨h1, h2, h3, h4⟩ := h
  obtain ⟨q1, q2⟩ := hst a ha
  have hen : ∀ k b, k < 32 → wy k = some b → en b < 32 := fun k b hk hb => (hst b (h3 k b hk hb).1).2
  have hno : ∀ n, ¬ pas en wy n (en a) (st a) := by
    intro n hp
    have := pas_leR (fun k => y k - g k) hen (fun x b hx hb => by
      obtain ⟨b1, b2, b3, b4⟩ := h3 x b hx hb
      have := hy.2 b b1 b2
      rw [b3] at this
      show y (en b) - g (en b) ≤ y x - g x
      omega) n (en a) (st a) q2 hp
    have h5 := hy.2 a ha haa
    have this : y (st a) - g (st a) ≤ y (en a) - g (en a) := this
    omega
  have hne : en a ≠ st a := fun z => hno 0 z
  have up : ∀ k, g k ≤ upZ g (st a) (g (en a) - co a) k := by
    intro k
    unfold upZ
    split
    · rename_i e
      rw [e]; omega
    · exact Int.le_refl _
  refine ⟨⟨fun k hk => Int.le_trans (h1 k hk) (up k), fun k hk hn => ?_, fun k b hk hb => ?_, chn_setR h4 hen q2 hno⟩, hne⟩
  · by_cases e : k = st a
    · have : setO wy (st a) a k = some a := if_pos e
      rw [this] at hn
      exact absurd hn (by simp)
    · have e1 : setO wy (st a) a k = wy k := if_neg e
      have e2 : upZ g (st a) (g (en a) - co a) k = g k := if_neg e
      rw [e1] at hn
      rw [e2]
      exact h2 k hk hn
  · by_cases e : k = st a
    · have e1 : setO wy (st a) a k = some a := if_pos e
      rw [e1] at hb
      obtain rfl := Option.some.inj hb
      have e2 : upZ g (st a) (g (en a) - co a) k = g (en a) - co a := if_pos e
      have e3 : upZ g (st a) (g (en a) - co a) (en a) = g (en a) := if_neg hne
      exact ⟨ha, haa, e.symm, by rw [e2, e3]; exact Int.le_refl _⟩
    · have e1 : setO wy (st a) a k = wy k := if_neg e
      have e2 : upZ g (st a) (g (en a) - co a) k = g k := if_neg e
      rw [e1] at hb
      obtain ⟨b1, b2, b3, b4⟩ := h3 k b hk hb
      refine ⟨b1, b2, b3, ?_⟩
      rw [e2]
      have := up (en b)
      omega
theorem net_sumR {nP : Nat} {fr to : Nat → Nat} (x y : Nat → Int) (hft : ∀ i, i < nP → fr i < 32 ∧ to i < 32) : isum 32 (fun k => y k * net nP fr to x k) = isum nP (fun i => x i * (y (to i) - y (fr i))) := by
  have e1 : isum 32 (fun k => y k * net nP fr to x k) = isum 32 (fun k => isum nP (fun i => y k * (if to i = k then x i else 0) - y k * (if fr i = k then x i else 0))) := by
    apply isum_eq
    intro k hk
    unfold net
    rw [← isum_mul]
    apply isum_eq
    intro i hi
    rw [Int.mul_sub]
  rw [e1, isum_swap]
  apply isum_eq
  intro i hi
  rw [isum_sub, isum_pick y (x i) 32 (hft i hi).2, isum_pick y (x i) 32 (hft i hi).1, Int.mul_sub, Int.mul_comm (x i), Int.mul_comm (x i)]
/-- the reference's total, told by prices -/
theorem flowR {P : Nat} {fr to : Nat → Nat} {c x y : Nat → Int} {L : Int} (hft : ∀ i, i < P → fr i < 32 ∧ to i < 32) (hn : ∀ k, k < 30 → net P to fr x k = 0) (y0 : y 30 = 0) (yL : y 31 = L) : isum P (fun i => c i * x i) + L * net P to fr x 31 = isum P (fun i => x i * (c i + y (fr i) - y (to i))) := by
  have h := net_sumR (fr := to) (to := fr) x y (fun i hi => ⟨(hft i hi).2, (hft i hi).1⟩)
  have e : isum 32 (fun k => y k * net P to fr x k) = L * net P to fr x 31 := by
    show isum 30 (fun k => y k * net P to fr x k) + y 30 * net P to fr x 30 + y 31 * net P to fr x 31 = _
    have z : isum 30 (fun k => y k * net P to fr x k) = 0 := by
      rw [← isum_zero 30]
      apply isum_eq
      intro k hk
      rw [hn k hk, Int.mul_zero]
    rw [z, y0, yL, Int.zero_mul, Int.zero_add, Int.zero_add]
  rw [← e, h, ← isum_add]
  apply isum_eq
  intro i hi
  rw [Int.mul_sub, Int.mul_sub, Int.mul_add, Int.mul_comm (c i) (x i)]
  omega
theorem flowR_ge {P : Nat} {fr to : Nat → Nat} {c u x y : Nat → Int} (hx : ∀ i, i < P → 0 ≤ x i ∧ x i ≤ u i) : -isum P (fun i => u i * imx (y (to i) - y (fr i) - c i)) ≤ isum P (fun i => x i * (c i + y (fr i) - y (to i))) := by
  have h : isum P (fun i => 0 - u i * imx (y (to i) - y (fr i) - c i)) ≤ isum P (fun i => x i * (c i + y (fr i) - y (to i))) := by
    apply isum_le
    intro i hi
    obtain ⟨b1, b2⟩ := hx i hi
    obtain ⟨m1, m2⟩ := imx_ge (y (to i) - y (fr i) - c i)
    have e1 : x i * (y (to i) - y (fr i) - c i) ≤ x i * imx (y (to i) - y (fr i) - c i) := Int.mul_le_mul_of_nonneg_left m1 b1
    have e2 : x i * imx (y (to i) - y (fr i) - c i) ≤ u i * imx (y (to i) - y (fr i) - c i) := Int.mul_le_mul_of_nonneg_right b2 m2
    have e3 : x i * (c i + y (fr i) - y (to i)) = -(x i * (y (to i) - y (fr i) - c i)) := by
      rw [← Int.mul_neg]
      congr 1
      omega
    omega
  rw [isum_sub, isum_zero, Int.zero_sub] at h
  exact h
theorem flowR_eq {P : Nat} {fr to : Nat → Nat} {c u x y : Nat → Int} (hx : ∀ i, i < P → 0 ≤ x i ∧ x i ≤ u i) (c1 : ∀ i, i < P → x i < u i → y (to i) - y (fr i) - c i ≤ 0) (c2 : ∀ i, i < P → 0 < x i → 0 ≤ y (to i) - y (fr i) - c i) : -isum P (fun i => u i * imx (y (to i) - y (fr i) - c i)) = isum P (fun i => x i * (c i + y (fr i) - y (to i))) := by
  have h : isum P (fun i => 0 - u i * imx (y (to i) - y (fr i) - c i)) = isum P (fun i => x i * (c i + y (fr i) - y (to i))) := by
    apply isum_eq
    intro i hi
    obtain ⟨b1, b2⟩ := hx i hi
    have e3 : x i * (c i + y (fr i) - y (to i)) = -(x i * (y (to i) - y (fr i) - c i)) := by
      rw [← Int.mul_neg]
      congr 1
      omega
    have key : u i * imx (y (to i) - y (fr i) - c i) = x i * (y (to i) - y (fr i) - c i) := by
      by_cases q : x i < u i
      · have w := c1 i hi q
        rw [imx_neg w, Int.mul_zero]
        by_cases p : 0 < x i
        · have w2 := c2 i hi p
          have w3 : y (to i) - y (fr i) - c i = 0 := by omega
          rw [w3, Int.mul_zero]
        · have w3 : x i = 0 := by omega
          rw [w3, Int.zero_mul]
      · have e : x i = u i := by omega
        by_cases p : 0 < x i
        · rw [imx_pos (c2 i hi p), e]
        · have w3 : x i = 0 := by omega
          have w4 : u i = 0 := by omega
          rw [w3, w4, Int.zero_mul, Int.zero_mul]
    omega
  rw [isum_sub, isum_zero, Int.zero_sub] at h
  exact h
