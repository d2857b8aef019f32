/-! THE PLAN: the reference's cheapest way -/
def bsR : Nat → Int := fun k => if k = 30 then 1000000 else 0
def gR (f : Nat → Int) : Nat → Int := fun k => 1000000 - f k
def cntF (f : Nat → Int) : Nat := sumF 32 (fun k => if f k < 1000000 then 1 else 0)
def meaF (f : Nat → Int) : Nat := sumF 32 (fun k => if f k < 1000000 then (f k).toNat else 4000)
def RArcsR (nA : Nat) (st en : Nat → Nat) (co : Nat → Int) (rm : Nat → Nat) (ff ft fm fc : Nat → Int32) : Prop := nA ≤ 300 ∧ ∀ a, a < nA → (st a < 32 ∧ en a < 32 ∧ -99 ≤ co a ∧ co a ≤ 99 ∧ rm a ≤ 2000) ∧ ft a = nI (st a) ∧ ff a = nI (en a) ∧ fc a = zI (co a) ∧ fm a = nI (rm a)
def RFar (f : Nat → Int) (wy : Nat → Option Nat) (fa fb : Nat → Int32) : Prop := ∀ k, k < 32 → (0 ≤ f k ∧ f k ≤ 1000000) ∧ fa k = zI (f k) ∧ ∀ a, wy k = some a → fb k = nI a
def FI (nA : Nat) (st en : Nat → Nat) (co : Nat → Int) (rm : Nat → Nat) (p f : Nat → Int) (wy : Nat → Option Nat) : Prop := WIR nA st en co (fun a => 0 < rm a) bsR (gR f) wy ∧ wy 30 = none ∧ (∀ k a, k < 32 → wy k = some a → f (en a) < 1000000) ∧ (∀ k, k < 32 → p k ≤ f k) ∧ ∀ k, k < 32 → f k < 1000000 → f k ≤ 99 * (cntF f : Int)
/-- p is a price list: none below nought, nought at the source, and no arc with room undercuts it -/
def Pot (nA : Nat) (st en : Nat → Nat) (co : Nat → Int) (rm : Nat → Nat) (p : Nat → Int) : Prop := (∀ k, k < 32 → 0 ≤ p k ∧ p k ≤ 1000000) ∧ p 30 = 0 ∧ ∀ a, a < nA → 0 < rm a → p (st a) ≤ p (en a) + co a
theorem cnt_le (f : Nat → Int) : cntF f ≤ 32 := sum_max _ 32 (fun i hi => by
  show (if f i < 1000000 then 1 else 0) ≤ 1
  split <;> omega)
theorem gR_up (f : Nat → Int) (k e : Nat) (c : Int) : gR (upZ f k (f e + c)) = upZ (gR f) k (gR f e - c) := by
  funext j
  unfold gR upZ
  split
  · omega
  · rfl
theorem relax_at {nA a : Nat} {st en : Nat → Nat} {co : Nat → Int} {rm : Nat → Nat} {p f : Nat → Int} {wy : Nat → Option Nat} (hst : ∀ a, a < nA → st a < 32 ∧ en a < 32 ∧ -99 ≤ co a ∧ co a ≤ 99) (hp : Pot nA st en co rm p) (h : FI nA st en co rm p f wy) (hf : ∀ k, k < 32 → 0 ≤ f k ∧ f k ≤ 1000000) (ha : a < nA) (haa : 0 < rm a) (hre : f (en a) < 1000000) (hlt : f (en a) + co a < f (st a)) : FI nA st en co rm p (upZ f (st a) (f (en a) + co a)) (setO wy (st a) a) ∧ meaF (upZ f (st a) (f (en a) + co a)) < meaF f ∧ ∀ k, k < 32 → 0 ≤ upZ f (st a) (f (en a) + co a) k ∧ upZ f (st a) (f (en a) + co a) k ≤ 1000000 := by
  obtain ⟨h1, h2, h3, h4, h5⟩ := h
  obtain ⟨p1, p2, p3⟩ := hp
  obtain ⟨s1, s2, s3, s4⟩ := hst a ha
  have hy : SupR nA st en co (fun a => 0 < rm a) bsR (gR p) := by
    refine ⟨fun k hk => ?_, fun a ha haa => ?_⟩
    · unfold bsR gR
      have := p1 k hk
      split
      · rename_i e
        rw [e]
        omega
      · omega
    · have := p3 a ha haa
      unfold gR
      omega
  obtain ⟨w1, w2⟩ := WI_setR (fun a ha => ⟨(hst a ha).1, (hst a ha).2.1⟩) hy h1 ha haa (show gR f (st a) < gR f (en a) - co a by unfold gR; omega)
  rw [← gR_up] at w1
  have v1 := p3 a ha haa
  have v2 := h4 (en a) s2
  have v3 := (p1 (st a) s1).1
  have v4 := (hf (st a) s1).2
  have v0 : 0 ≤ f (en a) + co a := by omega
  have ne30 : st a ≠ 30 := by
    intro e
    have := h1.1 30 (by decide)
    unfold bsR gR at this
    rw [if_pos rfl] at this
    rw [e] at hlt
    omega
  have at_ : upZ f (st a) (f (en a) + co a) (st a) = f (en a) + co a := if_pos rfl
  have ne_ : ∀ k, k ≠ st a → upZ f (st a) (f (en a) + co a) k = f k := fun k hk => if_neg hk
  have le_ : ∀ k, upZ f (st a) (f (en a) + co a) k ≤ f k := by
    intro k
    by_cases e : k = st a
    · rw [e, at_]
      omega
    · rw [ne_ k e]
      exact Int.le_refl _
  have cle : ∀ k, (if f k < 1000000 then 1 else 0) ≤ (if upZ f (st a) (f (en a) + co a) k < 1000000 then 1 else 0) := by
    intro k
    have := le_ k
    by_cases e : f k < 1000000
    · rw [if_pos e, if_pos (by omega)]
      exact Nat.le_refl _
    · rw [if_neg e]
      exact Nat.zero_le _
  have c1 : cntF f ≤ cntF (upZ f (st a) (f (en a) + co a)) := sum_le _ _ 32 (fun i hi => cle i)
  have c2 : ¬ f (st a) < 1000000 → cntF f < cntF (upZ f (st a) (f (en a) + co a)) := by
    intro e
    refine sum_lt' _ _ (st a) 32 s1 (fun i hi => cle i) ?_
    show (if f (st a) < 1000000 then 1 else 0) < (if upZ f (st a) (f (en a) + co a) (st a) < 1000000 then 1 else 0)
    rw [if_neg e, at_, if_pos (by omega)]
    decide
  have c3 := cnt_le (upZ f (st a) (f (en a) + co a))
  have c4 := h5 (en a) s2 hre
  have new : f (en a) + co a ≤ 99 * (cntF (upZ f (st a) (f (en a) + co a)) : Int) := by
    by_cases e : f (st a) < 1000000
    · have := h5 (st a) s1 e
      omega
    · have := c2 e
      omega
  have c5 := h5 (st a) s1
  refine ⟨⟨w1, ?_, fun k b hk hb => ?_, fun k hk => ?_, fun k hk hlt => ?_⟩, ?_, fun k hk => ?_⟩
  · unfold setO
    rw [if_neg (fun z => ne30 z.symm)]
    exact h2
  · unfold setO at hb
    by_cases e : k = st a
    · rw [if_pos e] at hb
      obtain rfl := Option.some.inj hb
      rw [ne_ _ w2]
      exact hre
    · rw [if_neg e] at hb
      have := h3 k b hk hb
      have := le_ (en b)
      omega
  · by_cases e : k = st a
    · rw [e, at_]
      omega
    · rw [ne_ k e]
      exact h4 k hk
  · by_cases e : k = st a
    · rw [e, at_]
      exact new
    · rw [ne_ k e] at hlt ⊢
      have := h5 k hk hlt
      omega
  · refine sum_lt' _ _ (st a) 32 s1 (fun i hi => ?_) ?_
    · show (if upZ f (st a) (f (en a) + co a) i < 1000000 then (upZ f (st a) (f (en a) + co a) i).toNat else 4000) ≤ (if f i < 1000000 then (f i).toNat else 4000)
      by_cases e : i = st a
      · rw [e, at_, if_pos (by omega)]
        split <;> omega
      · rw [ne_ i e]
        exact Nat.le_refl _
    · show (if upZ f (st a) (f (en a) + co a) (st a) < 1000000 then (upZ f (st a) (f (en a) + co a) (st a)).toNat else 4000) < (if f (st a) < 1000000 then (f (st a)).toNat else 4000)
      rw [at_, if_pos (by omega)]
      split <;> omega
  · by_cases e : k = st a
    · rw [e, at_]
      omega
    · rw [ne_ k e]
      exact hf k hk
/-- one sweep of the reference -/
theorem sweepR_at {nA : Nat} {st en : Nat → Nat} {co : Nat → Int} {rm : Nat → Nat} {p f0 : Nat → Int} {wy0 : Nat → Option Nat} {ff ft fm fc fa0 fb0 : Nat → Int32} (hA : RArcsR nA st en co rm ff ft fm fc) (hp : Pot nA st en co rm p) (hF : RFar f0 wy0 fa0 fb0) (hI : FI nA st en co rm p f0 wy0) (K : Int32 → (Nat → Int32) → (Nat → Int32) → Option (Int32 × (Nat → Int32) × (Nat → Int32))) : ∃ chg f wy fa fb, RFar f wy fa fb ∧ FI nA st en co rm p f wy ∧ ((chg = 0 ∧ ∀ a, a < nA → 0 < rm a → f (en a) < 1000000 → f (st a) ≤ f (en a) + co a) ∨ (chg = 1 ∧ meaF f < meaF f0)) ∧ fX7_cheapest_42 (nI nA) ff ft fm fc K FU 0 0 fa0 fb0 = K chg fa fb := by
  obtain ⟨h300, hA⟩ := hA
  have hst : ∀ a, a < nA → st a < 32 ∧ en a < 32 ∧ -99 ≤ co a ∧ co a ≤ 99 := fun a ha => ⟨(hA a ha).1.1, (hA a ha).1.2.1, (hA a ha).1.2.2.1, (hA a ha).1.2.2.2.1⟩
  have main := loopK (σ := Int32 × (Nat → Int32) × (Nat → Int32)) (fun n i s => fX7_cheapest_42 (nI nA) ff ft fm fc K n s.1 i s.2.1 s.2.2) nA (fun i s => ∃ f wy, RFar f wy s.2.1 s.2.2 ∧ FI nA st en co rm p f wy ∧ ((s.1 = 0 ∧ meaF f ≤ meaF f0 ∧ ∀ a, a < i → 0 < rm a → f (en a) < 1000000 → f (st a) ≤ f (en a) + co a) ∨ (s.1 = 1 ∧ meaF f < meaF f0))) (fun s => K s.1 s.2.1 s.2.2) ?_ ?_ nA 0 FU (0, fa0, fb0) (by omega) ⟨f0, wy0, hF, hI, Or.inl ⟨rfl, Nat.le_refl _, fun a ha => absurd ha (by omega)⟩⟩ (by rw [FU_eq]; omega)
  · obtain ⟨s, ⟨f, wy, a1, a2, a3⟩, q2⟩ := main
    refine ⟨s.1, f, wy, s.2.1, s.2.2, a1, a2, ?_, q2⟩
    rcases a3 with ⟨z1, -, z2⟩ | z
    · exact Or.inl ⟨z1, z2⟩
    · exact Or.inr z
  · intro m s hs
    show fX7_cheapest_42 _ _ _ _ _ _ (m + 1) s.1 (nI nA) s.2.1 s.2.2 = _
    rw [fX7_cheapest_42, if_pos (nI_le (Nat.le_refl _) (by omega))]
  · intro m i s hi hs
    obtain ⟨f, wy, a1, a2, a3⟩ := hs
    obtain ⟨⟨b1, b2, b3, b4, b5⟩, f1, f2, f3, f4⟩ := hA i hi
    obtain ⟨⟨u1, u2⟩, u3, u4⟩ := a1 (st i) b1
    obtain ⟨⟨v1, v2⟩, v3, v4⟩ := a1 (en i) b2
    have body : fX7_cheapest_42 (nI nA) ff ft fm fc K (m + 1) s.1 (nI i) s.2.1 s.2.2 = if rm i = 0 then fX7_cheapest_42 (nI nA) ff ft fm fc K m s.1 (nI (i + 1)) s.2.1 s.2.2 else if 1000000 ≤ f (en i) then fX7_cheapest_42 (nI nA) ff ft fm fc K m s.1 (nI (i + 1)) s.2.1 s.2.2 else if f (st i) ≤ f (en i) + co i then fX7_cheapest_42 (nI nA) ff ft fm fc K m s.1 (nI (i + 1)) s.2.1 s.2.2 else fX7_cheapest_42 (nI nA) ff ft fm fc K m 1 (nI (i + 1)) (upd s.2.1 (st i) (zI (f (en i) + co i))) (upd s.2.2 (st i) (nI i)) := by
      rw [fX7_cheapest_42, if_neg (nI_ge hi (by omega)), ixN (show i < 300 by omega) (by decide)]
      simp only [gdT, cl i (show i < 2 ^ 31 by omega), f1, f2, f3, f4, cl (st i) (show st i < 2 ^ 31 by omega), cl (en i) (show en i < 2 ^ 31 by omega), ixN (show st i < 32 from b1) (show 32 < 2 ^ 31 by decide), ixN (show en i < 32 from b2) (show 32 < 2 ^ 31 by decide), u3, v3, zI_add, fX7_cheapest_135, nI_1, zI_le (show -2147483648 ≤ f (st i) by omega) (show f (st i) < 2147483648 by omega) (show -2147483648 ≤ f (en i) + co i by omega) (show f (en i) + co i < 2147483648 by omega)]
      by_cases c : rm i = 0
      · rw [if_pos (show nI (rm i) ≤ 0 from nI_le (b := 0) (by omega) (by decide)), if_pos c]
      · rw [if_neg (show ¬ nI (rm i) ≤ 0 from nI_ge (a := 0) (by omega) (by omega)), if_neg c]
        by_cases z : 1000000 ≤ f (en i)
        · rw [if_pos z, if_pos (show (1000000 : Int32) ≤ zI (f (en i)) from (zI_le (a := 1000000) (by omega) (by omega) (by omega) (by omega)).mpr z)]
        · rw [if_neg z, if_neg (show ¬ (1000000 : Int32) ≤ zI (f (en i)) from fun w => z ((zI_le (a := 1000000) (by omega) (by omega) (by omega) (by omega)).mp w))]
    have stay : (rm i = 0 ∨ 1000000 ≤ f (en i) ∨ f (st i) ≤ f (en i) + co i) → ∃ s' : Int32 × (Nat → Int32) × (Nat → Int32), fX7_cheapest_42 (nI nA) ff ft fm fc K m s.1 (nI (i + 1)) s.2.1 s.2.2 = fX7_cheapest_42 (nI nA) ff ft fm fc K m s'.1 (nI (i + 1)) s'.2.1 s'.2.2 ∧ ∃ f wy, RFar f wy s'.2.1 s'.2.2 ∧ FI nA st en co rm p f wy ∧ ((s'.1 = 0 ∧ meaF f ≤ meaF f0 ∧ ∀ a, a < i + 1 → 0 < rm a → f (en a) < 1000000 → f (st a) ≤ f (en a) + co a) ∨ (s'.1 = 1 ∧ meaF f < meaF f0)) := by
      intro hcase
      refine ⟨s, rfl, f, wy, a1, a2, ?_⟩
      rcases a3 with ⟨z1, z2, z3⟩ | z
      · left
        refine ⟨z1, z2, fun a ha hr hl => ?_⟩
        by_cases e : a = i
        · rw [e] at hr hl ⊢
          omega
        · exact z3 a (by omega) hr hl
      · exact Or.inr z
    by_cases c1 : rm i = 0
    · obtain ⟨s', q1, q2⟩ := stay (Or.inl c1)
      refine ⟨s', ?_, q2⟩
      show fX7_cheapest_42 (nI nA) ff ft fm fc K (m + 1) s.1 (nI i) s.2.1 s.2.2 = _
      rw [body, if_pos c1]
      exact q1
    · by_cases c2 : 1000000 ≤ f (en i)
      · obtain ⟨s', q1, q2⟩ := stay (Or.inr (Or.inl c2))
        refine ⟨s', ?_, q2⟩
        show fX7_cheapest_42 (nI nA) ff ft fm fc K (m + 1) s.1 (nI i) s.2.1 s.2.2 = _
        rw [body, if_neg c1, if_pos c2]
        exact q1
      · by_cases c3 : f (st i) ≤ f (en i) + co i
        · obtain ⟨s', q1, q2⟩ := stay (Or.inr (Or.inr c3))
          refine ⟨s', ?_, q2⟩
          show fX7_cheapest_42 (nI nA) ff ft fm fc K (m + 1) s.1 (nI i) s.2.1 s.2.2 = _
          rw [body, if_neg c1, if_neg c2, if_pos c3]
          exact q1
        · obtain ⟨r1, r2, r3⟩ := relax_at hst hp a2 (fun k hk => (a1 k hk).1) hi (by omega) (by omega) (by omega)
          refine ⟨(1, upd s.2.1 (st i) (zI (f (en i) + co i)), upd s.2.2 (st i) (nI i)), ?_, upZ f (st i) (f (en i) + co i), setO wy (st i) i, fun k hk => ⟨r3 k hk, ?_, fun a ha => ?_⟩, r1, Or.inr ⟨rfl, ?_⟩⟩
          · show fX7_cheapest_42 (nI nA) ff ft fm fc K (m + 1) s.1 (nI i) s.2.1 s.2.2 = _
            rw [body, if_neg c1, if_neg c2, if_neg c3]
          · show upd s.2.1 (st i) (zI (f (en i) + co i)) k = zI (upZ f (st i) (f (en i) + co i) k)
            unfold upd upZ
            split
            · rfl
            · exact (a1 k hk).2.1
          · show upd s.2.2 (st i) (nI i) k = nI a
            unfold upd
            unfold setO at ha
            by_cases e : k = st i
            · rw [if_pos e] at ha ⊢
              rw [Option.some.inj ha]
            · rw [if_neg e] at ha ⊢
              exact (a1 k hk).2.2 a ha
          · rcases a3 with ⟨-, z2, -⟩ | ⟨-, z2⟩ <;> omega
/-- the reference's sweeps come to rest -/
theorem sweepsR_at {nA : Nat} {st en : Nat → Nat} {co : Nat → Int} {rm : Nat → Nat} {p : Nat → Int} {ff ft fm fc : Nat → Int32} (hA : RArcsR nA st en co rm ff ft fm fc) (hp : Pot nA st en co rm p) (K : (Nat → Int32) → (Nat → Int32) → Option (Int32 × (Nat → Int32) × (Nat → Int32))) : ∀ (T n : Nat) (f : Nat → Int) (wy : Nat → Option Nat) (fa fb : Nat → Int32), meaF f ≤ T → T + 1 < n → RFar f wy fa fb → FI nA st en co rm p f wy → ∃ f' wy' fa' fb', fX7_cheapest_34 (nI nA) ff ft fm fc K n 1 fa fb = K fa' fb' ∧ RFar f' wy' fa' fb' ∧ FI nA st en co rm p f' wy' ∧ ∀ a, a < nA → 0 < rm a → f' (en a) < 1000000 → f' (st a) ≤ f' (en a) + co a := by
  intro T
  induction T with
  | zero =>
    intro n f wy fa fb hT hn hF hI
    obtain ⟨n, rfl⟩ : ∃ x, n = x + 1 + 1 := ⟨n - 2, by omega⟩
    obtain ⟨chg, f', wy', fa', fb', q1, q2, q3, q4⟩ := sweepR_at hA hp hF hI (fun v1 a b => fX7_cheapest_141 (fun v1 a b => fX7_cheapest_34 (nI nA) ff ft fm fc K (n + 1) v1 a b) v1 a b)
    rcases q3 with ⟨rfl, q3⟩ | ⟨-, q3⟩
    · refine ⟨f', wy', fa', fb', ?_, q1, q2, q3⟩
      rw [fX7_cheapest_34, if_neg (by decide), q4]
      simp only [fX7_cheapest_141]
      rw [fX7_cheapest_34, if_pos rfl]
    · omega
  | succ T ih =>
    intro n f wy fa fb hT hn hF hI
    obtain ⟨n, rfl⟩ : ∃ x, n = x + 1 + 1 := ⟨n - 2, by omega⟩
    obtain ⟨chg, f', wy', fa', fb', q1, q2, q3, q4⟩ := sweepR_at hA hp hF hI (fun v1 a b => fX7_cheapest_141 (fun v1 a b => fX7_cheapest_34 (nI nA) ff ft fm fc K (n + 1) v1 a b) v1 a b)
    rcases q3 with ⟨rfl, q3⟩ | ⟨rfl, q3⟩
    · refine ⟨f', wy', fa', fb', ?_, q1, q2, q3⟩
      rw [fX7_cheapest_34, if_neg (by decide), q4]
      simp only [fX7_cheapest_141]
      rw [fX7_cheapest_34, if_pos rfl]
    · have nx := ih (n + 1) f' wy' fa' fb' (by omega) (by omega) q1 q2
      rw [fX7_cheapest_34, if_neg (by decide), q4]
      simp only [fX7_cheapest_141]
      exact nx
def f0R : Nat → Int := fun k => if k = 30 then 0 else 1000000
theorem cheapest_at {nA : Nat} {st en : Nat → Nat} {co : Nat → Int} {rm : Nat → Nat} {p : Nat → Int} {ff ft fm fc fa0 fb0 : Nat → Int32} (hA : RArcsR nA st en co rm ff ft fm fc) (hp : Pot nA st en co rm p) : ∃ f wy fa fb, fX7_cheapest (nI nA) ff ft fm fc fa0 fb0 = some (zI (f 31), fa, fb) ∧ RFar f wy fa fb ∧ FI nA st en co rm p f wy ∧ ∀ a, a < nA → 0 < rm a → f (en a) < 1000000 → f (st a) ≤ f (en a) + co a := by
  have first := loopK (σ := Nat → Int32) (fun n i s => fX7_cheapest_2 (fun s => fX7_cheapest_32 (nI nA) ff ft fm fc s fb0) n i s) 32 (fun i s => ∀ k, k < i → s k = zI (f0R k)) (fun s => fX7_cheapest_32 (nI nA) ff ft fm fc s fb0) ?_ ?_ 32 0 FU fa0 (by omega) (fun k hk => absurd hk (by omega)) (by rw [FU_eq]; omega)
  · obtain ⟨s, q1, q2⟩ := first
    have b0 : ∀ k, k < 32 → 0 ≤ f0R k ∧ f0R k ≤ 1000000 := by
      intro k hk
      unfold f0R
      split <;> omega
    have F0 : RFar f0R (fun _ => none) s fb0 := fun k hk => ⟨b0 k hk, q1 k hk, fun a ha => absurd ha (by simp)⟩
    have I0 : FI nA st en co rm p f0R (fun _ => none) := by
      have e : ∀ k, gR f0R k = bsR k := by
        intro k
        unfold gR f0R bsR
        split <;> omega
      refine ⟨⟨fun k hk => by rw [e]; exact Int.le_refl _, fun k hk _ => e k, fun k a hk ha => absurd ha (by simp), fun k hk => ⟨0, rfl⟩⟩, rfl, fun k a hk ha => absurd ha (by simp), fun k hk => ?_, fun k hk hl => ?_⟩
      · have h1 := hp.1 k hk
        have h2 := hp.2.1
        unfold f0R
        split
        · rename_i z
          rw [z]
          omega
        · omega
      · unfold f0R at hl ⊢
        split
        · omega
        · rename_i z
          rw [if_neg z] at hl
          omega
    have m0 : meaF f0R ≤ 128000 := by
      have := sum_le (fun k => if f0R k < 1000000 then (f0R k).toNat else 4000) (fun _ => 4000) 32 (fun i hi => by
        show (if f0R i < 1000000 then (f0R i).toNat else 4000) ≤ 4000
        unfold f0R
        by_cases z : i = 30
        · rw [if_pos z]
          decide
        · rw [if_neg z]
          decide)
      have e : sumF 32 (fun _ => 4000) = 128000 := rfl
      unfold meaF
      omega
    obtain ⟨f, wy, fa, fb, r1, r2⟩ := sweepsR_at hA hp (fun a b => fX7_cheapest_144 a b) 128000 FU f0R (fun _ => none) s fb0 m0 (by rw [FU_eq]; omega) F0 I0
    refine ⟨f, wy, fa, fb, ?_, r2⟩
    have q2 : fX7_cheapest (nI nA) ff ft fm fc fa0 fb0 = fX7_cheapest_32 (nI nA) ff ft fm fc s fb0 := q2
    rw [q2, fX7_cheapest_32, r1, fX7_cheapest_144, show ix (31 : Int32) 32 = true from rfl, gdT, show (31 : Int32).toNatClampNeg = 31 from rfl, (r2.1 31 (by decide)).2.1]
  · intro m s hs
    show fX7_cheapest_2 _ (m + 1) (nI 32) s = _
    rw [fX7_cheapest_2, if_pos (by decide)]
  · intro m i s hi hs
    refine ⟨upd s i (zI (f0R i)), ?_, fun k hk => ?_⟩
    · show fX7_cheapest_2 _ (m + 1) (nI i) s = _
      rw [fX7_cheapest_2, if_neg (show ¬ (32 : Int32) ≤ nI i from nI_ge (b := 32) hi (by omega))]
      simp only [fX7_cheapest_25]
      rw [ixN hi (by decide)]
      simp only [gdT, cl i (show i < 2 ^ 31 by omega), nI_1]
      unfold f0R
      by_cases z : i = 30
      · rw [if_pos (show nI i = 30 by rw [z]; rfl), if_pos z]
        rfl
      · rw [if_neg (show ¬ nI i = 30 from nI_neq (b := 30) z (by omega) (by decide)), if_neg z]
        rfl
    · unfold upd
      by_cases e : k = i
      · rw [if_pos e, e]
      · rw [if_neg e]
        exact hs k (by omega)
