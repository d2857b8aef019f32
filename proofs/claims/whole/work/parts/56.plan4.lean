theorem sweep_at {nA : Nat} {st en : Nat → Nat} {co : Nat → Int} {rm : Nat → Nat} {fs fe fc fr fg0 fw0 : Nat → Int32} {base g0 y : Nat → Int} {wy0 : Nat → Option Nat} (hA : RArcs nA st en co rm fs fe fc fr) (hy : Sup nA st en co (fun a => 0 < rm a) base y) (hy5 : ∀ k, k < 30 → y k ≤ 500) (hb0 : ∀ k, k < 30 → 0 ≤ base k) (hG : RGain g0 wy0 fg0 fw0) (hW : WI nA st en co (fun a => 0 < rm a) base g0 wy0) (hle : ∀ k, k < 30 → g0 k ≤ y k) (K : Int32 → (Nat → Int32) → (Nat → Int32) → Option ((Nat → Int32) × (Nat → Int32))) : ∃ chg g wy fg fw, (chg = 0 ∨ chg = 1) ∧ RGain g wy fg fw ∧ WI nA st en co (fun a => 0 < rm a) base g wy ∧ Rnd nA st en co (fun a => 0 < rm a) base g0 g ∧ (∀ k, k < 30 → g k ≤ y k) ∧ (chg = 0 → ∀ k, k < 30 → g k = g0 k) ∧ fX3_reckonGains_63 (nI nA) fs fe fc fr K FU 0 0 fg0 fw0 = K chg fg fw := by
  obtain ⟨h148, hA⟩ := hA
  have hst : ∀ a, a < nA → st a < 30 ∧ en a < 30 := fun a ha => ⟨(hA a ha).1.1, (hA a ha).1.2.1⟩
  have main := loopK (σ := Int32 × (Nat → Int32) × (Nat → Int32)) (fun n i s => fX3_reckonGains_63 (nI nA) fs fe fc fr K n s.1 i s.2.1 s.2.2) nA (fun i s => ∃ g wy, (s.1 = 0 ∨ s.1 = 1) ∧ RGain g wy s.2.1 s.2.2 ∧ WI nA st en co (fun a => 0 < rm a) base g wy ∧ (∀ k, k < 30 → g0 k ≤ g k) ∧ (∀ a, a < i → 0 < rm a → g0 (en a) - co a ≤ g (st a)) ∧ (∀ y, Sup nA st en co (fun a => 0 < rm a) base y → (∀ k, k < 30 → g0 k ≤ y k) → ∀ k, k < 30 → g k ≤ y k) ∧ (s.1 = 0 → ∀ k, k < 30 → g k = g0 k)) (fun s => K s.1 s.2.1 s.2.2) ?_ ?_ nA 0 FU (0, fg0, fw0) (by omega) ⟨g0, wy0, Or.inl rfl, hG, hW, fun k hk => Int.le_refl _, fun a ha => absurd ha (by omega), fun y _ h => h, fun _ k _ => rfl⟩ (by rw [FU_eq]; omega)
  · obtain ⟨s, ⟨g, wy, a1, a2, a3, a4, a5, a6, a7⟩, q2⟩ := main
    exact ⟨s.1, g, wy, s.2.1, s.2.2, a1, a2, a3, ⟨a4, a5, a6⟩, a6 y hy hle, a7, q2⟩
  · intro m s hs
    show fX3_reckonGains_63 _ _ _ _ _ _ (m + 1) s.1 (nI nA) s.2.1 s.2.2 = _
    rw [fX3_reckonGains_63, if_pos (nI_le (Nat.le_refl _) (by omega))]
  · intro m i s hi hs
    obtain ⟨g, wy, a1, a2, a3, a4, a5, a6, a7⟩ := hs
    obtain ⟨⟨b1, b2, b3, b4, b5⟩, f1, f2, f3, f4⟩ := hA i hi
    obtain ⟨⟨u1, u2⟩, u3, u4⟩ := a2 (st i) b1
    obtain ⟨⟨v1, v2⟩, v3, v4⟩ := a2 (en i) b2
    have body : fX3_reckonGains_63 (nI nA) fs fe fc fr K (m + 1) s.1 (nI i) s.2.1 s.2.2 = if rm i = 0 then fX3_reckonGains_63 (nI nA) fs fe fc fr K m s.1 (nI (i + 1)) s.2.1 s.2.2 else if g (en i) - co i ≤ g (st i) then fX3_reckonGains_63 (nI nA) fs fe fc fr K m s.1 (nI (i + 1)) s.2.1 s.2.2 else fX3_reckonGains_63 (nI nA) fs fe fc fr K m 1 (nI (i + 1)) (upd s.2.1 (st i) (zI (g (en i) - co i))) (upd s.2.2 (st i) (nI i)) := by
      rw [fX3_reckonGains_63, if_neg (nI_ge hi (by omega)), ixN (show i < 148 by omega) (by decide)]
      simp only [gdT, cl i (by omega), f1, f2, f3, f4, cl (st i) (by omega), cl (en i) (by omega), ixN (show st i < 30 from b1) (by decide), ixN (show en i < 30 from b2) (by decide), u3, v3, zI_sub, fX3_reckonGains_155, nI_1, zI_le (show -2147483648 ≤ g (en i) - co i by omega) (show g (en i) - co i < 2147483648 by omega) (show -2147483648 ≤ g (st i) by omega) (show g (st i) < 2147483648 by omega)]
      by_cases c : rm i = 0
      · rw [if_pos (show nI (rm i) ≤ 0 from nI_le (b := 0) (by omega) (by decide)), if_pos c]
      · rw [if_neg (show ¬ nI (rm i) ≤ 0 from nI_ge (a := 0) (by omega) (by omega)), if_neg c]
    by_cases c1 : rm i = 0
    · refine ⟨s, ?_, g, wy, a1, a2, a3, a4, fun a ha hr => ?_, a6, a7⟩
      · show fX3_reckonGains_63 (nI nA) fs fe fc fr K (m + 1) s.1 (nI i) s.2.1 s.2.2 = _
        rw [body, if_pos c1]
      · by_cases z : a = i
        · exfalso
          rw [z] at hr
          omega
        · exact a5 a (by omega) hr
    · by_cases c2 : g (en i) - co i ≤ g (st i)
      · refine ⟨s, ?_, g, wy, a1, a2, a3, a4, fun a ha hr => ?_, a6, a7⟩
        · show fX3_reckonGains_63 (nI nA) fs fe fc fr K (m + 1) s.1 (nI i) s.2.1 s.2.2 = _
          rw [body, if_neg c1, if_pos c2]
        · by_cases z : a = i
          · rw [z]
            have := a4 (en i) b2
            omega
          · exact a5 a (by omega) hr
      · have hlt : g (st i) < g (en i) - co i := by omega
        obtain ⟨w1, w2⟩ := WI_set hst hy a3 hi (show 0 < rm i by omega) hlt
        have gy : ∀ k, k < 30 → g k ≤ y k := a6 y hy hle
        have new : g (en i) - co i ≤ y (st i) := by
          have h1 := gy (en i) b2
          have h2 := hy.2 i hi (show 0 < rm i by omega)
          omega
        have y5 := hy5 (st i) b1
        have up : ∀ k, g k ≤ upZ g (st i) (g (en i) - co i) k := by
          intro k
          unfold upZ
          split
          · rename_i e
            rw [e]; omega
          · exact Int.le_refl _
        refine ⟨(1, upd s.2.1 (st i) (zI (g (en i) - co i)), upd s.2.2 (st i) (nI i)), ?_, upZ g (st i) (g (en i) - co i), setO wy (st i) i, Or.inr rfl, fun k hk => ?_, w1, fun k hk => Int.le_trans (a4 k hk) (up k), fun a ha hr => ?_, fun y' hy' hle' k hk => ?_, fun z => absurd z (by show ¬ (1 : Int32) = 0; decide)⟩
        · show fX3_reckonGains_63 (nI nA) fs fe fc fr K (m + 1) s.1 (nI i) s.2.1 s.2.2 = _
          rw [body, if_neg c1, if_neg c2]
        · show (0 ≤ upZ g (st i) (g (en i) - co i) k ∧ upZ g (st i) (g (en i) - co i) k ≤ 500) ∧ upd s.2.1 (st i) (zI (g (en i) - co i)) k = zI (upZ g (st i) (g (en i) - co i) k) ∧ upd s.2.2 (st i) (nI i) k = woI (setO wy (st i) i k)
          unfold upd upZ setO
          by_cases e : k = st i
          · rw [if_pos e, if_pos e, if_pos e, if_pos e]
            exact ⟨⟨by omega, by omega⟩, rfl, rfl⟩
          · rw [if_neg e, if_neg e, if_neg e, if_neg e]
            exact a2 k hk
        · by_cases z : a = i
          · rw [z]
            have : upZ g (st i) (g (en i) - co i) (st i) = g (en i) - co i := if_pos rfl
            rw [this]
            have := a4 (en i) b2
            omega
          · have h1 := a5 a (by omega) hr
            have h2 := up (st a)
            omega
        · unfold upZ
          by_cases e : k = st i
          · rw [if_pos e]
            have h1 := a6 y' hy' hle' (en i) b2
            have h2 := hy'.2 i hi (show 0 < rm i by omega)
            rw [e]
            omega
          · rw [if_neg e]
            exact a6 y' hy' hle' k hk
