def bsN (L : Nat) (um : Nat → Nat) : Nat → Int := fun k => if um k = 0 then 0 else (L : Int)
/-- the gains after a reckoning: the least super-solution, with ways that explain it -/
theorem reckon_at {nA L : Nat} {st en : Nat → Nat} {co : Nat → Int} {rm um : Nat → Nat} {fs fe fc fr fu fg0 fw0 : Nat → Int32} {y : Nat → Int} (hA : RArcs nA st en co rm fs fe fc fr) (hL : L ≤ 500) (hu : ∀ k, k < 30 → um k ≤ 1000 ∧ fu k = nI (um k)) (hy : Sup nA st en co (fun a => 0 < rm a) (bsN L um) y) (hy5 : ∀ k, k < 30 → y k ≤ 500) : ∃ g wy fg fw, fX3_reckonGains (nI nA) (nI L) fs fe fc fr fu fg0 fw0 = some (fg, fw) ∧ RGain g wy fg fw ∧ WI nA st en co (fun a => 0 < rm a) (bsN L um) g wy ∧ Sup nA st en co (fun a => 0 < rm a) (bsN L um) g ∧ ∀ y, Sup nA st en co (fun a => 0 < rm a) (bsN L um) y → ∀ k, k < 30 → g k ≤ y k := by
  have hb : ∀ k, 0 ≤ bsN L um k ∧ bsN L um k ≤ 500 := by
    intro k
    unfold bsN
    split <;> omega
  have first := loopK (σ := (Nat → Int32) × (Nat → Int32)) (fun n i s => fX3_reckonGains_2 (nI L) fu (fun a b => fX3_reckonGains_45 (nI nA) fs fe fc fr a b) n i s.1 s.2) 30 (fun i s => ∀ k, k < i → s.1 k = zI (bsN L um k) ∧ s.2 k = -3) (fun s => fX3_reckonGains_45 (nI nA) fs fe fc fr s.1 s.2) ?_ ?_ 30 0 FU (fg0, fw0) (by omega) (fun k hk => absurd hk (by omega)) (by rw [FU_eq]; omega)
  · obtain ⟨s, q1, q2⟩ := first
    obtain ⟨sp, s1, s2⟩ := least_sup _ y hy (Nat.le_refl _)
    have RG : RGain (bsN L um) (fun _ => none) s.1 s.2 := fun k hk => ⟨hb k, (q1 k hk).1, (q1 k hk).2⟩
    have W0 : WI nA st en co (fun a => 0 < rm a) (bsN L um) (bsN L um) (fun _ => none) := ⟨fun k _ => Int.le_refl _, fun k _ _ => rfl, fun k a _ h => absurd h (by simp), fun k _ => ⟨0, rfl⟩⟩
    obtain ⟨g, wy, fg, fw, r1, r2⟩ := rounds_at hA hy hy5 (fun k _ => (hb k).1) 31 0 FU 1 (bsN L um) (fun _ => none) s.1 s.2 sp (by omega) (by rw [FU_eq]; omega) (Or.inl rfl) RG W0 (fun y hy k hk => hy.1 k hk) s1 s2 (Or.inr (Nat.zero_le _))
    refine ⟨g, wy, fg, fw, ?_, r2⟩
    have q2 : fX3_reckonGains (nI nA) (nI L) fs fe fc fr fu fg0 fw0 = fX3_reckonGains_45 (nI nA) fs fe fc fr s.1 s.2 := q2
    rw [q2]
    exact r1
  · intro m s hs
    show fX3_reckonGains_2 _ _ _ (m + 1) (nI 30) s.1 s.2 = _
    rw [fX3_reckonGains_2, if_pos (by decide)]
  · intro m i s hi hs
    obtain ⟨u1, u2⟩ := hu i hi
    refine ⟨(upd s.1 i (zI (bsN L um i)), upd s.2 i (-3)), ?_, fun k hk => ?_⟩
    · show fX3_reckonGains_2 _ _ _ (m + 1) (nI i) s.1 s.2 = _
      rw [fX3_reckonGains_2, if_neg (show ¬ (30 : Int32) ≤ nI i from nI_ge (b := 30) hi (by omega))]
      simp only [fX3_reckonGains_30]
      rw [ixN hi (by decide)]
      simp only [gdT, cl i (by omega), u2, nI_1]
      unfold bsN
      by_cases c : um i = 0
      · rw [if_pos (show nI (um i) ≤ 0 from nI_le (b := 0) (by omega) (by decide)), if_pos c]
        rfl
      · rw [if_neg (show ¬ nI (um i) ≤ 0 from nI_ge (a := 0) (by omega) (by omega)), if_neg c, ← zI_nI]
    · show upd s.1 i (zI (bsN L um i)) k = zI (bsN L um k) ∧ upd s.2 i (-3) k = -3
      by_cases e : k = i
      · rw [e, upd_same, upd_same]
        exact ⟨rfl, rfl⟩
      · rw [upd_ne _ _ e, upd_ne _ _ e]
        exact hs k (by omega)
