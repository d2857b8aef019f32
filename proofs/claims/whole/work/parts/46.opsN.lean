theorem gap_at {a b : Nat} (ha : a ≤ 200) (hb : b ≤ 200) : ∃ g : Nat, g ≤ 200 ∧ iabs (nI a - nI b) = nI g ∧ (if (0 : Int32) ≤ nI a - nI b then some (nI a - nI b) else some (-(nI a - nI b))) = some (nI g) := by
  have e : nI a - nI b = zI ((a : Int) - b) := by rw [zI_nI, zI_nI, zI_sub]
  have z0 : (0 : Int32) = zI 0 := rfl
  by_cases c : b ≤ a
  · have q : (0 : Int32) ≤ nI a - nI b := by
      rw [e, z0, zI_le (by omega) (by omega) (by omega) (by omega)]
      omega
    refine ⟨a - b, by omega, ?_, ?_⟩
    · unfold iabs
      rw [if_pos q, pk_sub c]
    · rw [if_pos q, pk_sub c]
  · have q : ¬ (0 : Int32) ≤ nI a - nI b := by
      rw [e, z0, zI_le (by omega) (by omega) (by omega) (by omega)]
      omega
    have e2 : (0 : Int32) - (nI a - nI b) = nI (b - a) := by
      rw [e, z0, zI_sub, zI_nI]
      congr 1
      omega
    refine ⟨b - a, by omega, ?_, ?_⟩
    · unfold iabs
      rw [if_neg q, e2]
    · rw [if_neg q, ← Int32.zero_sub, e2]
/-- what the class asks of a pair -/
def RPair (nO nA : Nat) (sc gp : Nat → Nat → Nat) (E9 : Int32) (rf : Nat → Int32) (E10 : Int32) (f4 : Nat → Int32) (E11 : Int32) (wf : Nat → Int32) (E12 : Int32) (lf : Nat → Int32) : Prop := ∀ o w, o < nO → w < nA → (sc o w = 0 ∧ fX6_isSuited (nI o) (nI w) E9 rf E10 f4 E11 wf E12 lf = some 0) ∨ (sc o w = 10000 - gp o w ∧ gp o w ≤ 200 ∧ fX6_isSuited (nI o) (nI w) E9 rf E10 f4 E11 wf E12 lf = some 1 ∧ fX6_gapBetween (nI o) (nI w) E10 f4 E11 wf = some (nI (gp o w)))
theorem begin_at {nO nA : Nat} (h7 : nO ≤ 7) (h7' : nA ≤ 7) (x y : Int32) (s : Nat → Int32) : ∃ s', (∀ j, j < 49 → s' j = -3) ∧ fX2_begin (nI nO) (nI nA) x y s = some (nI nO, nI nA, s') := by
  have e : ∀ n, n ≤ 7 → imax 0 (imin (nI n) 7) = nI n := by
    intro n hn
    rcases (show n = 0 ∨ n = 1 ∨ n = 2 ∨ n = 3 ∨ n = 4 ∨ n = 5 ∨ n = 6 ∨ n = 7 by omega) with rfl | rfl | rfl | rfl | rfl | rfl | rfl | rfl <;> decide
  rw [fX2_begin, e nO h7, e nA h7']
  have main := loopK (σ := Nat → Int32) (fun n i s => fX2_begin_30 (nI nO) (nI nA) n i s) 49 (fun i s => ∀ j, j < i → s j = -3) (fun s => some (nI nO, nI nA, s)) ?_ ?_ 49 0 FU s (by omega) (fun j hj => absurd hj (by omega)) (by rw [FU_eq]; omega)
  · exact main
  · intro m s hs
    show fX2_begin_30 _ _ (m + 1) (nI 49) s = _
    rw [fX2_begin_30, if_pos (by decide)]
  · intro m i s hi hs
    refine ⟨upd s i (-3), ?_, ?_⟩
    · show fX2_begin_30 _ _ (m + 1) (nI i) s = _
      rw [fX2_begin_30, if_neg (nI_ge hi (by omega)), ixN hi (by decide), gdT, cl _ (by omega), nI_1]
    · intro j hj
      by_cases c : j = i
      · rw [c, upd_same]
      · rw [upd_ne _ _ c]; exact hs j (by omega)
theorem scores_at {nO nA : Nat} {sc gp : Nat → Nat → Nat} {E9 E10 E11 E12 : Int32} {rf f4 wf lf : Nat → Int32} (hC : RPair nO nA sc gp E9 rf E10 f4 E11 wf E12 lf) (h7 : nO ≤ 7) (h7' : nA ≤ 7) (e10 : E10 = nI nO) (e11 : E11 = nI nA) (K : (Nat → Int32) → Option (Int32 × Int32 × Int32 × Int32 × (Nat → Int32) × (Nat → Int32) × (Nat → Int32))) (s : Nat → Int32) (hs : ∀ j, j < 49 → s j = -3) : ∃ s', RSc nO nA sc s' ∧ fX6_makeMatch_29 E9 rf E10 f4 E11 wf E12 lf (nI nO) (nI nA) K FU 0 s = K s' := by
  subst e10 e11
  have main := loopK (σ := Nat → Int32) (fun n i s => fX6_makeMatch_29 E9 rf (nI nO) f4 (nI nA) wf E12 lf (nI nO) (nI nA) K n i s) nO (fun i s => ∀ o w, o < nO → w < nA → (o < i → ((sc o w = 0 ∧ s (7 * o + w) = -3) ∨ (0 < sc o w ∧ s (7 * o + w) = nI (sc o w)))) ∧ (i ≤ o → s (7 * o + w) = -3)) K ?_ ?_ nO 0 FU s (by omega) (fun o w ho hw => ⟨fun z => absurd z (by omega), fun _ => hs _ (by omega)⟩) (by rw [FU_eq]; omega)
  · obtain ⟨s', q1, q2⟩ := main
    exact ⟨s', fun o w ho hw => (q1 o w ho hw).1 ho, q2⟩
  · intro m s hs
    show fX6_makeMatch_29 _ _ _ _ _ _ _ _ _ _ _ (m + 1) (nI nO) s = _
    rw [fX6_makeMatch_29, sz_at, bn1S, if_pos (nI_le (Nat.le_refl _) (by omega))]
  · intro m i s hi hs
    have inner := loopK (σ := Nat → Int32) (fun n w s => fX6_makeMatch_45 (nI i) E9 rf (nI nO) f4 (nI nA) wf E12 lf (nI nO) (nI nA) (fun s => fX6_makeMatch_89 (fun v1 s => fX6_makeMatch_29 E9 rf (nI nO) f4 (nI nA) wf E12 lf (nI nO) (nI nA) K m v1 s) (nI i) s) n w s) nA (fun w s => ∀ o' w', o' < nO → w' < nA → ((o' < i ∨ (o' = i ∧ w' < w)) → ((sc o' w' = 0 ∧ s (7 * o' + w') = -3) ∨ (0 < sc o' w' ∧ s (7 * o' + w') = nI (sc o' w')))) ∧ ((i < o' ∨ (o' = i ∧ w ≤ w')) → s (7 * o' + w') = -3)) (fun s => fX6_makeMatch_89 (fun v1 s => fX6_makeMatch_29 E9 rf (nI nO) f4 (nI nA) wf E12 lf (nI nO) (nI nA) K m v1 s) (nI i) s) ?_ ?_ nA 0 FU s (by omega) (fun o' w' ho hw => ⟨fun z => (hs o' w' ho hw).1 (by omega), fun z => (hs o' w' ho hw).2 (by omega)⟩) (by rw [FU_eq]; omega)
    · obtain ⟨s', q1, q2⟩ := inner
      refine ⟨s', ?_, fun o w ho hw => ⟨fun z => (q1 o w ho hw).1 (by omega), fun z => (q1 o w ho hw).2 (by omega)⟩⟩
      show fX6_makeMatch_29 _ _ _ _ _ _ _ _ _ _ _ (m + 1) (nI i) s = _
      rw [fX6_makeMatch_29, sz_at, bn1S, if_neg (nI_ge hi (by omega))]
      refine q2.trans ?_
      simp only [fX6_makeMatch_89, nI_1]
    · intro m' s hs
      show fX6_makeMatch_45 _ _ _ _ _ _ _ _ _ _ _ _ (m' + 1) (nI nA) s = _
      rw [fX6_makeMatch_45, sz_at, bn1S, if_pos (nI_le (Nat.le_refl _) (by omega))]
    · intro m' w s hw hs
      rcases hC i w hi hw with ⟨z1, z2⟩ | ⟨z1, z2, z3, z4⟩
      · refine ⟨s, ?_, fun o' w' ho' hw' => ⟨fun z => ?_, fun z => (hs o' w' ho' hw').2 (by omega)⟩⟩
        · show fX6_makeMatch_45 _ _ _ _ _ _ _ _ _ _ _ _ (m' + 1) (nI w) s = fX6_makeMatch_45 _ _ _ _ _ _ _ _ _ _ _ _ m' (nI (w + 1)) s
          rw [fX6_makeMatch_45, sz_at, bn1S, if_neg (nI_ge hw (by omega)), z2, bn1S, if_pos rfl]
          simp only [fX6_makeMatch_83, nI_1]
        · by_cases c : o' = i ∧ w' = w
          · obtain ⟨rfl, rfl⟩ := c
            exact Or.inl ⟨z1, (hs o' w' ho' hw').2 (by omega)⟩
          · exact (hs o' w' ho' hw').1 (by omega)
      · refine ⟨upd s (7 * i + w) (nI (sc i w)), ?_, fun o' w' ho' hw' => ⟨fun z => ?_, fun z => ?_⟩⟩
        · show fX6_makeMatch_45 _ _ _ _ _ _ _ _ _ _ _ _ (m' + 1) (nI w) s = fX6_makeMatch_45 _ _ _ _ _ _ _ _ _ _ _ _ m' (nI (w + 1)) _
          have al : fX2_allow (nI i) (nI w) (nI (gp i w)) (nI nO) (nI nA) s = some (upd s (7 * i + w) (nI (sc i w))) := by
            obtain ⟨x, hx⟩ : ∃ x, nO = x + 1 := ⟨nO - 1, by omega⟩
            obtain ⟨y, hy⟩ : ∃ y, nA = y + 1 := ⟨nA - 1, by omega⟩
            rw [fX2_allow, hx, hy, show nI (x + 1) - 1 = nI x from nI_pred x, show nI (y + 1) - 1 = nI y from nI_pred y, wi, if_neg (rngN (by omega) (by omega)), bn1S, if_neg (by decide), wi, if_neg (rngN (by omega) (by omega)), bn1S, if_neg (by decide), show nI i * 7 + nI w = nI (i * 7 + w) by rw [show nI i * 7 = nI (i * 7) from pk_mul i 7, nI_add], ixN (by omega) (by decide), gdT, cl _ (by omega), Nat.mul_comm i 7, show (10000 : Int32) - nI (gp i w) = nI (10000 - gp i w) from pk_sub (a := 10000) (by omega), z1]
          rw [fX6_makeMatch_45, sz_at, bn1S, if_neg (nI_ge hw (by omega)), z3, bn1S, if_neg (by decide), z4, bn1S, al, bn1S]
          simp only [fX6_makeMatch_83, nI_1]
        · by_cases c : o' = i ∧ w' = w
          · obtain ⟨rfl, rfl⟩ := c
            exact Or.inr ⟨by omega, upd_same _ _ _⟩
          · rw [upd_ne _ _ (by omega)]
            exact (hs o' w' ho' hw').1 (by omega)
        · rw [upd_ne _ _ (by omega)]
          exact (hs o' w' ho' hw').2 (by omega)
theorem bn7S {α0 α1 α2 α3 α4 α5 α6 γ : Type} (a0 : α0) (a1 : α1) (a2 : α2) (a3 : α3) (a4 : α4) (a5 : α5) (a6 : α6) (k : α0 → α1 → α2 → α3 → α4 → α5 → α6 → Option γ) : bn7 (some (a0, a1, a2, a3, a4, a5, a6)) k = k a0 a1 a2 a3 a4 a5 a6 := rfl
theorem op_match : Op_match Inv := by
  intro E F M N v h
  obtain ⟨⟨td, lk, rt, fr, nB, nW, nR, nO, nA, nU, ⟨hd, hn, hb⟩, hBox, hWo, hWe, hRo, hOf, hWa, hLv, hLs, hUs⟩, hK, hT, hP⟩ := id h
  obtain ⟨d0, d1, d2, d3, d4, d5, d6, d7, d8, d9, d10, d11, d12⟩ := hd
  obtain ⟨n0, n1, n2, n3, n4, n5, n6, n7, n8, n9⟩ := hn
  have e9 : E 9 = nI nR := d7
  have e10 : E 10 = nI nO := d8
  have e11 : E 11 = nI nA := d9
  have e12 : E 12 = nI 4 := d10
  have h7 : nO ≤ 7 := by omega
  have h7' : nA ≤ 7 := by omega
  -- the pairs
  have pairs : ∀ x : Nat × Nat, ∃ p : Nat × Nat, p.1 ≤ 10000 ∧ (x.1 < nO → x.2 < nA → ((p.1 = 0 ∧ fX6_isSuited (nI x.1) (nI x.2) (E 9) (F 3) (E 10) (F 4) (E 11) (F 5) (E 12) (F 6) = some 0) ∨ (p.1 = 10000 - p.2 ∧ p.2 ≤ 200 ∧ fX6_isSuited (nI x.1) (nI x.2) (E 9) (F 3) (E 10) (F 4) (E 11) (F 5) (E 12) (F 6) = some 1 ∧ fX6_gapBetween (nI x.1) (nI x.2) (E 10) (F 4) (E 11) (F 5) = some (nI p.2))) ∧ ((p.1 = 0 ∧ fX7_suitsIt (nI x.1) (nI x.2) (N 0) (N 4) (N 5) (N 6) = some 0) ∨ (p.1 = 10000 - p.2 ∧ p.2 ≤ 200 ∧ fX7_suitsIt (nI x.1) (nI x.2) (N 0) (N 4) (N 5) (N 6) = some 1 ∧ fX7_gapOf (nI x.1) (nI x.2) (N 5) = some (nI p.2)))) := by
    rintro ⟨o, w⟩
    by_cases c : o < nO ∧ w < nA
    · obtain ⟨ho, hw⟩ := c
      obtain ⟨s, hs, s1, s2⟩ := suit_at hRo hOf hWa hLv (by omega) h7 h7' e9 e10 e11 e12 n3 ho hw
      obtain ⟨pl, ln, kd, fi, la, hh, x0, x1, x2, x3, x4⟩ := hOf o ho
      obtain ⟨pl', ln', kd', fi', la', hh', y0, y1, y2, y3, y4⟩ := hWa w hw
      obtain ⟨g, hg, g1, g2⟩ := gap_at (a := fi) (b := fi') (by omega) (by omega)
      have o3 : fX4_cell (nI o) 3 5 (E 10) 35 (F 4) = some (nI fi) := by rw [e10, show fX4_cell (nI o) 3 5 (nI nO) 35 (F 4) = some (F 4 (5 * o + 3)) from cell_at (c := 3) (cols := 5) ho (by decide) (by omega) (by omega) (by decide) (by decide), x3.1]
      have w3 : fX4_cell (nI w) 3 5 (E 11) 35 (F 5) = some (nI fi') := by rw [e11, show fX4_cell (nI w) 3 5 (nI nA) 35 (F 5) = some (F 5 (5 * w + 3)) from cell_at (c := 3) (cols := 5) hw (by decide) (by omega) (by omega) (by decide) (by decide), y3.1]
      have G6 : fX6_gapBetween (nI o) (nI w) (E 10) (F 4) (E 11) (F 5) = some (nI g) := by rw [fX6_gapBetween, o3, bn1S, w3, bn1S, g1]
      have G7 : fX7_gapOf (nI o) (nI w) (N 5) = some (nI g) := by
        simp only [Nat.zero_add] at x3
        rw [fX7_gapOf, show (5 : Int32) * nI o + 3 = nI (5 * o + 3) from ax 5 o 3, show (35 : Int32) + 5 * nI w + 3 = nI (35 + 5 * w + 3) by rw [show (5 : Int32) * nI w = nI (5 * w) from pk_mul 5 w, show (35 : Int32) + nI (5 * w) = nI (35 + 5 * w) from nI_add 35 _]; exact nI_add _ 3, ixN (by omega) (by decide), gdT, ixN (by omega) (by decide), gdT, cl _ (by omega), cl _ (by omega), x3.2, y3.2, g2]
      rcases (show s = 0 ∨ s = 1 by omega) with rfl | rfl
      · exact ⟨(0, 0), by decide, fun _ _ => ⟨Or.inl ⟨rfl, s1⟩, Or.inl ⟨rfl, s2⟩⟩⟩
      · exact ⟨(10000 - g, g), by show 10000 - g ≤ 10000; omega, fun _ _ => ⟨Or.inr ⟨rfl, hg, s1, G6⟩, Or.inr ⟨rfl, hg, s2, G7⟩⟩⟩
    · exact ⟨(0, 0), by decide, fun a b => absurd ⟨a, b⟩ c⟩
  obtain ⟨P, hPP⟩ := Classical.axiomOfChoice pairs
  have hsc : ∀ o w, (fun o w => (P (o, w)).1) o w ≤ 10000 := fun o w => (hPP (o, w)).1
  have hC : RPair nO nA (fun o w => (P (o, w)).1) (fun o w => (P (o, w)).2) (E 9) (F 3) (E 10) (F 4) (E 11) (F 5) (E 12) (F 6) := fun o w ho hw => ((hPP (o, w)).2 ho hw).1
  have hG : RGoes nO nA (fun o w => (P (o, w)).1) (fun o w => (P (o, w)).2) (N 0) (N 4) (N 5) (N 6) := fun o w ho hw => ((hPP (o, w)).2 ho hw).2
  obtain ⟨s0, q0, q1⟩ := begin_at h7 h7' (E 36) (E 37) (F 28)
  obtain ⟨s1, q2, q3⟩ := scores_at hC h7 h7' e10 e11 (fun s => fX6_makeMatch_95 (nI nO) (nI nA) (E 38) (E 39) s (F 29) (F 30)) s0 q0
  obtain ⟨bt, q4, q5⟩ := solve_best (bt := F 29) (gv := F 30) q2 hsc h7 h7' (E 38) (E 39)
  obtain ⟨bm, q6, q7⟩ := weigh_at (bt := N 15) hG hsc n4 n5 h7 h7'
  obtain ⟨p', g', gv', c1, -, c2, c3⟩ := chain_at q2 hG hsc q4 q6 h7 h7' n4 n5 nO 0 FU FU 0 0 0 (F 30) (by omega) (by rw [FU_eq]; omega) (by rw [FU_eq]; omega) (Nat.two_pow_pos nA)
  have q1' : fX2_begin (E 10) (E 11) (E 36) (E 37) (F 28) = some (nI nO, nI nA, s0) := by
    rw [e10, e11]
    exact q1
  have mk : fX6_makeMatch (E 9) (F 3) (E 10) (F 4) (E 11) (F 5) (E 12) (F 6) (E 36) (E 37) (E 38) (E 39) (F 28) (F 29) (F 30) = some (nI nO, nI nA, p', g', s1, bt, gv') := by
    rw [fX6_makeMatch, sz_at, bn1S, sz_at, bn1S, q1', bn3S, q3, fX6_makeMatch_95, q5, show fX2_solve_87 (nI nO) (nI nA) s1 bt (F 30) = some (p', g', bt, gv') from c1]
    rfl
  have fin : ∀ (a b c d : Int32) (f g k m : Nat → Int32), Inv (va_up (va_up (va_up (va_up E 36 a) 37 b) 38 c) 39 d) (va_up (va_up (va_up F 28 f) 29 g) 30 k) M (va_up N 15 m) := by
    intro a b c d f g k m
    refine Inv_same h (fun i hi => ?_) (fun j hj => ?_) rfl rfl (fun k hk => va_up_ne _ _ (by omega)) rfl rfl (RP_same hP rfl rfl rfl rfl rfl rfl rfl)
    · repeat rw [va_up_ne _ _ (by omega)]
    · repeat rw [va_up_ne _ _ (by omega)]
  have r29 : ∀ x, fX7_match_29 x (N 0) (N 4) (N 5) (N 6) (N 15) = fX7_match_43 x (N 0) (N 4) (N 5) (N 6) bm (fun a b => fX7_match_161 x a b bm) FU 0 0 (nI 0) (nI 0) := by
    intro x
    rw [fX7_match_29, q7, bn1S]
    rfl
  by_cases v01 : v = 0 ∨ v = 1
  · refine ⟨if v = 0 then p' else g', _, _, _, _, _, _, _, _, ?_, ?_, fin (nI nO) (nI nA) p' g' s1 bt gv' bm⟩
    · rcases v01 with rfl | rfl
      · rw [fX6_match, if_pos (by decide), fX6_match_27, fX6_match_28, if_pos rfl, fX6_match_44, mk, bn7S, if_pos rfl, if_pos rfl]
      · rw [fX6_match, if_pos (by decide), fX6_match_27, fX6_match_28, if_neg (by decide), if_pos rfl, fX6_match_44, mk, bn7S, if_neg (by decide), if_pos rfl, if_neg (by decide)]
    · rw [fX7_match, show fX7_in v 0 1 = some 1 by rcases v01 with rfl | rfl <;> decide, bn1S, if_neg (by decide), r29]
      exact c2 v v01
  · have in01 : fX7_in v 0 1 = some 0 := by
      rcases rng v (hi := 1) 1 rfl (by decide) with z | ⟨n, hn, rfl⟩
      · rw [wi7, if_pos z]
      · exfalso
        apply v01
        rcases (show n = 0 ∨ n = 1 by omega) with rfl | rfl
        · exact Or.inl rfl
        · exact Or.inr rfl
    have no28 : ∀ t : Int32, fX6_match_28 v t (E 9) (F 3) (E 10) (F 4) (E 11) (F 5) (E 12) (F 6) (E 36) (E 37) (E 38) (E 39) (F 28) (F 29) (F 30) = if t = 0 then some (-1, E 36, E 37, E 38, E 39, F 28, F 29, F 30) else fX6_match_44 v (E 9) (F 3) (E 10) (F 4) (E 11) (F 5) (E 12) (F 6) (E 36) (E 37) (E 38) (E 39) (F 28) (F 29) (F 30) := by
      intro t
      rw [fX6_match_28, if_neg (fun z => v01 (Or.inl z)), if_neg (fun z => v01 (Or.inr z))]
    rcases rng2 v (lo := 10) (hi := 9 + nI nO) 10 (9 + nO) rfl (nI_add 9 nO) (by omega) (by decide) with z | ⟨n, hn1, hn2, rfl⟩
    · refine ⟨-1, E 36, E 37, E 38, E 39, F 28, F 29, F 30, N 15, ?_, ?_, fin _ _ _ _ _ _ _ _⟩
      · rw [fX6_match]
        by_cases c : v < 10
        · rw [if_pos c, fX6_match_27, no28, if_pos rfl]
        · rw [if_neg c, e10]
          rcases tRow (v - 10) nO (by omega) with ⟨a1, -⟩ | ⟨t, ht, a1, -⟩
          · rw [a1, bn1S, if_pos rfl, fX6_match_27, ← e10, no28, if_pos rfl]
          · exfalso
            have ev : v = nI (10 + t) := by
              rw [show nI (10 + t) = 10 + nI t from (nI_add 10 t).symm, ← a1, Int32.add_comm, Int32.sub_add_cancel]
            rcases z with z | z
            · exact c z
            · rw [ev, show (9 : Int32) + nI nO = nI (9 + nO) from nI_add 9 nO] at z
              exact nI_nlt (show 10 + t ≤ 9 + nO by omega) (by omega) z
      · rw [fX7_match, in01, bn1S, if_pos rfl, gdt (show ix (4 : Int32) 10 = true by decide), show (4 : Int32).toNatClampNeg = 4 from rfl, n4, wi7, if_pos z, bn1S, if_pos rfl]
    · obtain ⟨t, rfl⟩ : ∃ t, n = 10 + t := ⟨n - 10, by omega⟩
      have em : nI (10 + t) - 10 = nI t := by
        rw [show nI (10 + t) - 10 = nI (10 + t - 10) from pk_sub (b := 10) (by omega)]
        congr 1
        omega
      have ht : t < nO := by omega
      refine ⟨gv' t, _, _, _, _, _, _, _, _, ?_, ?_, fin (nI nO) (nI nA) p' g' s1 bt gv' bm⟩
      · rcases tRow (nI t) nO (by omega) with ⟨a1, -⟩ | ⟨t', ht', a0, a1, -⟩
        · rw [has_at (nI t) (by omega), if_neg (by
            rintro (z | z)
            · exact nlt0 t (by omega) z
            · exact nI_ge ht (by omega) z)] at a1
          exact absurd a1 (by decide)
        · obtain ⟨x, hx⟩ : ∃ x, nO = x + 1 := ⟨nO - 1, by omega⟩
          have wo : fX2_wantOf (nI t) (nI nO) gv' = some (gv' t) := by
            rw [fX2_wantOf, hx, show nI (x + 1) - 1 = nI x from nI_pred x, wi, if_neg (rngN (by omega) (by omega)), bn1S, if_neg (by decide), ixN (by omega) (by decide), gdT, cl _ (by omega)]
          rw [fX6_match, if_neg (show ¬ nI (10 + t) < 10 from nI_nlt (b := 10) (by omega) (by omega)), em, show fX4_has (nI t) (E 10) = some 1 by rw [e10]; exact a1, bn1S, if_neg (by decide), no28, if_neg (by decide), fX6_match_44, mk, bn7S, if_neg (fun z => v01 (Or.inl z)), if_neg (fun z => v01 (Or.inr z)), em, wo, bn1S]
      · rw [fX7_match, in01, bn1S, if_pos rfl, gdt (show ix (4 : Int32) 10 = true by decide), show (4 : Int32).toNatClampNeg = 4 from rfl, n4, wi7, if_neg (by
          rw [show (9 : Int32) + nI nO = nI (9 + nO) from nI_add 9 nO]
          exact rngN2 (a := 10) hn1 hn2 (by omega)), bn1S, if_neg (by decide), r29]
        exact c3 t (by omega) ht
