theorem RLease_row {f m f' m' row : Nat → Int32} {l : Nat} (h : RLease f m) (hl : l ≤ 2) (hf : ∀ j, j < 51 → (j < 17 * l ∨ 17 * l + 17 ≤ j) → f' j = f j) (hm : ∀ j, j < 51 → (j < 17 * l ∨ 17 * l + 17 ≤ j) → m' j = m j) (hr : ∀ c, c < 16 → ∃ v : Nat, v ≤ 999 ∧ f' (17 * l + c) = nI v ∧ m' (17 * l + c) = nI v) (h16 : f' (17 * l + 16) = 1 ∧ m' (17 * l + 16) = 1) : RLease f' m' := by
  intro i hi
  by_cases e : i = l
  · subst e
    exact ⟨hr, 1, by decide, h16.1, h16.2⟩
  · obtain ⟨h1, h2⟩ := h i hi
    refine ⟨fun k hk => ?_, ?_⟩
    · rw [hf _ (by omega) (by omega), hm _ (by omega) (by omega)]
      exact h1 k hk
    · rw [hf _ (by omega) (by omega), hm _ (by omega) (by omega)]
      exact h2
theorem RLease_51 {f m m' : Nat → Int32} (h : RLease f m) (hm : ∀ j, j < 51 → m' j = m j) : RLease f m' := by
  intro i hi
  obtain ⟨h1, h2⟩ := h i hi
  refine ⟨fun k hk => ?_, ?_⟩
  · rw [hm _ (by omega)]; exact h1 k hk
  · rw [hm _ (by omega)]; exact h2
theorem op_read : Op_read Inv := by
  intro E F M N v h
  obtain ⟨⟨td, lk, rt, fr, nB, nW, nR, nO, nA, nU, ⟨hd, hn, hb⟩, hBox, hWo, hWe, hRo, hOf, hWa, hLv, hLs, hUs⟩, hK, ⟨mn, hmn, t1, t2, t3⟩, hP⟩ := id h
  have e13 : E 13 = nI 3 := hd.2.2.2.2.2.2.2.2.2.2.2.1
  -- what is left to show of the state, in all three cases
  have fin : ∀ (lf : Nat → Int32) (x2 x3 x4 x5 : Int32) (tx : Nat → Int32) (y1 y2 y3 y4 y5 y6 : Int32) (lm : Nat → Int32), RLease lf lm → Inv (va_up (va_up (va_up (va_up (va_up E 28 0) 29 x2) 30 x3) 31 x4) 32 x5) (va_up (va_up F 7 lf) 19 tx) (va_up (va_up (va_up (va_up (va_up (va_up (va_up M 1 0) 2 y1) 3 y2) 4 y3) 5 y4) 6 y5) 7 y6) (va_up N 7 lm) := by
    intro lf x2 x3 x4 x5 tx y1 y2 y3 y4 y5 y6 lm hL
    refine ⟨⟨td, lk, rt, fr, nB, nW, nR, nO, nA, nU, ⟨hd, hn, hb⟩, hBox, hWo, hWe, hRo, hOf, hWa, hLv, hL, hUs⟩, ?_, ⟨0, by decide, rfl, rfl, fun i hi => absurd hi (by omega)⟩, RP_same hP rfl rfl rfl rfl rfl rfl rfl⟩
    rcases hK with ⟨k1, k2⟩ | ⟨k1, k2, k3⟩
    · exact Or.inl ⟨k1, k2⟩
    · refine Or.inr ⟨k1, k2, RD_congr k3 (fun i hi => ?_) (fun j hj => ?_) (fun k hk => rfl)⟩
      · show va_up (va_up (va_up (va_up (va_up E 28 0) 29 x2) 30 x3) 31 x4) 32 x5 (15 + i) = E (15 + i)
        repeat rw [va_up_ne _ _ (by omega)]
      · show va_up (va_up F 7 lf) 19 tx (9 + j) = F (9 + j)
        repeat rw [va_up_ne _ _ (by omega)]
  rcases tLease v with ⟨a1, a2⟩ | ⟨l, hl, rfl, a1, a2⟩
  · refine ⟨-1, F 7, 0, E 29, E 30, E 31, E 32, F 19, 0, M 2, M 3, M 4, M 5, M 6, M 7, N 7, ?_, ?_, fin (F 7) (E 29) (E 30) (E 31) (E 32) (F 19) (M 2) (M 3) (M 4) (M 5) (M 6) (M 7) (N 7) hLs⟩
    · rw [fX6_read, a1, bn1S, if_pos rfl]; rfl
    · rw [fX7_read, a2, bn1S, if_pos rfl]
  have hT : RTape mn (fun i => (N 16 i).toNatClampNeg) (F 18) (N 16) := by
    intro i hi
    obtain ⟨v, hv, q1, q2⟩ := t3 i hi
    show (N 16 i).toNatClampNeg ≤ 255 ∧ F 18 i = nI (N 16 i).toNatClampNeg ∧ N 16 i = nI (N 16 i).toNatClampNeg
    rw [q2, cl _ (by omega)]
    exact ⟨hv, q1, rfl⟩
  -- the class begins
  have c1 : ∃ told, (∀ t, t < 16 → told t = -3) ∧ fX1_parse (E 31) (E 32) (F 19) (nI mn) (E 29) (E 30) (F 18) = fX1_parse_38 0 (nI mn) (F 18) (fun c t a b => fX1_parse_61 c t a b) FU 0 0 told 0 0 := by
    have main := loopK (σ := Nat → Int32) (fun n i s => fX1_parse_2 (fun tx => fX1_parse_22 tx (nI mn) (E 29) (E 30) (F 18)) n i s) 16 (fun i s => ∀ t, t < i → s t = -3) (fun tx => fX1_parse_22 tx (nI mn) (E 29) (E 30) (F 18)) ?_ ?_ 16 0 FU (F 19) (by omega) (fun t ht => absurd ht (by omega)) (by rw [FU_eq]; omega)
    · obtain ⟨s, q1, q2⟩ := main
      exact ⟨s, q1, q2⟩
    · intro m s hs
      show fX1_parse_2 _ (m + 1) (nI 16) s = _
      rw [fX1_parse_2, if_pos (by decide)]
    · intro m i s hi hs
      refine ⟨upd s i (-3), ?_, ?_⟩
      · show fX1_parse_2 _ (m + 1) (nI i) s = _
        rw [fX1_parse_2, if_neg (show ¬ (16 : Int32) ≤ nI i from nI_ge (b := 16) hi (by omega)), ixN hi (by decide), gdT, cl _ (by omega), nI_1]
      · intro t ht
        by_cases z : t = i
        · rw [z, upd_same]
        · rw [upd_ne _ _ z]; exact hs t (by omega)
  obtain ⟨told, q1, q2⟩ := c1
  -- the reference begins
  have c2 : ∃ lm, (∀ t, t < 16 → lm (51 + t) = nI (dfl t)) ∧ (∀ j, j < 51 → lm j = N 7 j) ∧ fX7_read (nI l) (nI mn) (M 2) (M 3) (M 4) (M 5) (M 6) (M 7) (N 7) (N 16) = fX7_read_54 (nI l) 51 (nI mn) (M 2) (M 3) (M 5) lm (N 16) := by
    have main := loopK (σ := Nat → Int32) (fun n i s => fX7_read_21 51 (fun lm => fX7_read_54 (nI l) 51 (nI mn) (M 2) (M 3) (M 5) lm (N 16)) n i s) 16 (fun i s => (∀ t, t < i → s (51 + t) = nI (dfl t)) ∧ ∀ j, j < 51 → s j = N 7 j) (fun lm => fX7_read_54 (nI l) 51 (nI mn) (M 2) (M 3) (M 5) lm (N 16)) ?_ ?_ 16 0 FU (N 7) (by omega) ⟨fun t ht => absurd ht (by omega), fun j hj => rfl⟩ (by rw [FU_eq]; omega)
    · obtain ⟨s, q1, q2⟩ := main
      refine ⟨s, q1.1, q1.2, ?_⟩
      rw [fX7_read, a2, bn1S, if_neg (by decide)]
      exact q2
    · intro m s hs
      show fX7_read_21 _ _ (m + 1) (nI 16) s = _
      rw [fX7_read_21, if_pos (by decide)]
    · intro m i s hi hs
      refine ⟨upd s (51 + i) (nI (dfl i)), ?_, fun t ht => ?_, fun j hj => ?_⟩
      · show fX7_read_21 _ _ (m + 1) (nI i) s = _
        rw [fX7_read_21, if_neg (show ¬ (16 : Int32) ≤ nI i from nI_ge (b := 16) hi (by omega)), show (51 : Int32) + nI i = nI (51 + i) from nI_add 51 i]
        simp only [fX7_read_47]
        rw [ixN (show 51 + i < 68 by omega) (by decide), gdT, gdT, cl _ (by omega), nI_1]
        unfold dfl
        by_cases z : i < 10
        · rw [if_pos (show nI i < 10 from nI_lt (b := 10) z (by decide)), if_pos z]; rfl
        · rw [if_neg (show ¬ nI i < 10 from nI_nlt (b := 10) (by omega) (by omega)), if_neg z]; rfl
      · by_cases z : t = i
        · rw [z, upd_same]
        · rw [upd_ne _ _ (by omega)]; exact hs.1 t (by omega)
      · rw [upd_ne _ _ (by omega)]; exact hs.2 j hj
  obtain ⟨lm, l1, l2, l3⟩ := c2
  obtain ⟨q, e, k, w, g1, g2, g3, g4⟩ := tok_at hT hmn (Nat.zero_le mn)
  have l4 : fX7_read_54 (nI l) 51 (nI mn) (M 2) (M 3) (M 5) lm (N 16) = fX7_read_85 (nI mn) (N 16) (fun v3 k a e v fa s lm => fX7_read_109 (nI l) 51 v3 k a e v fa s lm) FU (nI 0) (nI k) (nI q) (nI e) (nI w) (-1) (nI 0) (upd lm 67 1) := by
    rw [fX7_read_54, gdt (show ix ((51 : Int32) + 16) 68 = true by decide), show fX7_advance (nI mn) (M 2) (M 3) 0 (M 5) (N 16) = _ from g4 (M 2) (M 3) (M 5), bn4S]
    rfl
  have hRR : RR told 0 (upd lm 67 1) (N 7) := by
    refine ⟨by decide, fun t ht => Or.inl ⟨?_, Nat.zero_testBit t, ?_⟩, upd_same _ _ _, fun j hj => ?_⟩
    · rw [q1 t ht]; decide
    · rw [upd_ne _ _ (by omega)]; exact l1 t ht
    · rw [upd_ne _ _ (by omega)]; exact l2 j hj
  have hs0 : sumF 16 (bitN 0) = 0 := sum_zero _ _ (fun i hi => by unfold bitN; rw [Nat.zero_testBit]; rfl)
  have main := parse_at hT hmn (fun v3 k a e v fa s lm => fX7_read_109 (nI l) 51 v3 k a e v fa s lm) 16 0 FU FU 0 q e k w 0 told (upd lm 67 1) 0 (by omega) (by rw [FU_eq]; omega) (by rw [FU_eq]; omega) hRR hs0 g2 g3
  rcases main with ⟨fq, c', told', a', b', v3, k', a3, e', v', s', lm', f1, f2, f3, f4⟩ | ⟨c, told', a', b', k', a3, e', v', seen', lm', f2, f3, f4⟩
  · refine ⟨-100 - nI fq, F 7, 0, a', b', c', nI fq, told', 0, k', a3, e', v', nI fq, s', lm', ?_, ?_, fin (F 7) a' b' c' (nI fq) told' k' a3 e' v' (nI fq) s' lm' (RLease_51 hLs f4)⟩
    · rw [fX6_read, a1, bn1S, if_neg (by decide), t1, q2, show fX1_parse_38 0 (nI mn) (F 18) (fun c t a b => fX1_parse_61 c t a b) FU 0 0 told 0 0 = _ from f2, bn6S]
      rfl
    · rw [t2, l3, l4, f3, fX7_read_109, good_n (by omega), bn1S, if_pos rfl]
  · obtain ⟨r1, r2, r3, r4⟩ := f4
    -- the class writes the row
    have w6 := loopK (σ := Nat → Int32) (fun n i s => fX6_read_52 (nI l) (E 13) told' (fun lf => fX6_read_97 (nI l) (E 13) lf 0 a' b' c 0 told') n i s) 16 (fun i s => (∀ t, t < i → s (17 * l + t) = lm' (51 + t)) ∧ ∀ j, (j < 17 * l ∨ 17 * l + i ≤ j) → s j = F 7 j) (fun lf => fX6_read_97 (nI l) (E 13) lf 0 a' b' c 0 told') ?_ ?_ 16 0 FU (F 7) (by omega) ⟨fun t ht => absurd ht (by omega), fun j hj => rfl⟩ (by rw [FU_eq]; omega)
    · have w7 := loopK (σ := Nat → Int32) (fun n i s => fX7_read_132 (nI l) 51 c 0 k' a3 e' v' (-1) (nI seen') n i s) 17 (fun i s => (∀ t, t < i → s (17 * l + t) = lm' (51 + t)) ∧ ∀ j, (j < 17 * l ∨ 17 * l + i ≤ j) → s j = lm' j) (fun s => some (c, 0, k', a3, e', v', -1, nI seen', s)) ?_ ?_ 17 0 FU lm' (by omega) ⟨fun t ht => absurd ht (by omega), fun j hj => rfl⟩ (by rw [FU_eq]; omega)
      · obtain ⟨s6, x1, x2⟩ := w6
        obtain ⟨s7, y1, y2⟩ := w7
        have pt : fX4_put (nI l) 16 1 17 (E 13) 51 s6 = some (upd s6 (17 * l + 16) 1) := by
          rw [e13]
          exact put_at (c := 16) (cols := 17) (by omega) (by decide) (by omega) (by omega) (by decide) (by decide)
        refine ⟨c, upd s6 (17 * l + 16) 1, 0, a', b', c, 0, told', 0, k', a3, e', v', -1, nI seen', s7, ?_, ?_, fin _ _ _ _ _ _ _ _ _ _ _ _ _ ?_⟩
        · rw [fX6_read, a1, bn1S, if_neg (by decide), t1, q2, show fX1_parse_38 0 (nI mn) (F 18) (fun c t a b => fX1_parse_61 c t a b) FU 0 0 told 0 0 = _ from f2, bn6S, fX5_empty, bn1S, if_neg (by decide)]
          refine Eq.trans x2 ?_
          rw [fX6_read_97, pt, bn1S]
        · rw [t2, l3, l4, f3, fX7_read_109, good_m, bn1S, if_neg (by decide)]
          exact y2
        · refine RLease_row (row := lm') hLs hl (fun j hj hj2 => ?_) (fun j hj hj2 => ?_) (fun t ht => ?_) ⟨upd_same _ _ _, ?_⟩
          · rw [upd_ne _ _ (by omega)]
            exact x1.2 j (by omega)
          · rw [y1.2 j hj2]
            exact r4 j hj
          · rw [upd_ne _ _ (by omega), x1.1 t ht, y1.1 t (by omega)]
            rcases r2 t ht with ⟨-, -, z⟩ | ⟨x, hx, -, -, z⟩
            · exact ⟨dfl t, by unfold dfl; split <;> omega, z, z⟩
            · exact ⟨x, hx, z, z⟩
          · rw [y1.1 16 (by decide)]
            exact r3
      · intro n s hs
        show fX7_read_132 _ _ _ _ _ _ _ _ _ _ (n + 1) (nI 17) s = _
        rw [fX7_read_132, if_pos (by decide)]
      · intro n i s hi hs
        refine ⟨upd s (17 * l + i) (lm' (51 + i)), ?_, fun t ht => ?_, fun j hj => ?_⟩
        · show fX7_read_132 _ _ _ _ _ _ _ _ _ _ (n + 1) (nI i) s = _
          rw [fX7_read_132, if_neg (show ¬ (17 : Int32) ≤ nI i from nI_ge (b := 17) hi (by omega)), show (51 : Int32) + nI i = nI (51 + i) from nI_add 51 i, show (17 : Int32) * nI l = nI (17 * l) from pk_mul 17 l, nI_add, ixN (by omega) (by decide), gdT, ixN (by omega) (by decide), gdT, cl _ (by omega), cl _ (by omega), nI_1, hs.2 (51 + i) (by omega)]
        · by_cases z : t = i
          · rw [z, upd_same]
          · rw [upd_ne _ _ (by omega)]; exact hs.1 t (by omega)
        · rw [upd_ne _ _ (by omega)]; exact hs.2 j (by omega)
    · intro n s hs
      show fX6_read_52 _ _ _ _ (n + 1) (nI 16) s = _
      rw [fX6_read_52, if_pos (by decide)]
    · intro n i s hi hs
      have tm : ∀ d : Nat, d = dfl i → fX1_termOr (nI i) (nI d) told' = some (lm' (51 + i)) := by
        intro d hd
        rw [fX1_termOr, if_neg (nlt0 i (by omega)), if_neg (show ¬ (16 : Int32) ≤ nI i from nI_ge (b := 16) hi (by omega)), ixN hi (by decide), gdT, cl _ (by omega)]
        simp only [fX1_termOr_23, fX1_termOr_24]
        rcases r2 i hi with ⟨z0, -, z⟩ | ⟨x, hx, z0, -, z⟩
        · rw [if_pos z0, if_pos trivial, hd, z]
        · rw [z0, if_neg (nlt0 x (by omega)), if_neg (by decide), ixN hi (by decide), gdT, cl _ (by omega), z0, z]
      have pt : ∀ x, fX4_put (nI l) (nI i) x 17 (E 13) 51 s = some (upd s (17 * l + i) x) := by
        intro x
        rw [e13]
        exact put_at (cols := 17) (by omega) (by omega) (by omega) (by omega) (by decide) (by decide)
      refine ⟨upd s (17 * l + i) (lm' (51 + i)), ?_, fun t ht => ?_, fun j hj => ?_⟩
      · show fX6_read_52 _ _ _ _ (n + 1) (nI i) s = _
        rw [fX6_read_52, if_neg (show ¬ (16 : Int32) ≤ nI i from nI_ge (b := 16) hi (by omega))]
        simp only [fX6_read_85]
        by_cases z : i < 10
        · rw [if_pos (show nI i < 10 from nI_lt (b := 10) z (by decide)), show fX1_termOr (nI i) 0 told' = _ from tm 0 (by unfold dfl; rw [if_pos z]), bn1S, pt, bn1S, nI_1]
        · rw [if_neg (show ¬ nI i < 10 from nI_nlt (b := 10) (by omega) (by omega)), show fX1_termOr (nI i) 999 told' = _ from tm 999 (by unfold dfl; rw [if_neg z]), bn1S, pt, bn1S, nI_1]
      · by_cases z : t = i
        · rw [z, upd_same]
        · rw [upd_ne _ _ (by omega)]; exact hs.1 t (by omega)
      · rw [upd_ne _ _ (by omega)]; exact hs.2 j (by omega)
