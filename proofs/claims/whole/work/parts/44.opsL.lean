/-- the rows of the class's best -/
def RBest (nO nA lim o : Nat) (sc : Nat → Nat → Nat) (bt : Nat → Int32) : Prop := ∀ o', o ≤ o' → o' ≤ nO → ∀ k, k < lim → bt (128 * o' + k) = nI (Vv sc nO nA o' k)
theorem solve_best {nO nA : Nat} {sc : Nat → Nat → Nat} {s bt gv : Nat → Int32} (hS : RSc nO nA sc s) (hsc : ∀ o w, sc o w ≤ 10000) (h7 : nO ≤ 7) (h7' : nA ≤ 7) (p q : Int32) : ∃ bt', RBest nO nA (2 ^ nA) 0 sc bt' ∧ fX2_solve (nI nO) (nI nA) p q s bt gv = fX2_solve_87 (nI nO) (nI nA) s bt' gv := by
  have h128 : 2 ^ nA ≤ 2 ^ 7 := Nat.pow_le_pow_right (by decide) h7'
  have m1 : ∃ bt1, RBest nO nA (2 ^ nA) nO sc bt1 ∧ fX2_solve (nI nO) (nI nA) p q s bt gv = fX2_solve_34 (nI nO) (nI nA) s bt1 gv := by
    have main := loopK (σ := Nat → Int32) (fun n i b => fX2_solve_2 (nI nO) (nI nA) (fun b => fX2_solve_34 (nI nO) (nI nA) s b gv) n i b) (2 ^ nA) (fun i b => ∀ k, k < i → b (128 * nO + k) = 0) (fun b => fX2_solve_34 (nI nO) (nI nA) s b gv) ?_ ?_ (2 ^ nA) 0 FU bt (by omega) (fun k hk => absurd hk (by omega)) (by rw [FU_eq]; omega)
    · obtain ⟨bt1, q1, q2⟩ := main
      refine ⟨bt1, ?_, q2⟩
      intro o' h1 h2 k hk
      obtain rfl : o' = nO := by omega
      rw [q1 k hk, Vv_top]; rfl
    · intro m b hb
      show fX2_solve_2 _ _ _ (m + 1) (nI (2 ^ nA)) b = _
      rw [fX2_solve_2, shl_at h7', if_pos (nI_le (Nat.le_refl _) (by omega))]
    · intro m i b hi hb
      refine ⟨upd b (128 * nO + i) 0, ?_, ?_⟩
      · show fX2_solve_2 _ _ _ (m + 1) (nI i) b = _
        rw [fX2_solve_2, shl_at h7', if_neg (nI_ge hi (by omega)), show nI nO * 128 = nI (nO * 128) from pk_mul _ 128, nI_add, ixN (by omega) (by decide), gdT, cl _ (by omega), Nat.mul_comm nO 128, nI_1]
      · intro k hk
        by_cases e : k = i
        · subst e; exact upd_same _ _ _
        · rw [upd_ne _ _ (by omega)]; exact hb k (by omega)
  obtain ⟨bt1, r1, r2⟩ := m1
  have main := loopD (σ := Nat → Int32) (fun n i b => fX2_solve_41 (nI nA) s (fun b => fX2_solve_87 (nI nO) (nI nA) s b gv) n i b) (fun j b => RBest nO nA (2 ^ nA) j sc b) (fun b => fX2_solve_87 (nI nO) (nI nA) s b gv) ?_ nO ?_ nO FU bt1 (Nat.le_refl _) r1 (by rw [FU_eq]; omega)
  · obtain ⟨bt', q1, q2⟩ := main
    refine ⟨bt', q1, ?_⟩
    rw [r2]
    exact q2
  · intro m b hb
    show fX2_solve_41 _ _ _ (m + 1) (-1) b = _
    rw [fX2_solve_41, if_pos (by decide)]
  · intro m o b ho hb
    have row := loopK (σ := Nat → Int32) (fun n i b => fX2_solve_47 (nI o) (nI nA) s (fun b => fX2_solve_81 (fun v b => fX2_solve_41 (nI nA) s (fun b => fX2_solve_87 (nI nO) (nI nA) s b gv) m v b) (nI o) b) n i b) (2 ^ nA) (fun i b => RBest nO nA (2 ^ nA) (o + 1) sc b ∧ ∀ k, k < i → b (128 * o + k) = nI (Vv sc nO nA o k)) (fun b => fX2_solve_81 (fun v b => fX2_solve_41 (nI nA) s (fun b => fX2_solve_87 (nI nO) (nI nA) s b gv) m v b) (nI o) b) ?_ ?_ (2 ^ nA) 0 FU b (by omega) ⟨hb, fun k hk => absurd hk (by omega)⟩ (by rw [FU_eq]; omega)
    · obtain ⟨b', q1, q2⟩ := row
      refine ⟨b', ?_, ?_⟩
      · show fX2_solve_41 _ _ _ (m + 1) (nI o) b = _
        rw [fX2_solve_41, if_neg (nlt0 o (by omega))]
        exact q2
      · intro o' h1 h2 k hk
        by_cases e : o' = o
        · subst e; exact q1.2 k hk
        · exact q1.1 o' (by omega) h2 k hk
    · intro m' b hb
      show fX2_solve_47 _ _ _ _ (m' + 1) (nI (2 ^ nA)) b = _
      rw [fX2_solve_47, shl_at h7', if_pos (nI_le (Nat.le_refl _) (by omega))]
    · intro m' i b hi hb
      refine ⟨upd b (128 * o + i) (nI (Vv sc nO nA o i)), ?_, ?_, ?_⟩
      · show fX2_solve_47 _ _ _ _ (m' + 1) (nI i) b = _
        rw [fX2_solve_47, shl_at h7', if_neg (nI_ge hi (by omega)), bestFrom_at hS hsc ho h7 h7' hi (fun k hk => hb.1 (o + 1) (Nat.le_refl _) (by omega) k hk), bn1S, show nI o * 128 = nI (o * 128) from pk_mul _ 128, nI_add, ixN (by omega) (by decide), gdT, cl _ (by omega), Nat.mul_comm o 128, nI_1]
      · intro o' h1 h2 k hk
        rw [upd_ne _ _ (by omega)]
        exact hb.1 o' h1 h2 k hk
      · intro k hk
        by_cases e : k = i
        · subst e; exact upd_same _ _ _
        · rw [upd_ne _ _ (by omega)]; exact hb.2 k (by omega)
/-- what the reference asks of a pair -/
def RGoes (nO nA : Nat) (sc gp : Nat → Nat → Nat) (nm rm tm lm : Nat → Int32) : Prop := ∀ o w, o < nO → w < nA → (sc o w = 0 ∧ fX7_suitsIt (nI o) (nI w) nm rm tm lm = some 0) ∨ (sc o w = 10000 - gp o w ∧ gp o w ≤ 200 ∧ fX7_suitsIt (nI o) (nI w) nm rm tm lm = some 1 ∧ fX7_gapOf (nI o) (nI w) tm = some (nI (gp o w)))
theorem goes_at {nO nA o w k : Nat} {sc gp : Nat → Nat → Nat} {nm rm tm lm bt : Nat → Int32} (hG : RGoes nO nA sc gp nm rm tm lm) (ho : o < nO) (hw : w < nA) (h7 : nO ≤ 7) (h7' : nA ≤ 7) (hk : k < 128) (hB : ∀ k, k < 128 → bt (128 * (o + 1) + k) = nI (Vv sc nO nA (o + 1) k)) : fX7_goesWith (nI o) (nI w) (nI k) nm rm tm lm bt = some (if k.testBit w = false ∧ ¬ sc o w = 0 then nI (sc o w + Vv sc nO nA (o + 1) (k ||| 2 ^ w)) else -1) := by
  have hor : k ||| 2 ^ w < 2 ^ 7 := bit_or hk (show w < 7 by omega)
  rw [fX7_goesWith]
  by_cases c1 : k.testBit w = false
  · rw [if_neg (fun z => (shr_at hk (by omega)).1 z c1)]
    rcases hG o w ho hw with ⟨q1, q2⟩ | ⟨q1, q2, q3, q4⟩
    · rw [q2, bn1S, if_pos rfl, if_neg (fun z => z.2 q1)]
    · rw [q3, bn1S, if_neg (by decide), q4, bn1S, shl_at (by omega), fa_or, nI_1, show (128 : Int32) * nI (o + 1) = nI (128 * (o + 1)) from pk_mul 128 _, nI_add, ixN (by omega) (by decide), gdT, cl _ (by omega), hB _ hor, show (10000 : Int32) - nI (gp o w) = nI (10000 - gp o w) from pk_sub (a := 10000) (by omega), nI_add, if_pos ⟨c1, by omega⟩, q1]
  · rw [if_pos ((shr_at hk (by omega)).2 c1), if_neg (fun z => c1 z.1)]
theorem weigh_at {nO nA : Nat} {sc gp : Nat → Nat → Nat} {nm rm tm lm bt : Nat → Int32} (hG : RGoes nO nA sc gp nm rm tm lm) (hsc : ∀ o w, sc o w ≤ 10000) (n4 : nm 4 = nI nO) (n5 : nm 5 = nI nA) (h7 : nO ≤ 7) (h7' : nA ≤ 7) : ∃ bt', RBest nO nA 128 0 sc bt' ∧ fX7_weigh nm rm tm lm bt = some bt' := by
  have i5 : ix (5 : Int32) 10 = true := by decide
  have c5 : (5 : Int32).toNatClampNeg = 5 := rfl
  have bV : ∀ o k, Vv sc nO nA o k ≤ 70000 := fun o k => Nat.le_trans (Vv_le sc nO nA hsc (nO - o) o k rfl) (by omega)
  have m1 : ∃ bt1, RBest nO nA 128 nO sc bt1 ∧ fX7_weigh nm rm tm lm bt = fX7_weigh_35 (nI nO) nm rm tm lm bt1 := by
    have main := loopK (σ := Nat → Int32) (fun n i b => fX7_weigh_9 (nI nO) (fun b => fX7_weigh_35 (nI nO) nm rm tm lm b) n i b) 128 (fun i b => ∀ k, k < i → b (128 * nO + k) = 0) (fun b => fX7_weigh_35 (nI nO) nm rm tm lm b) ?_ ?_ 128 0 FU bt (by omega) (fun k hk => absurd hk (by omega)) (by rw [FU_eq]; omega)
    · obtain ⟨bt1, q1, q2⟩ := main
      refine ⟨bt1, ?_, ?_⟩
      · intro o' h1 h2 k hk
        obtain rfl : o' = nO := by omega
        rw [q1 k hk, Vv_top]; rfl
      · rw [fX7_weigh, gdt (show ix (4 : Int32) 10 = true by decide), show (4 : Int32).toNatClampNeg = 4 from rfl, n4]
        exact q2
    · intro m b hb
      show fX7_weigh_9 _ _ (m + 1) (nI 128) b = _
      rw [fX7_weigh_9, if_pos (show (128 : Int32) ≤ nI 128 by decide)]
    · intro m i b hi hb
      refine ⟨upd b (128 * nO + i) 0, ?_, ?_⟩
      · show fX7_weigh_9 _ _ (m + 1) (nI i) b = _
        rw [fX7_weigh_9, if_neg (show ¬ (128 : Int32) ≤ nI i from nI_ge (b := 128) hi (by omega)), show (128 : Int32) * nI nO = nI (128 * nO) from pk_mul 128 _, nI_add, ixN (by omega) (by decide), gdT, cl _ (by omega), nI_1]
      · intro k hk
        by_cases e : k = i
        · subst e; exact upd_same _ _ _
        · rw [upd_ne _ _ (by omega)]; exact hb k (by omega)
  obtain ⟨bt1, r1, r2⟩ := m1
  have main := loopD (σ := Nat → Int32) (fun n i b => fX7_weigh_39 nm rm tm lm n i b) (fun j b => RBest nO nA 128 j sc b) (fun b => some b) ?_ nO ?_ nO FU bt1 (Nat.le_refl _) r1 (by rw [FU_eq]; omega)
  · obtain ⟨bt', q1, q2⟩ := main
    refine ⟨bt', q1, ?_⟩
    rw [r2]
    exact q2
  · intro m b hb
    show fX7_weigh_39 _ _ _ _ (m + 1) (-1) b = _
    rw [fX7_weigh_39, if_pos (by decide)]
  · intro m o b ho hb
    have row := loopK (σ := Nat → Int32) (fun n i b => fX7_weigh_45 (nI o) nm rm tm lm (fun b => fX7_weigh_134 (fun v b => fX7_weigh_39 nm rm tm lm m v b) (nI o) b) n i b) 128 (fun i b => RBest nO nA 128 (o + 1) sc b ∧ ∀ k, k < i → b (128 * o + k) = nI (Vv sc nO nA o k)) (fun b => fX7_weigh_134 (fun v b => fX7_weigh_39 nm rm tm lm m v b) (nI o) b) ?_ ?_ 128 0 FU b (by omega) ⟨hb, fun k hk => absurd hk (by omega)⟩ (by rw [FU_eq]; omega)
    · obtain ⟨b', q1, q2⟩ := row
      refine ⟨b', ?_, ?_⟩
      · show fX7_weigh_39 _ _ _ _ (m + 1) (nI o) b = _
        rw [fX7_weigh_39, if_neg (nlt0 o (by omega))]
        exact q2
      · intro o' h1 h2 k hk
        by_cases e : o' = o
        · subst e; exact q1.2 k hk
        · exact q1.1 o' (by omega) h2 k hk
    · intro m' b hb
      show fX7_weigh_45 _ _ _ _ _ _ (m' + 1) (nI 128) b = _
      rw [fX7_weigh_45, if_pos (show (128 : Int32) ≤ nI 128 by decide)]
    · intro m' i b hi hb
      refine ⟨upd b (128 * o + i) (nI (Vv sc nO nA o i)), ?_, ?_, ?_⟩
      · show fX7_weigh_45 _ _ _ _ _ _ (m' + 1) (nI i) b = fX7_weigh_45 _ _ _ _ _ _ m' (nI (i + 1)) _
        rw [fX7_weigh_45, if_neg (show ¬ (128 : Int32) ≤ nI i from nI_ge (b := 128) hi (by omega)), show nI o + 1 = nI (o + 1) from nI_add o 1, show (128 : Int32) * nI (o + 1) = nI (128 * (o + 1)) from pk_mul 128 _, nI_add, ixN (by omega) (by decide), gdT, cl _ (by omega), hb.1 (o + 1) (Nat.le_refl _) (by omega) i hi]
        have inner := loopK (σ := Int32) (fun n w a => fX7_weigh_71 (nI o) (nI i) nm rm tm lm b (fun v4 => fX7_weigh_114 (fun v3 b => fX7_weigh_45 (nI o) nm rm tm lm (fun b => fX7_weigh_134 (fun v b => fX7_weigh_39 nm rm tm lm m v b) (nI o) b) m' v3 b) (nI o) (nI i) v4 b) n a w) nA (fun w a => a = nI (mxF w (cand sc nO nA o i) (Vv sc nO nA (o + 1) i))) (fun v4 => fX7_weigh_114 (fun v3 b => fX7_weigh_45 (nI o) nm rm tm lm (fun b => fX7_weigh_134 (fun v b => fX7_weigh_39 nm rm tm lm m v b) (nI o) b) m' v3 b) (nI o) (nI i) v4 b) ?_ ?_ nA 0 FU (nI (Vv sc nO nA (o + 1) i)) (by omega) rfl (by rw [FU_eq]; omega)
        · obtain ⟨a', p1, p2⟩ := inner
          rw [← Vv_step sc ho] at p1
          refine p2.trans ?_
          rw [p1, fX7_weigh_114, show (128 : Int32) * nI o = nI (128 * o) from pk_mul 128 _, nI_add, ixN (by omega) (by decide), gdT, cl _ (by omega), nI_1]
        · intro n a ha
          show fX7_weigh_71 _ _ _ _ _ _ _ _ (n + 1) a (nI nA) = _
          rw [fX7_weigh_71, gdt i5, c5, n5, if_pos (nI_le (Nat.le_refl _) (by omega))]
        · intro n w a hw ha
          refine ⟨_, ?_, rfl⟩
          show fX7_weigh_71 _ _ _ _ _ _ _ _ (n + 1) a (nI w) = fX7_weigh_71 _ _ _ _ _ _ _ _ n _ (nI (w + 1))
          have mb : mxF w (cand sc nO nA o i) (Vv sc nO nA (o + 1) i) ≤ 80000 := mxF_le (Nat.le_trans (bV _ _) (by omega)) (fun w' hw' => by
            unfold cand
            split
            · have := bV (o + 1) (i ||| 2 ^ w')
              have := hsc o w'
              omega
            · omega)
          rw [fX7_weigh_71, gdt i5, c5, n5, if_neg (nI_ge hw (by omega)), goes_at hG ho hw h7 h7' hi (fun k hk => hb.1 (o + 1) (Nat.le_refl _) (by omega) k hk), bn1S]
          simp only [fX7_weigh_106, nI_1]
          rw [mxF, ha]
          by_cases c : i.testBit w = false ∧ ¬ sc o w = 0
          · have e : cand sc nO nA o i w = sc o w + Vv sc nO nA (o + 1) (i ||| 2 ^ w) := if_pos c
            have := bV (o + 1) (i ||| 2 ^ w)
            have := hsc o w
            rw [if_pos c, ← e]
            by_cases c2 : cand sc nO nA o i w ≤ mxF w (cand sc nO nA o i) (Vv sc nO nA (o + 1) i)
            · rw [if_pos (nI_le c2 (by omega)), Nat.max_eq_left c2]
            · rw [if_neg (nI_ge (by omega) (by omega)), Nat.max_eq_right (by omega)]
          · have e : cand sc nO nA o i w = 0 := if_neg c
            rw [if_neg c, if_pos, e, Nat.max_eq_left (by omega)]
            exact Int32.le_trans (show (-1 : Int32) ≤ 0 by decide) (ge0N _ (by omega))
      · intro o' h1 h2 k hk
        rw [upd_ne _ _ (by omega)]
        exact hb.1 o' h1 h2 k hk
      · intro k hk
        by_cases e : k = i
        · subst e; exact upd_same _ _ _
        · rw [upd_ne _ _ (by omega)]; exact hb.2 k (by omega)
