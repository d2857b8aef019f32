def good (sc : Nat → Nat → Nat) (nO nA o k w : Nat) : Prop := k.testBit w = false ∧ ¬ sc o w = 0 ∧ sc o w + Vv sc nO nA (o + 1) (k ||| 2 ^ w) = Vv sc nO nA o k
def PK (sc : Nat → Nat → Nat) (nO nA o k : Nat) (r : Int32) : Prop := (r = -3 ∧ ∀ w, w < nA → ¬ good sc nO nA o k w) ∨ ∃ w, w < nA ∧ r = nI w ∧ good sc nO nA o k w ∧ ∀ w', w' < w → ¬ good sc nO nA o k w'
theorem PK_one {sc : Nat → Nat → Nat} {nO nA o k : Nat} {r r' : Int32} (h : PK sc nO nA o k r) (h' : PK sc nO nA o k r') : r = r' := by
  rcases h with ⟨a, b⟩ | ⟨w, a, b, c, d⟩
  · rcases h' with ⟨a', b'⟩ | ⟨w', a', b', c', d'⟩
    · rw [a, a']
    · exact absurd c' (b w' a')
  · rcases h' with ⟨a', b'⟩ | ⟨w', a', b', c', d'⟩
    · exact absurd c (b' w a)
    · rcases Nat.lt_trichotomy w w' with z | z | z
      · exact absurd c (d' w z)
      · rw [b, b', z]
      · exact absurd c' (d w' z)
theorem pick6 {nO nA o k : Nat} {sc : Nat → Nat → Nat} {s bt : Nat → Int32} (hS : RSc nO nA sc s) (hsc : ∀ o w, sc o w ≤ 10000) (hB : RBest nO nA (2 ^ nA) 0 sc bt) (ho : o < nO) (h7 : nO ≤ 7) (h7' : nA ≤ 7) (hk : k < 2 ^ nA) : ∃ r, fX2_leastBestWant (nI o) (nI k) (nI nA) s bt = some r ∧ PK sc nO nA o k r := by
  have h128 : 2 ^ nA ≤ 2 ^ 7 := Nat.pow_le_pow_right (by decide) h7'
  have bV : ∀ o k, Vv sc nO nA o k ≤ 70000 := fun o k => Nat.le_trans (Vv_le sc nO nA hsc (nO - o) o k rfl) (by omega)
  have main : ∀ (j w n : Nat), w + j = nA → j < n → (∀ w', w' < w → ¬ good sc nO nA o k w') → ∃ r, fX2_leastBestWant_2 (nI o) (nI k) (nI nA) s bt n (nI w) = some r ∧ PK sc nO nA o k r := by
    intro j
    induction j with
    | zero =>
      intro w n h1 h2 h3
      obtain ⟨n, rfl⟩ : ∃ x, n = x + 1 := ⟨n - 1, by omega⟩
      obtain rfl : w = nA := by omega
      exact ⟨-3, by rw [fX2_leastBestWant_2, if_pos (nI_le (Nat.le_refl _) (by omega))], Or.inl ⟨rfl, h3⟩⟩
    | succ j ih =>
      intro w n h1 h2 h3
      obtain ⟨n, rfl⟩ : ∃ x, n = x + 1 := ⟨n - 1, by omega⟩
      have hw : w < nA := by omega
      have go : ¬ good sc nO nA o k w → ∀ w', w' < w + 1 → ¬ good sc nO nA o k w' := by
        intro hg w' hw'
        by_cases e : w' = w
        · rw [e]; exact hg
        · exact h3 w' (by omega)
      rw [fX2_leastBestWant_2, if_neg (nI_ge hw (by omega)), open_at hS hsc ho hw h7 h7', bn1S]
      simp only [fX2_leastBestWant_44, nI_1]
      by_cases c : k.testBit w = false ∧ ¬ sc o w = 0
      · have := bV (o + 1) (k ||| 2 ^ w)
        have := hsc o w
        have := bV o k
        rw [if_pos c, if_neg (by decide), with_at hS ho hw h7 h7' hk h7' hw (fun k hk => hB (o + 1) (by omega) (by omega) k hk) c.2, bn1S, show nI o * 128 = nI (o * 128) from pk_mul _ 128, nI_add, ixN (by omega) (by decide), gdT, cl _ (by omega), Nat.mul_comm o 128, hB o (by omega) (by omega) k hk]
        by_cases c2 : sc o w + Vv sc nO nA (o + 1) (k ||| 2 ^ w) = Vv sc nO nA o k
        · rw [if_pos (by rw [c2])]
          exact ⟨nI w, rfl, Or.inr ⟨w, hw, rfl, ⟨c.1, c.2, c2⟩, h3⟩⟩
        · rw [if_neg (nI_neq c2 (by omega) (by omega))]
          exact ih (w + 1) n (by omega) (by omega) (go (fun z => c2 z.2.2))
      · rw [if_neg c, if_pos rfl]
        exact ih (w + 1) n (by omega) (by omega) (go (fun z => c ⟨z.1, z.2.1⟩))
  exact main nA 0 FU (by omega) (by rw [FU_eq]; omega) (fun w' hw' => absurd hw' (by omega))
theorem pick7 {nO nA o k : Nat} {sc gp : Nat → Nat → Nat} {nm rm tm lm bt : Nat → Int32} (hG : RGoes nO nA sc gp nm rm tm lm) (hsc : ∀ o w, sc o w ≤ 10000) (hB : RBest nO nA 128 0 sc bt) (ho : o < nO) (h7 : nO ≤ 7) (h7' : nA ≤ 7) (hk : k < 128) (K : Int32 → Option (Int32 × (Nat → Int32))) : ∃ r, PK sc nO nA o k r ∧ fX7_match_68 (nI k) (nI o) nm rm tm lm bt K FU (-3) (nI nA - 1) = K r := by
  have bV : ∀ o k, Vv sc nO nA o k ≤ 70000 := fun o k => Nat.le_trans (Vv_le sc nO nA hsc (nO - o) o k rfl) (by omega)
  have main := loopD (σ := Int32) (fun n i a => fX7_match_68 (nI k) (nI o) nm rm tm lm bt K n a i) (fun j a => (a = -3 ∧ ∀ w, j ≤ w → w < nA → ¬ good sc nO nA o k w) ∨ ∃ w, j ≤ w ∧ w < nA ∧ a = nI w ∧ good sc nO nA o k w ∧ ∀ w', j ≤ w' → w' < w → ¬ good sc nO nA o k w') K ?_ nA ?_ nA FU (-3) (Nat.le_refl _) (Or.inl ⟨rfl, fun w h1 h2 => absurd h1 (by omega)⟩) (by rw [FU_eq]; omega)
  · obtain ⟨r, q1, q2⟩ := main
    refine ⟨r, ?_, q2⟩
    rcases q1 with ⟨a, b⟩ | ⟨w, -, a, b, c, d⟩
    · exact Or.inl ⟨a, fun w hw => b w (by omega) hw⟩
    · exact Or.inr ⟨w, a, b, c, fun w' hw' => d w' (by omega) hw'⟩
  · intro m a ha
    show fX7_match_68 _ _ _ _ _ _ _ _ (m + 1) a (-1) = K a
    rw [fX7_match_68, if_pos (by decide)]
  · intro m w a hw ha
    have e : fX7_match_68 (nI k) (nI o) nm rm tm lm bt K (m + 1) a (nI w) = @ite _ (good sc nO nA o k w) (Classical.propDecidable _) (fX7_match_68 (nI k) (nI o) nm rm tm lm bt K m (nI w) (nI w + (-1))) (fX7_match_68 (nI k) (nI o) nm rm tm lm bt K m a (nI w + (-1))) := by
      rw [fX7_match_68, if_neg (nlt0 w (by omega)), goes_at hG ho hw h7 h7' hk (fun k hk => hB (o + 1) (by omega) (by omega) k hk), bn1S, show (128 : Int32) * nI o = nI (128 * o) from pk_mul 128 _, nI_add, ixN (by omega) (by decide), gdT, cl _ (by omega), hB o (by omega) (by omega) k hk]
      simp only [fX7_match_107]
      by_cases c : k.testBit w = false ∧ ¬ sc o w = 0
      · have := bV (o + 1) (k ||| 2 ^ w)
        have := hsc o w
        have := bV o k
        rw [if_pos c]
        by_cases c2 : sc o w + Vv sc nO nA (o + 1) (k ||| 2 ^ w) = Vv sc nO nA o k
        · rw [if_pos (by rw [c2]), if_pos ⟨c.1, c.2, c2⟩]
        · rw [if_neg (nI_neq c2 (by omega) (by omega)), if_neg (fun z => c2 z.2.2)]
      · have := bV o k
        rw [if_neg c, if_neg (fun z => nlt0 (Vv sc nO nA o k) (by omega) (by rw [← z]; decide)), if_neg (fun z => c ⟨z.1, z.2.1⟩)]
    by_cases c : good sc nO nA o k w
    · refine ⟨nI w, ?_, Or.inr ⟨w, Nat.le_refl _, hw, rfl, c, fun w' h1 h2 => absurd h1 (by omega)⟩⟩
      show fX7_match_68 (nI k) (nI o) nm rm tm lm bt K (m + 1) a (nI w) = _
      rw [e, if_pos c]
    · refine ⟨a, ?_, ?_⟩
      · show fX7_match_68 (nI k) (nI o) nm rm tm lm bt K (m + 1) a (nI w) = _
        rw [e, if_neg c]
      · have go : ∀ w', w ≤ w' → (w + 1 ≤ w' → ¬ good sc nO nA o k w') → ¬ good sc nO nA o k w' := by
          intro w' h1 h2
          by_cases z : w' = w
          · rw [z]; exact c
          · exact h2 (by omega)
        rcases ha with ⟨a1, b⟩ | ⟨w1, a0, a1, b, c1, d⟩
        · exact Or.inl ⟨a1, fun w' h1 h2 => go w' h1 (fun h3 => b w' h3 h2)⟩
        · exact Or.inr ⟨w1, by omega, a1, b, c1, fun w' h1 h2 => go w' h1 (fun h3 => d w' h3 h2)⟩
theorem chain_at {nO nA : Nat} {sc gp : Nat → Nat → Nat} {s bt nm rm tm lm bm : Nat → Int32} (hS : RSc nO nA sc s) (hG : RGoes nO nA sc gp nm rm tm lm) (hsc : ∀ o w, sc o w ≤ 10000) (hB : RBest nO nA (2 ^ nA) 0 sc bt) (hM : RBest nO nA 128 0 sc bm) (h7 : nO ≤ 7) (h7' : nA ≤ 7) (n4 : nm 4 = nI nO) (n5 : nm 5 = nI nA) : ∀ (j o n n' k : Nat) (p g : Int32) (gv : Nat → Int32), o + j = nO → j < n → j < n' → k < 2 ^ nA → ∃ p' g' gv', fX2_solve_101 (nI nO) (nI nA) s bt n (nI k) (nI o) p g gv = some (p', g', bt, gv') ∧ (∀ t, t < o → gv' t = gv t) ∧ (∀ v, (v = 0 ∨ v = 1) → fX7_match_43 v nm rm tm lm bm (fun a b => fX7_match_161 v a b bm) n' p g (nI k) (nI o) = some (if v = 0 then p' else g', bm)) ∧ ∀ t, o ≤ t → t < nO → fX7_match_43 (nI (10 + t)) nm rm tm lm bm (fun a b => fX7_match_161 (nI (10 + t)) a b bm) n' p g (nI k) (nI o) = some (gv' t, bm) := by
  have h128 : 2 ^ nA ≤ 2 ^ 7 := Nat.pow_le_pow_right (by decide) h7'
  have i4 : ix (4 : Int32) 10 = true := by decide
  have c4 : (4 : Int32).toNatClampNeg = 4 := rfl
  have i5 : ix (5 : Int32) 10 = true := by decide
  have c5 : (5 : Int32).toNatClampNeg = 5 := rfl
  intro j
  induction j with
  | zero =>
    intro o n n' k p g gv h1 h2 h3 hk
    obtain ⟨n, rfl⟩ : ∃ x, n = x + 1 := ⟨n - 1, by omega⟩
    obtain ⟨n', rfl⟩ : ∃ x, n' = x + 1 := ⟨n' - 1, by omega⟩
    obtain rfl : o = nO := by omega
    refine ⟨p, g, gv, ?_, fun t ht => rfl, fun v hv => ?_, fun t h4 h5 => absurd h4 (by omega)⟩
    · rw [fX2_solve_101, if_pos (nI_le (Nat.le_refl _) (by omega))]
    · rw [fX7_match_43, gdt i4, c4, n4, if_pos (nI_le (Nat.le_refl _) (by omega))]
      rcases hv with rfl | rfl <;> rfl
  | succ j ih =>
    intro o n n' k p g gv h1 h2 h3 hk
    obtain ⟨n, rfl⟩ : ∃ x, n = x + 1 := ⟨n - 1, by omega⟩
    obtain ⟨n', rfl⟩ : ∃ x, n' = x + 1 := ⟨n' - 1, by omega⟩
    have ho : o < nO := by omega
    obtain ⟨r, r1, r2⟩ := pick6 hS hsc hB ho h7 h7' hk
    have ref : ∀ v, fX7_match_43 v nm rm tm lm bm (fun a b => fX7_match_161 v a b bm) (n' + 1) p g (nI k) (nI o) = fX7_match_115 (fun v2 v3 v4 v5 => fX7_match_43 v nm rm tm lm bm (fun a b => fX7_match_161 v a b bm) n' v2 v3 v4 v5) v p g (nI k) (nI o) r tm bm := by
      intro v
      obtain ⟨r', r3, r4⟩ := pick7 hG hsc hM ho h7 h7' (show k < 128 by omega) (fun v6 => fX7_match_115 (fun v2 v3 v4 v5 => fX7_match_43 v nm rm tm lm bm (fun a b => fX7_match_161 v a b bm) n' v2 v3 v4 v5) v p g (nI k) (nI o) v6 tm bm)
      rw [fX7_match_43, gdt i4, c4, n4, if_neg (nI_ge ho (by omega)), gdt i5, c5, n5, r4, PK_one r3 r2]
    have cls : fX2_solve_101 (nI nO) (nI nA) s bt (n + 1) (nI k) (nI o) p g gv = (if r < (0 : Int32) then fX2_solve_101 (nI nO) (nI nA) s bt n (nI k) (nI (o + 1)) p g (upd gv o r) else (gd (ix (nI o) 7) <| gd (ix ((nI o * (7 : Int32)) + r) 49) <| gd (ix (nI o) 7) <| fX2_solve_101 (nI nO) (nI nA) s bt n (nI k ||| (ishl (1 : Int32) r)) (nI (o + 1)) (p + (1 : Int32)) (g + ((10000 : Int32) - (s ((nI o * (7 : Int32)) + r).toNatClampNeg))) (upd gv o r))) := by
      rw [fX2_solve_101, if_neg (nI_ge ho (by omega)), r1, bn1S, ixN (show o < 7 by omega) (by decide), gdT, gdT, cl _ (by omega), upd_same]
      simp only [fX2_solve_180, nI_1]
    have fresh : ∀ (gv' : Nat → Int32), (∀ t, t < o + 1 → gv' t = upd gv o r t) → (∀ t, t < o → gv' t = gv t) ∧ gv' o = r := by
      intro gv' hg
      refine ⟨fun t ht => ?_, ?_⟩
      · rw [hg t (by omega), upd_ne _ _ (by omega)]
      · rw [hg o (by omega), upd_same]
    have e10 : ∀ t, t < nO → (nI (10 + t) = 10 + nI o ↔ t = o) := by
      intro t ht
      rw [show (10 : Int32) + nI o = nI (10 + o) from nI_add 10 o, nI_eq (by omega) (by omega)]
      omega
    have e01 : ∀ v : Int32, (v = 0 ∨ v = 1) → ¬ v = 10 + nI o := by
      intro v hv
      rw [show (10 : Int32) + nI o = nI (10 + o) from nI_add 10 o]
      rcases hv with rfl | rfl
      · exact nI_neq (a := 0) (by omega) (by omega) (by omega)
      · exact nI_neq (a := 1) (by omega) (by omega) (by omega)
    rcases r2 with ⟨rfl, -⟩ | ⟨w, hw, rfl, hgood, -⟩
    · obtain ⟨p', g', gv', q1, q2, q3, q4⟩ := ih (o + 1) n n' k p g (upd gv o (-3)) (by omega) (by omega) (by omega) hk
      obtain ⟨f1, f2⟩ := fresh gv' q2
      have nx : ∀ v, ¬ v = 10 + nI o → fX7_match_43 v nm rm tm lm bm (fun a b => fX7_match_161 v a b bm) (n' + 1) p g (nI k) (nI o) = fX7_match_43 v nm rm tm lm bm (fun a b => fX7_match_161 v a b bm) n' p g (nI k) (nI (o + 1)) := by
        intro v hv
        rw [ref, fX7_match_115, if_neg hv, if_pos (by decide)]
        simp only [fX7_match_155, nI_1]
      refine ⟨p', g', gv', ?_, f1, fun v hv => ?_, fun t h4 h5 => ?_⟩
      · rw [cls, if_pos (by decide)]; exact q1
      · rw [nx v (e01 v hv)]; exact q3 v hv
      · by_cases e : t = o
        · subst e
          rw [ref, fX7_match_115, if_pos ((e10 t h5).2 rfl), f2]
        · rw [nx _ (fun z => e ((e10 t h5).1 z))]; exact q4 t (by omega) h5
    · obtain ⟨hg1, hg2, -⟩ := hgood
      obtain ⟨p', g', gv', q1, q2, q3, q4⟩ := ih (o + 1) n n' (k ||| 2 ^ w) (p + 1) (g + nI (gp o w)) (upd gv o (nI w)) (by omega) (by omega) (by omega) (bit_or hk hw)
      obtain ⟨f1, f2⟩ := fresh gv' q2
      rcases hG o w ho hw with ⟨z, -⟩ | ⟨z1, z2, z3, z4⟩
      · exact absurd z hg2
      rcases hS o w ho hw with ⟨z, -⟩ | ⟨-, z5⟩
      · exact absurd z hg2
      have nx : ∀ v, ¬ v = 10 + nI o → fX7_match_43 v nm rm tm lm bm (fun a b => fX7_match_161 v a b bm) (n' + 1) p g (nI k) (nI o) = fX7_match_43 v nm rm tm lm bm (fun a b => fX7_match_161 v a b bm) n' (p + 1) (g + nI (gp o w)) (nI (k ||| 2 ^ w)) (nI (o + 1)) := by
        intro v hv
        rw [ref, fX7_match_115, if_neg hv, if_neg (nlt0 w (by omega)), z4, bn1S, shl_at (by omega), fa_or]
        simp only [fX7_match_155, nI_1]
      refine ⟨p', g', gv', ?_, f1, fun v hv => ?_, fun t h4 h5 => ?_⟩
      · rw [cls, if_neg (nlt0 w (by omega)), ixN (show o < 7 by omega) (by decide), gdT, gdT, show nI o * 7 + nI w = nI (o * 7 + w) by rw [show nI o * 7 = nI (o * 7) from pk_mul o 7, nI_add], ixN (by omega) (by decide), gdT, shl_at (by omega), fa_or, cl _ (by omega), Nat.mul_comm o 7, z5, z1, show (10000 : Int32) - nI (10000 - gp o w) = nI (gp o w) by
          rw [show (10000 : Int32) - nI (10000 - gp o w) = nI (10000 - (10000 - gp o w)) from pk_sub (a := 10000) (by omega)]
          congr 1
          omega]
        exact q1
      · rw [nx v (e01 v hv)]; exact q3 v hv
      · by_cases e : t = o
        · subst e
          rw [ref, fX7_match_115, if_pos ((e10 t h5).2 rfl), f2]
        · rw [nx _ (fun z => e ((e10 t h5).1 z))]; exact q4 t (by omega) h5
