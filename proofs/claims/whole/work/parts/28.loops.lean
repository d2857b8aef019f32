/-! TWO LOOPS, side by side -/
theorem pair_loop {σ σ' R R' : Type} (g : Nat → Int32 → σ → Option R) (g' : Nat → Int32 → σ' → Option R') (n : Nat) (Rel : Nat → σ → σ' → Prop) (Post : R → R' → Prop)
    (hx : ∀ m m' a a', Rel n a a' → ∃ r r', g (m + 1) (nI n) a = some r ∧ g' (m' + 1) (nI n) a' = some r' ∧ Post r r')
    (hs : ∀ m m' i a a', i < n → Rel i a a' → (∃ r r', g (m + 1) (nI i) a = some r ∧ g' (m' + 1) (nI i) a' = some r' ∧ Post r r') ∨ ∃ b b', g (m + 1) (nI i) a = g m (nI (i + 1)) b ∧ g' (m' + 1) (nI i) a' = g' m' (nI (i + 1)) b' ∧ Rel (i + 1) b b') :
    ∀ (k i m m' : Nat) (a : σ) (a' : σ'), i + k = n → Rel i a a' → k < m → k < m' → ∃ r r', g m (nI i) a = some r ∧ g' m' (nI i) a' = some r' ∧ Post r r' := by
  intro k
  induction k with
  | zero =>
    intro i m m' a a' hi hr hm hm'
    obtain ⟨m, rfl⟩ : ∃ q, m = q + 1 := ⟨m - 1, by omega⟩
    obtain ⟨m', rfl⟩ : ∃ q, m' = q + 1 := ⟨m' - 1, by omega⟩
    obtain rfl : i = n := by omega
    exact hx m m' a a' hr
  | succ k ih =>
    intro i m m' a a' hi hr hm hm'
    obtain ⟨m, rfl⟩ : ∃ q, m = q + 1 := ⟨m - 1, by omega⟩
    obtain ⟨m', rfl⟩ : ∃ q, m' = q + 1 := ⟨m' - 1, by omega⟩
    rcases hs m m' i a a' (by omega) hr with h | ⟨b, b', h1, h2, h3⟩
    · exact h
    · rw [h1, h2]
      exact ih (i + 1) m m' b b' (by omega) h3 (by omega) (by omega)
theorem FU_eq : FU = 1000000 := rfl
theorem sz_at (x : Int32) : fX4_size x = some x := rfl
/-! what a USE is worth -/
theorem maxmul (x y : Int32) : imax 0 x * y = if x ≤ 0 then 0 else x * y := by
  unfold imax
  by_cases h : x ≤ 0
  · rw [if_pos h, if_neg (fun q => (fa_of_lt q).2.1 h)]
    exact Int32.zero_mul
  · rw [if_neg h, if_pos (fa_of_nle h)]
theorem worth_at {nU nB u : Nat} {f m : Nat → Int32} {E4 E5 E14 : Int32} {nm : Nat → Int32} (hU : RUse nU nB f m) (hu : u < nU) (h40 : nU ≤ 40) (e14 : E14 = nI nU) (n7 : nm 7 = E4) (n8 : nm 8 = E5) : ∃ r, fX6_useWorth (nI u) E4 E5 E14 f = some r ∧ fX7_worthOf (nI u) nm m = some r := by
  obtain ⟨bx, ln, fr, to, kn, hh, x0, x1, x2, x3, x4, x5⟩ := hU u hu
  refine ⟨imax 0 (nI to - nI fr + 1 - E5) * E4, ?_, ?_⟩
  · unfold fX6_useWorth
    rw [e14, show fX4_cell (nI u) 3 6 (nI nU) 240 f = some (f (6 * u + 3)) from cell_at (c := 3) (cols := 6) hu (by decide) (by omega) (by omega) (by decide) (by decide), bn1S, show fX4_cell (nI u) 2 6 (nI nU) 240 f = some (f (6 * u + 2)) from cell_at (c := 2) (cols := 6) hu (by decide) (by omega) (by omega) (by decide) (by decide), bn1S, x2.1, x3.1]
  · unfold fX7_worthOf
    rw [show (6 : Int32) * nI u + 3 = nI (6 * u + 3) from ax 6 u 3, show (6 : Int32) * nI u + 2 = nI (6 * u + 2) from ax 6 u 2, ixN (by omega) (by decide), gdT, ixN (by omega) (by decide), gdT, gdt (show ix (8 : Int32) 10 = true by decide), cl _ (by omega), cl _ (by omega), x2.2, x3.2, show (8 : Int32).toNatClampNeg = 8 from rfl, n8, maxmul, gdt (show ix (7 : Int32) 10 = true by decide), show (7 : Int32).toNatClampNeg = 7 from rfl, n7]
    by_cases c : nI to - nI fr + 1 - E5 ≤ 0
    · rw [if_pos c, if_pos c]
    · rw [if_neg c, if_neg c]
theorem op_strike : Op_strike Inv := by
  intro E F M N v h
  obtain ⟨⟨td, lk, rt, fr, nB, nW, nR, nO, nA, nU, ⟨hd, hn, hb⟩, hBox, hWo, hWe, hRo, hOf, hWa, hLv, hLs, hUs⟩, hK, hT, hP⟩ := id h
  have e2 : E 2 = nI td := hd.1
  have e4 : E 4 = nI rt := hd.2.2.1
  have e5 : E 5 = nI fr := hd.2.2.2.1
  have e14 : E 14 = nI nU := hd.2.2.2.2.2.2.2.2.2.2.2.2
  have n0 : N 0 0 = nI td := hn.1
  have n6 : N 0 6 = nI nU := hn.2.2.2.2.2.2.1
  have n7 : N 0 7 = E 4 := hn.2.2.2.2.2.2.2.1.trans e4.symm
  have n8 : N 0 8 = E 5 := hn.2.2.2.2.2.2.2.2.1.trans e5.symm
  have no : ∀ r : Int32, fX6_strike v (E 2) (E 4) (E 5) (E 14) (F 8) = some (r, F 8) → fX7_strike v (N 0) (N 8) = some (r, N 8) → ∃ (r : Int32) (z1 z2 : Nat → Int32), fX6_strike v (E 2) (E 4) (E 5) (E 14) (F 8) = some (r, z1) ∧ fX7_strike v (N 0) (N 8) = some (r, z2) ∧ Inv E (va_up F 8 z1) M (va_up N 8 z2) := by
    intro r P1 P2
    refine ⟨r, F 8, N 8, P1, P2, ?_⟩
    rw [up_self, up_self]; exact h
  have m0 : fX7_strike v (N 0) (N 8) = bn1 (fX7_in v 0 (nI nU - 1)) fun r9 => if r9 = 0 then some (-1, N 8) else gd (ix (6 * v + 5) 240) (if N 8 (6 * v + 5).toNatClampNeg < 0 then gd (ix 0 10) (gd (ix (6 * v + 5) 240) (bn1 (fX7_worthOf v (N 0) (upd (N 8) (6 * v + 5).toNatClampNeg (N 0 (0 : Int32).toNatClampNeg))) fun r34 => some (r34, upd (N 8) (6 * v + 5).toNatClampNeg (N 0 (0 : Int32).toNatClampNeg)))) else some (-4, N 8)) := by
    unfold fX7_strike
    rw [gdt (show ix (6 : Int32) 10 = true by decide), show (6 : Int32).toNatClampNeg = 6 from rfl, n6]
  rcases tRow v nU (by omega) with ⟨a1, a2⟩ | ⟨u, hu, rfl, a1, a2⟩
  · refine no (-1) ?_ ?_
    · simp [fX6_strike, e14, a1, bn1S]
    · rw [m0, a2, bn1S, if_pos rfl]
  obtain ⟨bx, ln, f0, to, kn, hh, x0, x1, x2, x3, x4, x5⟩ := hUs u hu
  have c5 : fX4_cell (nI u) 5 6 (nI nU) 240 (F 8) = some (F 8 (6 * u + 5)) := cell_at (c := 5) (cols := 6) hu (by decide) (by omega) (by omega) (by decide) (by decide)
  have i5 : (6 : Int32) * nI u + 5 = nI (6 * u + 5) := ax 6 u 5
  rcases x5 with ⟨s1, s2⟩ | ⟨sd, hsd, s1, s2⟩
  · have hU' : RUse nU nB (upd (F 8) (6 * u + 5) (nI td)) (upd (N 8) (6 * u + 5) (nI td)) := by
      intro w hw
      obtain ⟨a, b, c, d, e, gg, y0, y1, y2, y3, y4, y5⟩ := hUs w hw
      refine ⟨a, b, c, d, e, gg, ?_, ?_, ?_, ?_, ?_, ?_⟩
      · rw [upd_ne _ _ (by omega), upd_ne _ _ (by omega)]; exact y0
      · rw [upd_ne _ _ (by omega), upd_ne _ _ (by omega)]; exact y1
      · rw [upd_ne _ _ (by omega), upd_ne _ _ (by omega)]; exact y2
      · rw [upd_ne _ _ (by omega), upd_ne _ _ (by omega)]; exact y3
      · rw [upd_ne _ _ (by omega), upd_ne _ _ (by omega)]; exact y4
      · by_cases hwu : w = u
        · subst hwu
          exact Or.inr ⟨td, by omega, upd_same _ _ _, upd_same _ _ _⟩
        · rw [upd_ne _ _ (by omega), upd_ne _ _ (by omega)]; exact y5
    obtain ⟨r, w1, w2⟩ := worth_at hU' hu (by omega) e14 n7 n8
    refine ⟨r, upd (F 8) (6 * u + 5) (nI td), upd (N 8) (6 * u + 5) (nI td), ?_, ?_, ?_⟩
    · simp only [fX6_strike, e14, a1, bn1S, eq10, if_false, c5, s1, if_true]
      rw [show fX4_put (nI u) 5 (E 2) 6 (nI nU) 240 (F 8) = some (upd (F 8) (6 * u + 5) (E 2)) from put_at (c := 5) (cols := 6) hu (by decide) (by omega) (by omega) (by decide) (by decide), bn1S, e2, ← e14, w1, bn1S]
    · rw [m0, a2, bn1S, if_neg (by decide), i5, ixN (by omega) (by decide), gdT, cl _ (by omega), s2, if_pos (by decide), gdt (show ix (0 : Int32) 10 = true by decide), gdT, clL0, n0, w2, bn1S]
    · refine Inv_desk h ⟨td, lk, rt, fr, nB, nW, nR, nO, nA, nU, ⟨by simpa [va_up] using hd, by simpa [va_up] using hn, hb⟩, by simpa [va_up] using hBox, by simpa [va_up] using hWo, by simpa [va_up] using hWe, by simpa [va_up] using hRo, by simpa [va_up] using hOf, by simpa [va_up] using hWa, by simpa [va_up] using hLv, by simpa [va_up] using hLs, hU'⟩ rfl (fun i hi => rfl) (fun k hk => up_ge (by decide) hk) rfl rfl rfl rfl (RP_same hP rfl rfl rfl rfl rfl rfl rfl)
  · refine no (-4) ?_ ?_
    · simp only [fX6_strike, e14, a1, bn1S, eq10, if_false, c5, s1]
      rw [if_neg (show ¬ nI sd = 201 from nI_neq (b := 201) (by omega) (by omega) (by decide))]
    · rw [m0, a2, bn1S, if_neg (by decide), i5, ixN (by omega) (by decide), gdT, cl _ (by omega), s2, if_neg (nlt0 sd (by omega))]
/-- what a LINE owes another -/
theorem debt_at {nU nB : Nat} {f m bf bm : Nat → Int32} {E4 E5 E6 E14 : Int32} {nm : Nat → Int32} (hU : RUse nU nB f m) (hB : RBox nB bf bm) (h40 : nU ≤ 40) (h24 : nB ≤ 24) (e6 : E6 = nI nB) (e14 : E14 = nI nU) (n6 : nm 6 = nI nU) (n7 : nm 7 = E4) (n8 : nm 8 = E5) (v1 v2 : Int32) {k : Nat} (hk : k ≤ 200) : ∃ r, fX6_debt v1 v2 (nI k) E4 E5 E6 bf E14 f = some r ∧ fX7_owesOf v1 v2 (nI k) nm bm m = some r := by
  have main := pair_loop (fun n i a => fX6_debt_6 v1 v2 (nI k) E4 E5 E6 bf E14 f n a i) (fun n i a => fX7_owesOf_6 v1 v2 (nI k) nm bm m n a i) nU (fun _ a a' => a = a') (fun r r' => r = r') ?_ ?_ nU 0 FU FU 0 0 (by omega) rfl (by rw [FU_eq]; omega) (by rw [FU_eq]; omega)
  · obtain ⟨r, r', h1, h2, rfl⟩ := main
    exact ⟨r, h1, h2⟩
  · intro n n' a a' e
    subst e
    refine ⟨a, a, ?_, ?_, rfl⟩
    · show fX6_debt_6 v1 v2 (nI k) E4 E5 E6 bf E14 f (n + 1) a (nI nU) = some a
      rw [fX6_debt_6, sz_at, bn1S, e14, if_pos (nI_le (Nat.le_refl _) (by omega))]
    · show fX7_owesOf_6 v1 v2 (nI k) nm bm m (n' + 1) a (nI nU) = some a
      rw [fX7_owesOf_6, gdt (show ix (6 : Int32) 10 = true by decide), show (6 : Int32).toNatClampNeg = 6 from rfl, n6, if_pos (nI_le (Nat.le_refl _) (by omega))]
  · intro n n' i a a' hi e
    subst e
    obtain ⟨bx, ln, f0, to, kn, hh, x0, x1, x2, x3, x4, x5⟩ := hU i hi
    obtain ⟨mk, kd, bl, cm, ft, hh2, -, -, y2, -⟩ := hB bx (by omega)
    obtain ⟨w, w1, w2⟩ := worth_at hU hi h40 e14 n7 n8
    right
    have kc : ∀ (c : Nat) (hc : c < 6), fX4_cell (nI i) (nI c) (nI 6) E14 240 f = some (f (6 * i + c)) := fun c hc => by rw [e14]; exact cell_at hi hc (by omega) (by omega) (by decide) (by decide)
    have q0 : fX4_cell (nI i) 0 6 E14 240 f = some (nI bx) := by rw [show fX4_cell (nI i) 0 6 E14 240 f = _ from kc 0 (by decide), Nat.add_zero, x0.1]
    have q1 : fX4_cell (nI i) 1 6 E14 240 f = some (nI ln) := by rw [show fX4_cell (nI i) 1 6 E14 240 f = _ from kc 1 (by decide), x1.1]
    have q4 : fX4_cell (nI i) 4 6 E14 240 f = some (nI kn) := by rw [show fX4_cell (nI i) 4 6 E14 240 f = _ from kc 4 (by decide), x4.1]
    have q5 : fX4_cell (nI i) 5 6 E14 240 f = some (f (6 * i + 5)) := kc 5 (by decide)
    have qb : fX4_cell (nI bx) 2 9 E6 216 bf = some (nI bl) := by rw [e6, show fX4_cell (nI bx) 2 9 (nI nB) 216 bf = some (bf (9 * bx + 2)) from cell_at (c := 2) (cols := 9) (by omega) (by decide) (by omega) (by omega) (by decide) (by decide), y2.1]
    have gb : fX7_get (nI bx) 2 bm = some (nI bl) := by rw [show fX7_get (nI bx) 2 bm = _ from get_at (k := 2) (by omega), y2.2]
    have j0 : (6 : Int32) * nI i = nI (6 * i) := pk_mul 6 i
    have j1 : (6 : Int32) * nI i + 1 = nI (6 * i + 1) := ax 6 i 1
    have j4 : (6 : Int32) * nI i + 4 = nI (6 * i + 4) := ax 6 i 4
    have j5 : (6 : Int32) * nI i + 5 = nI (6 * i + 5) := ax 6 i 5
    -- is it known on day k?
    have kn1 : fX6_isUseKnown (nI i) (nI k) E14 f = some (if kn ≤ k ∧ (m (6 * i + 5) < 0 ∨ nI k < m (6 * i + 5)) then 1 else 0) := by
      unfold fX6_isUseKnown
      rw [q4, bn1S, q5, bn1S]
      by_cases c : kn ≤ k
      · rw [if_neg (nI_nlt c (by omega))]
        rcases x5 with ⟨s1, s2⟩ | ⟨sd, hsd, s1, s2⟩
        · rw [s1, s2, if_neg (show ¬ (201 : Int32) ≤ nI k from nI_ge (b := 201) (by omega) (by decide)), if_pos ⟨c, Or.inl (by decide)⟩]
        · rw [s1, s2]
          by_cases c2 : sd ≤ k
          · rw [if_pos (nI_le c2 (by omega)), if_neg]
            rintro ⟨-, z | z⟩
            · exact nlt0 sd (by omega) z
            · exact nI_nlt c2 (by omega) z
          · rw [if_neg (nI_ge (by omega) (by omega)), if_pos ⟨c, Or.inr (nI_lt (by omega) (by omega))⟩]
      · rw [if_pos (nI_lt (by omega) (by omega)), if_neg (fun z => c z.1)]
    have e1 : fX6_debt_6 v1 v2 (nI k) E4 E5 E6 bf E14 f (n + 1) a (nI i) = fX6_debt_6 v1 v2 (nI k) E4 E5 E6 bf E14 f n (a + (if nI ln = v1 ∧ nI bl = v2 ∧ kn ≤ k ∧ (m (6 * i + 5) < 0 ∨ nI k < m (6 * i + 5)) then w else 0)) (nI (i + 1)) := by
      rw [fX6_debt_6, sz_at, bn1S, e14, if_neg (nI_ge hi (by omega)), ← e14, q0, bn1S, qb, bn1S, q1, bn1S, kn1, bn1S, w1, bn1S]
      simp only [fX6_debt_91, nI_1]
      by_cases c1 : nI ln = v1
      · by_cases c2 : nI bl = v2
        · by_cases c3 : kn ≤ k ∧ (m (6 * i + 5) < 0 ∨ nI k < m (6 * i + 5))
          · rw [if_pos c1, if_pos c2, if_pos c3, if_neg (by decide), if_pos ⟨c1, c2, c3⟩]
          · rw [if_pos c1, if_pos c2, if_neg c3, if_pos rfl, if_neg (fun z => c3 z.2.2), Int32.add_zero]
        · rw [if_pos c1, if_neg c2, if_neg (fun z => c2 z.2.1), Int32.add_zero]
      · rw [if_neg c1, if_neg (fun z => c1 z.1), Int32.add_zero]
    have e2 : fX7_owesOf_6 v1 v2 (nI k) nm bm m (n' + 1) a (nI i) = fX7_owesOf_6 v1 v2 (nI k) nm bm m n' (a + (if nI ln = v1 ∧ nI bl = v2 ∧ kn ≤ k ∧ (m (6 * i + 5) < 0 ∨ nI k < m (6 * i + 5)) then w else 0)) (nI (i + 1)) := by
      rw [fX7_owesOf_6, gdt (show ix (6 : Int32) 10 = true by decide), show (6 : Int32).toNatClampNeg = 6 from rfl, n6, if_neg (nI_ge hi (by omega)), j5, j1, j0, ixN (by omega) (by decide), gdT, ixN (by omega) (by decide), gdT, ixN (by omega) (by decide), gdT, cl _ (by omega), cl _ (by omega), cl _ (by omega), x1.2, x0.2, gb, bn1S]
      simp only [fX7_owesOf_71, fX7_owesOf_72, fX7_owesOf_110, fX7_owesOf_106, fX7_owesOf_111, fX7_owesOf_130, eq00, if_true, eq10, if_false, nI_1, j4, w2, bn1S]
      rw [ixN (show 6 * i + 4 < 240 by omega) (by decide), gdT, cl _ (by omega), x4.2]
      by_cases c1 : nI ln = v1
      · by_cases c2 : nI bl = v2
        · rw [if_pos c1, if_pos c2]
          by_cases c3 : kn ≤ k
          · rw [if_neg (nI_nlt c3 (by omega))]
            by_cases c4 : m (6 * i + 5) < 0
            · rw [if_pos c4, if_pos ⟨c1, c2, c3, Or.inl c4⟩]
            · rw [if_neg c4]
              by_cases c5 : m (6 * i + 5) ≤ nI k
              · rw [if_pos c5, if_neg]
                rintro ⟨-, -, -, z | z⟩
                · exact c4 z
                · exact (fa_of_lt z).2.1 c5
              · rw [if_neg c5, if_pos ⟨c1, c2, c3, Or.inr (fa_of_nle c5)⟩]
          · rw [if_pos (nI_lt (by omega) (by omega)), if_neg (fun z => c3 z.2.2.1)]
        · rw [if_pos c1, if_neg c2, if_neg (fun z => c2 z.2.1)]
      · rw [if_neg c1, if_neg (fun z => c1 z.1)]
    exact ⟨_, _, e1, e2, rfl⟩
theorem op_owes : Op_owes Inv := by
  intro E F M N v1 v2 v3 h
  obtain ⟨⟨td, lk, rt, fr, nB, nW, nR, nO, nA, nU, ⟨hd, hn, hb⟩, hBox, hWo, hWe, hRo, hOf, hWa, hLv, hLs, hUs⟩, hK, hT, hP⟩ := id h
  have e2 : E 2 = nI td := hd.1
  have e4 : E 4 = nI rt := hd.2.2.1
  have e5 : E 5 = nI fr := hd.2.2.2.1
  have e6 : E 6 = nI nB := hd.2.2.2.2.1
  have e14 : E 14 = nI nU := hd.2.2.2.2.2.2.2.2.2.2.2.2
  have n6 : N 0 6 = nI nU := hn.2.2.2.2.2.2.1
  have n7 : N 0 7 = E 4 := hn.2.2.2.2.2.2.2.1.trans e4.symm
  have n8 : N 0 8 = E 5 := hn.2.2.2.2.2.2.2.2.1.trans e5.symm
  rcases tLine v1 with ⟨a1, a2⟩ | ⟨i, hi, rfl, a1, a2⟩
  · exact ⟨-1, by simp [fX6_owes, a1, bn1S], by simp [fX7_owes, a2, bn1S], h⟩
  rcases tLine v2 with ⟨b1, b2⟩ | ⟨j, hj, rfl, b1, b2⟩
  · exact ⟨-1, by simp [fX6_owes, a1, b1, bn1S], by simp [fX7_owes, a2, b2, bn1S], h⟩
  rcases tPast v3 e2 hn.1 (by omega) with ⟨c1, c2⟩ | ⟨k, hk, rfl, c1, c2⟩
  · exact ⟨-1, by simp [fX6_owes, a1, b1, c1, bn1S], by simp [fX7_owes, a2, b2, c2, bn1S], h⟩
  obtain ⟨r, r1, r2⟩ := debt_at hUs hBox (by omega) (by omega) e6 e14 n6 n7 n8 (nI i) (nI j) (k := k) (by omega)
  exact ⟨r, by simp [fX6_owes, a1, b1, c1, bn1S, r1], by simp [fX7_owes, a2, b2, c2, bn1S, r2], h⟩
theorem op_net : Op_net Inv := by
  intro E F M N v1 v2 h
  obtain ⟨⟨td, lk, rt, fr, nB, nW, nR, nO, nA, nU, ⟨hd, hn, hb⟩, hBox, hWo, hWe, hRo, hOf, hWa, hLv, hLs, hUs⟩, hK, hT, hP⟩ := id h
  have e2 : E 2 = nI td := hd.1
  have e4 : E 4 = nI rt := hd.2.2.1
  have e5 : E 5 = nI fr := hd.2.2.2.1
  have e6 : E 6 = nI nB := hd.2.2.2.2.1
  have e14 : E 14 = nI nU := hd.2.2.2.2.2.2.2.2.2.2.2.2
  have n6 : N 0 6 = nI nU := hn.2.2.2.2.2.2.1
  have n7 : N 0 7 = E 4 := hn.2.2.2.2.2.2.2.1.trans e4.symm
  have n8 : N 0 8 = E 5 := hn.2.2.2.2.2.2.2.2.1.trans e5.symm
  rcases tLine v1 with ⟨a1, a2⟩ | ⟨i, hi, rfl, a1, a2⟩
  · exact ⟨-1, by simp [fX6_net, a1, bn1S], by simp [fX7_net, a2, bn1S], h⟩
  rcases tPast v2 e2 hn.1 (by omega) with ⟨c1, c2⟩ | ⟨k, hk, rfl, c1, c2⟩
  · exact ⟨-1, by simp [fX6_net, a1, c1, bn1S], by simp [fX7_net, a2, c2, bn1S], h⟩
  have main := pair_loop (fun n i' a => fX6_net_24 (nI i) (nI k) (E 4) (E 5) (E 6) (F 0) (E 14) (F 8) n a i') (fun n i' a => fX7_net_23 (nI i) (nI k) (N 0) (N 1) (N 8) n a i') 4 (fun _ a a' => a = a') (fun r r' => r = r') ?_ ?_ 4 0 FU FU 1000000 1000000 (by omega) rfl (by rw [FU_eq]; omega) (by rw [FU_eq]; omega)
  · obtain ⟨r, r', h1, h2, rfl⟩ := main
    refine ⟨r, ?_, ?_, h⟩
    · simp only [fX6_net, a1, c1, bn1S, eq10, if_false]
      exact h1
    · simp only [fX7_net, a2, c2, bn1S, eq10, if_false]
      exact h2
  · intro n n' a a' e
    subst e
    refine ⟨a, a, ?_, ?_, rfl⟩
    · show fX6_net_24 _ _ _ _ _ _ _ _ (n + 1) a (nI 4) = some a
      rw [fX6_net_24, if_pos (show (4 : Int32) ≤ nI 4 from nI_le (a := 4) (Nat.le_refl _) (by decide))]
    · show fX7_net_23 _ _ _ _ _ (n' + 1) a (nI 4) = some a
      rw [fX7_net_23, if_pos (show (4 : Int32) ≤ nI 4 from nI_le (a := 4) (Nat.le_refl _) (by decide))]
  · intro n n' j a a' hj e
    subst e
    right
    obtain ⟨r, r1, r2⟩ := debt_at hUs hBox (by omega) (by omega) e6 e14 n6 n7 n8 (nI j) (nI i) (k := k) (by omega)
    obtain ⟨s, s1, s2⟩ := debt_at hUs hBox (by omega) (by omega) e6 e14 n6 n7 n8 (nI i) (nI j) (k := k) (by omega)
    refine ⟨a + (r - s), a + (r - s), ?_, ?_, rfl⟩
    · show fX6_net_24 _ _ _ _ _ _ _ _ (n + 1) a (nI j) = _
      rw [fX6_net_24, if_neg (show ¬ (4 : Int32) ≤ nI j from nI_ge (b := 4) (by omega) (by decide)), r1, bn1S, s1, bn1S, nI_1]
    · show fX7_net_23 _ _ _ _ _ (n' + 1) a (nI j) = _
      rw [fX7_net_23, if_neg (show ¬ (4 : Int32) ≤ nI j from nI_ge (b := 4) (by omega) (by decide)), r2, bn1S, s2, bn1S, nI_1]
