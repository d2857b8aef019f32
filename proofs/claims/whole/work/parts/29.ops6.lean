theorem op_many : Op_many Inv := by
  intro E F M N v h
  obtain ⟨⟨td, lk, rt, fr, nB, nW, nR, nO, nA, nU, ⟨hd, hn, hb⟩, hBox, hWo, hWe, hRo, hOf, hWa, hLv, hLs, hUs⟩, hK, ⟨mn, hT1, hT2, hT3, hT4⟩, hP⟩ := id h
  obtain ⟨d0, d1, d2, d3, d4, d5, d6, d7, d8, d9, d10, d11, d12⟩ := hd
  obtain ⟨n0, n1, n2, n3, n4, n5, n6, n7, n8, n9⟩ := hn
  have e2 : E 2 = nI td := d0
  have e6 : E 6 = nI nB := d4
  have e7 : E 7 = nI nW := d5
  have e9 : E 9 = nI nR := d7
  have e10 : E 10 = nI nO := d8
  have e11 : E 11 = nI nA := d9
  have e13 : E 13 = nI 3 := d11
  have e14 : E 14 = nI nU := d12
  have q : ∀ k : Nat, k < 10 → ix (nI k) 10 = true := fun k hk => ixN hk (by decide)
  -- leases that were read
  have leases : ∃ r, fX6_leasesRead (E 13) (F 7) = some r ∧ fX7_many_101 (N 7) FU 0 0 = some r := by
    have main := pair_loop (fun n i a => fX6_leasesRead_4 (E 13) (F 7) n a i) (fun n i a => fX7_many_101 (N 7) n a i) 3 (fun _ a a' => a = a') (fun r r' => r = r') ?_ ?_ 3 0 FU FU 0 0 (by omega) rfl (by rw [FU_eq]; omega) (by rw [FU_eq]; omega)
    · obtain ⟨r, r', h1, h2, rfl⟩ := main
      exact ⟨r, h1, h2⟩
    · intro n n' a a' e
      subst e
      refine ⟨a, a, ?_, ?_, rfl⟩
      · show fX6_leasesRead_4 (E 13) (F 7) (n + 1) a (nI 3) = some a
        rw [fX6_leasesRead_4, if_pos (show (3 : Int32) ≤ nI 3 by decide)]
      · show fX7_many_101 (N 7) (n' + 1) a (nI 3) = some a
        rw [fX7_many_101, if_pos (show (3 : Int32) ≤ nI 3 by decide)]
    · intro n n' i a a' hi e
      subst e
      right
      obtain ⟨-, wr, hwr, q1, q2⟩ := hLs i hi
      have ew : fX6_wasRead (nI i) (E 13) (F 7) = some (nI wr) := by
        unfold fX6_wasRead
        rw [e13, show fX4_cell (nI i) 16 17 (nI 3) 51 (F 7) = some (F 7 (17 * i + 16)) from cell_at (c := 16) (cols := 17) (by omega) (by decide) (by omega) (by decide) (by decide) (by decide), bn1S, q1]
        rcases (show wr = 0 ∨ wr = 1 by omega) with rfl | rfl <;> rfl
      refine ⟨a + nI wr, a + nI wr, ?_, ?_, rfl⟩
      · show fX6_leasesRead_4 (E 13) (F 7) (n + 1) a (nI i) = _
        rw [fX6_leasesRead_4, if_neg (show ¬ (3 : Int32) ≤ nI i from nI_ge (b := 3) (by omega) (by decide)), ew, bn1S]
        simp only [fX6_leasesRead_20, nI_1]
        rcases (show wr = 0 ∨ wr = 1 by omega) with rfl | rfl
        · rw [if_pos nI_0, nI_0, Int32.add_zero]
        · rw [if_neg (by decide)]; rfl
      · show fX7_many_101 (N 7) (n' + 1) a (nI i) = _
        rw [fX7_many_101, if_neg (show ¬ (3 : Int32) ≤ nI i from nI_ge (b := 3) (by omega) (by decide)), show (17 : Int32) * nI i + 16 = nI (17 * i + 16) from ax 17 i 16, ixN (by omega) (by decide), gdT, cl _ (by omega), q2, nI_1]
  have c5 : ∀ i, i < nB → ∃ ft : Nat, ft ≤ 2 ∧ fX4_cell (nI i) 5 9 (nI nB) 216 (F 0) = some (nI ft) ∧ fX7_get (nI i) 5 (N 1) = some (nI ft) := by
    intro i hi
    obtain ⟨mk, kd, ln, cm, ft, hh, x0, x1, x2, x3, x4, x5, x6, x7⟩ := hBox i hi
    exact ⟨ft, by omega, by rw [show fX4_cell (nI i) 5 9 (nI nB) 216 (F 0) = some (F 0 (9 * i + 5)) from cell_at (c := 5) (cols := 9) hi (by decide) (by omega) (by omega) (by decide) (by decide), x5.1], by rw [show fX7_get (nI i) 5 (N 1) = some (N 1 (9 * i + 5)) from get_at (k := 5) (by omega), x5.2]⟩
  have fates : ∀ w : Nat, 9 ≤ w → w ≤ 10 → ∃ r, fX6_boxesOfFate (nI (w - 8)) (E 6) (F 0) = some r ∧ fX7_many_151 (nI w) (N 0) (N 1) FU 0 0 = some r := by
    intro w hw1 hw2
    have main := pair_loop (fun n i a => fX6_boxesOfFate_4 (nI (w - 8)) (E 6) (F 0) n a i) (fun n i a => fX7_many_151 (nI w) (N 0) (N 1) n a i) nB (fun _ a a' => a = a') (fun r r' => r = r') ?_ ?_ nB 0 FU FU 0 0 (by omega) rfl (by rw [FU_eq]; omega) (by rw [FU_eq]; omega)
    · obtain ⟨r, r', h1, h2, rfl⟩ := main
      exact ⟨r, h1, h2⟩
    · intro n n' a a' e
      subst e
      refine ⟨a, a, ?_, ?_, rfl⟩
      · show fX6_boxesOfFate_4 _ _ _ (n + 1) a (nI nB) = some a
        rw [fX6_boxesOfFate_4, sz_at, bn1S, e6, if_pos (nI_le (Nat.le_refl _) (by omega))]
      · show fX7_many_151 _ _ _ (n' + 1) a (nI nB) = some a
        rw [fX7_many_151, gdt (show ix (1 : Int32) 10 = true from q 1 (by decide)), show (1 : Int32).toNatClampNeg = 1 from rfl, n1, if_pos (nI_le (Nat.le_refl _) (by omega))]
    · intro n n' i a a' hi e
      subst e
      right
      obtain ⟨ft, hft, q1, q2⟩ := c5 i hi
      refine ⟨a + (if ft = w - 8 then 1 else 0), a + (if ft = w - 8 then 1 else 0), ?_, ?_, rfl⟩
      · show fX6_boxesOfFate_4 _ _ _ (n + 1) a (nI i) = _
        rw [fX6_boxesOfFate_4, sz_at, bn1S, e6, if_neg (nI_ge hi (by omega)), q1, bn1S]
        simp only [fX6_boxesOfFate_37, nI_1]
        by_cases c : ft = w - 8
        · rw [if_pos (by rw [c]), if_pos c]
        · rw [if_neg (nI_neq c (by omega) (by omega)), if_neg c, Int32.add_zero]
      · show fX7_many_151 _ _ _ (n' + 1) a (nI i) = _
        rw [fX7_many_151, gdt (show ix (1 : Int32) 10 = true from q 1 (by decide)), show (1 : Int32).toNatClampNeg = 1 from rfl, n1, if_neg (nI_ge hi (by omega)), q2, bn1S]
        simp only [fX7_many_180, nI_1]
        rw [show nI w - 8 = nI (w - 8) from pk_sub (b := 8) (by omega)]
        by_cases c : ft = w - 8
        · rw [if_pos (by rw [c]), if_pos c]
        · rw [if_neg (nI_neq c (by omega) (by omega)), if_neg c]
  have bills : ∃ r, fX6_allBills (E 6) (F 0) = some r ∧ fX7_many_192 (N 0) (N 1) FU 0 0 = some r := by
    have main := pair_loop (fun n i a => fX6_allBills_4 (E 6) (F 0) n a i) (fun n i a => fX7_many_192 (N 0) (N 1) n a i) nB (fun _ a a' => a = a') (fun r r' => r = r') ?_ ?_ nB 0 FU FU 0 0 (by omega) rfl (by rw [FU_eq]; omega) (by rw [FU_eq]; omega)
    · obtain ⟨r, r', h1, h2, rfl⟩ := main
      exact ⟨r, h1, h2⟩
    · intro n n' a a' e
      subst e
      refine ⟨a, a, ?_, ?_, rfl⟩
      · show fX6_allBills_4 _ _ (n + 1) a (nI nB) = some a
        rw [fX6_allBills_4, sz_at, bn1S, e6, if_pos (nI_le (Nat.le_refl _) (by omega))]
      · show fX7_many_192 _ _ (n' + 1) a (nI nB) = some a
        rw [fX7_many_192, gdt (show ix (1 : Int32) 10 = true from q 1 (by decide)), show (1 : Int32).toNatClampNeg = 1 from rfl, n1, if_pos (nI_le (Nat.le_refl _) (by omega))]
    · intro n n' i a a' hi e
      subst e
      right
      obtain ⟨mk, kd, ln, cm, ft, hh, x0, x1, x2, x3, x4, x5, x6, x7⟩ := hBox i hi
      have q1 : fX4_cell (nI i) 6 9 (nI nB) 216 (F 0) = some (F 0 (9 * i + 6)) := cell_at (c := 6) (cols := 9) hi (by decide) (by omega) (by omega) (by decide) (by decide)
      have q2 : fX7_get (nI i) 6 (N 1) = some (N 1 (9 * i + 6)) := get_at (k := 6) (by omega)
      refine ⟨a + imax 0 (F 0 (9 * i + 6)), a + imax 0 (F 0 (9 * i + 6)), ?_, ?_, rfl⟩
      · show fX6_allBills_4 _ _ (n + 1) a (nI i) = _
        rw [fX6_allBills_4, sz_at, bn1S, e6, if_neg (nI_ge hi (by omega)), q1, bn1S, nI_1]
      · show fX7_many_192 _ _ (n' + 1) a (nI i) = _
        rw [fX7_many_192, gdt (show ix (1 : Int32) 10 = true from q 1 (by decide)), show (1 : Int32).toNatClampNeg = 1 from rfl, n1, if_neg (nI_ge hi (by omega)), q2, bn1S, bn1S]
        simp only [fX7_many_224, nI_1]
        rcases x6 with ⟨s1, s2⟩ | ⟨bl, hbl, s1, s2⟩
        · rw [s1, s2, if_neg (by decide), show imax 0 (-3) = 0 by decide]
        · rw [s1, s2, if_pos (ge0N bl (by omega))]
          congr 1
          unfold imax
          by_cases c : bl = 0
          · subst c; rfl
          · rw [if_pos (show (0 : Int32) < nI bl from nI_lt (a := 0) (by omega) (by omega))]
  have q' : ∀ (k : Nat), k < 10 → ∀ (x : Option Int32), gd (ix (nI k) 10) x = x := fun k hk x => gdt (q k hk) x
  by_cases c0 : v = 0
  · subst c0; exact ⟨nI nB, by simp [fX6_many, fX4_size, bn1S, e6], by simp [fX7_many, gdt (q 1 (by decide)), show (1 : Int32).toNatClampNeg = 1 from rfl, n1, show ix (1 : Int32) 10 = true from q 1 (by decide), gdT], h⟩
  by_cases c1 : v = 1
  · subst c1; exact ⟨nI nW, by simp [fX6_many, fX4_size, bn1S, e7], by simp [fX7_many, show (2 : Int32).toNatClampNeg = 2 from rfl, n2, show ix (2 : Int32) 10 = true from q 2 (by decide), gdT], h⟩
  by_cases c2 : v = 2
  · subst c2; exact ⟨nI nR, by simp [fX6_many, fX4_size, bn1S, e9], by simp [fX7_many, show (3 : Int32).toNatClampNeg = 3 from rfl, n3, show ix (3 : Int32) 10 = true from q 3 (by decide), gdT], h⟩
  by_cases c3 : v = 3
  · subst c3; exact ⟨nI nO, by simp [fX6_many, fX4_size, bn1S, e10], by simp [fX7_many, show (4 : Int32).toNatClampNeg = 4 from rfl, n4, show ix (4 : Int32) 10 = true from q 4 (by decide), gdT], h⟩
  by_cases c4 : v = 4
  · subst c4; exact ⟨nI nA, by simp [fX6_many, fX4_size, bn1S, e11], by simp [fX7_many, show (5 : Int32).toNatClampNeg = 5 from rfl, n5, show ix (5 : Int32) 10 = true from q 5 (by decide), gdT], h⟩
  by_cases c5' : v = 5
  · subst c5'
    obtain ⟨r, r1, r2⟩ := leases
    exact ⟨r, by simp [fX6_many, bn1S, r1], by simp [fX7_many, r2], h⟩
  by_cases c6 : v = 6
  · subst c6; exact ⟨nI nU, by simp [fX6_many, fX4_size, bn1S, e14], by simp [fX7_many, show (6 : Int32).toNatClampNeg = 6 from rfl, n6, show ix (6 : Int32) 10 = true from q 6 (by decide), gdT], h⟩
  by_cases c7 : v = 7
  · subst c7; exact ⟨nI mn, by simp [fX6_many, fX5_size, bn1S, hT2], by simp [fX7_many, hT3], h⟩
  by_cases c8 : v = 8
  · subst c8; exact ⟨nI td, by simp [fX6_many, e2], by simp [fX7_many, clL0, n0, show ix (0 : Int32) 10 = true from q 0 (by decide), gdT], h⟩
  by_cases c9 : v = 9
  · subst c9
    obtain ⟨r, r1, r2⟩ := fates 9 (by decide) (by decide)
    have r1 : fX6_boxesOfFate 1 (E 6) (F 0) = some r := r1
    have r2 : fX7_many_151 9 (N 0) (N 1) FU 0 0 = some r := r2
    exact ⟨r, by simp [fX6_many, bn1S, r1], by simp [fX7_many, r2], h⟩
  by_cases c10 : v = 10
  · subst c10
    obtain ⟨r, r1, r2⟩ := fates 10 (by decide) (by decide)
    have r1 : fX6_boxesOfFate 2 (E 6) (F 0) = some r := r1
    have r2 : fX7_many_151 10 (N 0) (N 1) FU 0 0 = some r := r2
    exact ⟨r, by simp [fX6_many, bn1S, r1], by simp [fX7_many, r2], h⟩
  by_cases c11 : v = 11
  · subst c11
    obtain ⟨r, r1, r2⟩ := bills
    exact ⟨r, by simp [fX6_many, bn1S, r1], by simp [fX7_many, r2], h⟩
  exact ⟨-1, by simp [fX6_many, c0, c1, c2, c3, c4, c5', c6, c7, c8, c9, c10, c11], by simp [fX7_many, c0, c1, c2, c3, c4, c5', c6, c7, c8, c9, c10, c11], h⟩
