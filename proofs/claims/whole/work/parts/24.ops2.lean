theorem op_of : Op_of Inv := by
  intro E F M N v w h
  obtain ⟨⟨td, lk, rt, fr, nB, nW, nR, nO, nA, nU, ⟨hd, hn, hb⟩, hBox, hR⟩, hK, hT, hP⟩ := id h
  have e6 : E 6 = nI nB := hd.2.2.2.2.1
  rcases tBox v e6 hn.2.1 (by omega) with ⟨a1, a2⟩ | ⟨b, hb1, rfl, a1, a2⟩
  · exact ⟨-1, by simp [fX6_of, a1, bn1S], by simp [fX7_of, a2, bn1S], h⟩
  · rcases tW w (hi := 6) 6 rfl (by decide) with ⟨c1, c2⟩ | ⟨k, hk, rfl, c1, c2⟩
    · exact ⟨-1, by simp [fX6_of, a1, c1, bn1S], by simp [fX7_of, a2, c2, bn1S], h⟩
    · obtain ⟨mk, kd, ln, cm, ft, hh, x0, x1, x2, x3, x4, x5, x6, -⟩ := hBox b hb1
      have e1 : fX4_cell (nI b) (nI k) 9 (E 6) 216 (F 0) = some (F 0 (9 * b + k)) := by rw [e6]; exact cell_at (cols := 9) hb1 (by omega) (by omega) (by omega) (by decide) (by decide)
      have e2 : fX7_get (nI b) (nI k) (N 1) = some (N 1 (9 * b + k)) := get_at (by omega)
      refine ⟨F 0 (9 * b + k), by simp [fX6_of, a1, c1, bn1S, e1], ?_, h⟩
      have go : ∀ x : Int32, (∃ j : Nat, j < 2 ^ 31 ∧ F 0 (9 * b + k) = nI j ∧ N 1 (9 * b + k) = nI j) ∨ (F 0 (9 * b + k) = -3 ∧ N 1 (9 * b + k) = -1) → fX7_of (nI b) (nI k) (N 0) (N 1) = some (F 0 (9 * b + k)) := by
        intro _ q
        rcases q with ⟨j, hj, q1, q2⟩ | ⟨q1, q2⟩
        · simp [fX7_of, a2, c2, bn1S, e2, q1, q2, ge0N j hj]
        · simp [fX7_of, a2, c2, bn1S, e2, q1, q2, nge0]
      refine go 0 ?_
      rcases (show k = 0 ∨ k = 1 ∨ k = 2 ∨ k = 3 ∨ k = 4 ∨ k = 5 ∨ k = 6 by omega) with rfl | rfl | rfl | rfl | rfl | rfl | rfl
      · exact Or.inl ⟨mk, by omega, x0.1, x0.2⟩
      · exact Or.inl ⟨kd, by omega, x1.1, x1.2⟩
      · exact Or.inl ⟨ln, by omega, x2.1, x2.2⟩
      · rcases x3 with q | ⟨ls, q, q1, q2⟩
        · exact Or.inr q
        · exact Or.inl ⟨ls, by omega, q1, q2⟩
      · exact Or.inl ⟨cm, by omega, x4.1, x4.2⟩
      · exact Or.inl ⟨ft, by omega, x5.1, x5.2⟩
      · rcases x6 with q | ⟨ls, q, q1, q2⟩
        · exact Or.inr q
        · exact Or.inl ⟨ls, by omega, q1, q2⟩
theorem op_lease : Op_lease Inv := by
  intro E F M N v w h
  obtain ⟨⟨td, lk, rt, fr, nB, nW, nR, nO, nA, nU, ⟨hd, hn, hb⟩, hBox, hWo, hWe, hRo, hOf, hWa, hLv, hLs, hUs⟩, hK, hT, hP⟩ := id h
  have e13 : E 13 = nI 3 := hd.2.2.2.2.2.2.2.2.2.2.2.1
  rcases tLease v with ⟨a1, a2⟩ | ⟨l, hl, rfl, a1, a2⟩
  · obtain ⟨r, hr⟩ : ∃ r, fX6_askedTerm w = some r := by
      simp only [fX6_askedTerm, wi, bn1S, i0]
      by_cases p1 : w < 0 ∨ 3 < w <;> by_cases p2 : w < 10 ∨ 15 < w <;> by_cases p3 : w < 20 ∨ 25 < w <;> simp [p1, p2, p3]
    exact ⟨-1, by simp [fX6_lease, hr, a1, bn1S], by simp [fX7_lease, a2, bn1S], h⟩
  · obtain ⟨hL1, wr, hwr, q1, q2⟩ := hLs l (by omega)
    have ew : fX6_wasRead (nI l) (E 13) (F 7) = some (if wr = 1 then 1 else 0) := by
      unfold fX6_wasRead
      rw [e13, show fX4_cell (nI l) 16 17 (nI 3) 51 (F 7) = some (F 7 (17 * l + 16)) from cell_at (c := 16) (cols := 17) (by omega) (by decide) (by omega) (by decide) (by decide) (by decide), bn1S, q1]
      rcases (show wr = 0 ∨ wr = 1 by omega) with rfl | rfl <;> rfl
    have em : gd (ix ((17 : Int32) * nI l + 16) 68) (some (N 7 ((17 : Int32) * nI l + 16).toNatClampNeg)) = some (nI wr) := by
      rw [show (17 : Int32) * nI l + 16 = nI (17 * l + 16) from ax 17 l 16, ixN (by omega) (by decide), gdT, cl _ (by omega), q2]
    have ei : ix ((17 : Int32) * nI l + 16) 68 = true := by rw [show (17 : Int32) * nI l + 16 = nI (17 * l + 16) from ax 17 l 16]; exact ixN (by omega) (by decide)
    have ec : N 7 ((17 : Int32) * nI l + 16).toNatClampNeg = nI wr := by rw [show (17 : Int32) * nI l + 16 = nI (17 * l + 16) from ax 17 l 16, cl _ (by omega), q2]
    have key : ∀ (t : Nat), t < 16 → fX6_askedTerm w = some (nI t) → fX7_lease (nI l) w (N 7) = fX7_lease_42 (nI l) w (N 7) → (wr = 1 → fX7_lease_42 (nI l) w (N 7) = some (N 7 (17 * l + t))) → ∃ r, fX6_lease (nI l) w (E 13) (F 7) = some r ∧ fX7_lease (nI l) w (N 7) = some r ∧ Inv E F M N := by
      intro t ht h1 h2 h3
      obtain ⟨x, hx, x1, x2⟩ := hL1 t ht
      rcases (show wr = 0 ∨ wr = 1 by omega) with rfl | rfl
      · refine ⟨-3, ?_, ?_, h⟩
        · simp [fX6_lease, h1, a1, bn1S, ge0N t (by omega), ew]
        · rw [h2]
          simp [fX7_lease_42, ei, gdT, ec, nI_0]
      · refine ⟨nI x, ?_, ?_, h⟩
        · have e1 : fX4_cell (nI l) (nI t) 17 (E 13) 51 (F 7) = some (F 7 (17 * l + t)) := by rw [e13]; exact cell_at (cols := 17) (by omega) (by omega) (by omega) (by decide) (by decide) (by decide)
          simp [fX6_lease, h1, a1, bn1S, ge0N t (by omega), ew, e1, x1]
        · rw [h2, h3 rfl, x2]
    have c1 : ¬ (nI wr) = 0 ∨ wr = 0 := by
      rcases (show wr = 0 ∨ wr = 1 by omega) with rfl | rfl
      · exact Or.inr rfl
      · exact Or.inl (by decide)
    rcases rng2 w (lo := 0) (hi := 3) 0 3 rfl rfl (by decide) (by decide) with p1 | ⟨n, n1, n2, rfl⟩
    · rcases rng2 w (lo := 10) (hi := 15) 10 15 rfl rfl (by decide) (by decide) with p2 | ⟨n, n1, n2, rfl⟩
      · rcases rng2 w (lo := 20) (hi := 25) 20 25 rfl rfl (by decide) (by decide) with p3 | ⟨n, n1, n2, rfl⟩
        · refine ⟨-1, ?_, ?_, h⟩
          · simp [fX6_lease, fX6_askedTerm, wi, bn1S, p1, p2, p3, a1, nge03]
          · simp [fX7_lease, a2, wi7, bn1S, p1, p2, p3]
        · have p3 : ¬ (nI n < 20 ∨ (25 : Int32) < nI n) := rngN2 (a := 20) (b := 25) n1 n2 (by decide)
          have g1 : (20 : Int32) ≤ nI n := nI_le (a := 20) n1 (by omega)
          have g2 : (10 : Int32) ≤ nI n := nI_le (a := 10) (by omega) (by omega)
          refine key (n - 10) (by omega) ?_ ?_ ?_
          · simp only [fX6_askedTerm, wi, bn1S, i0]
            rw [if_pos p1, if_pos p2, if_neg p3, show nI n - 20 = nI (n - 20) from pk_sub n1, show (10 : Int32) + nI (n - 20) = nI (10 + (n - 20)) from nI_add 10 _]
            congr 2; omega
          · simp [fX7_lease, a2, wi7, bn1S, p1, p2, p3]
          · intro hw1
            subst hw1
            simp only [fX7_lease_42, ei, gdT, ec]
            rw [if_neg (by decide), if_pos g2, if_pos g1]
            unfold fX7_lease_95
            rw [show nI n - 10 = nI (n - 10) from pk_sub (b := 10) (by omega), show (17 : Int32) * nI l + nI (n - 10) = nI (17 * l + (n - 10)) from ax 17 l _, ixN (by omega) (by decide), gdT, cl _ (by omega)]
      · have p2 : ¬ (nI n < 10 ∨ (15 : Int32) < nI n) := rngN2 (a := 10) (b := 15) n1 n2 (by decide)
        have g1 : ¬ (20 : Int32) ≤ nI n := nI_ge (b := 20) (by omega) (by decide)
        have g2 : (10 : Int32) ≤ nI n := nI_le (a := 10) (by omega) (by omega)
        refine key (n - 6) (by omega) ?_ ?_ ?_
        · simp only [fX6_askedTerm, wi, bn1S, i0]
          rw [if_pos p1, if_neg p2, show nI n - 10 = nI (n - 10) from pk_sub n1, show (4 : Int32) + nI (n - 10) = nI (4 + (n - 10)) from nI_add 4 _]
          congr 2; omega
        · simp [fX7_lease, a2, wi7, bn1S, p1, p2]
        · intro hw1
          subst hw1
          simp only [fX7_lease_42, ei, gdT, ec]
          rw [if_neg (by decide), if_pos g2, if_neg g1]
          unfold fX7_lease_95
          rw [show nI n - 6 = nI (n - 6) from pk_sub (b := 6) (by omega), show (17 : Int32) * nI l + nI (n - 6) = nI (17 * l + (n - 6)) from ax 17 l _, ixN (by omega) (by decide), gdT, cl _ (by omega)]
    · have p1 : ¬ (nI n < 0 ∨ (3 : Int32) < nI n) := rngN (k := 3) n2 (by decide)
      have g2 : ¬ (10 : Int32) ≤ nI n := nI_ge (b := 10) (by omega) (by decide)
      refine key n (by omega) ?_ ?_ ?_
      · simp only [fX6_askedTerm, wi, bn1S, i0]
        rw [if_neg p1]
      · simp [fX7_lease, a2, wi7, bn1S, p1]
      · intro hw1
        subst hw1
        simp only [fX7_lease_42, ei, gdT, ec]
        rw [if_neg (by decide), if_neg g2]
        unfold fX7_lease_95
        rw [show (17 : Int32) * nI l + nI n = nI (17 * l + n) from ax 17 l _, ixN (by omega) (by decide), gdT, cl _ (by omega)]
theorem op_week : Op_week Inv := by
  intro E F M N v1 v2 v3 v4 h
  obtain ⟨⟨td, lk, rt, fr, nB, nW, nR, nO, nA, nU, ⟨hd, hn, hb⟩, hBox, hWo, hWe, hRo, hOf, hWa, hLv, hLs, hUs⟩, hK, hT, hP⟩ := id h
  have e8 : E 8 = nI 30 := hd.2.2.2.2.2.2.1
  have no : ∀ (P1 : fX6_week v1 v2 v3 v4 (E 1) (E 8) (F 2) = some (-1, E 1, F 2)) (P2 : fX7_week v1 v2 v3 v4 (N 3) = some (-1, N 3)), ∃ (r z1 : Int32) (z2 z3 : Nat → Int32), fX6_week v1 v2 v3 v4 (E 1) (E 8) (F 2) = some (r, z1, z2) ∧ fX7_week v1 v2 v3 v4 (N 3) = some (r, z3) ∧ Inv (va_up E 1 z1) (va_up F 2 z2) M (va_up N 3 z3) := by
    intro P1 P2
    exact ⟨-1, E 1, F 2, N 3, P1, P2, by rw [up_self, up_self, up_self]; exact h⟩
  rcases tPlace v1 with ⟨a1, a2⟩ | ⟨p, hp, rfl, a1, a2⟩
  · exact no (by simp [fX6_week, a1, bn1S]) (by simp [fX7_week, a2, bn1S])
  rcases tWeek v2 with ⟨b1, b2⟩ | ⟨w, hw, rfl, b1, b2⟩
  · exact no (by simp [fX6_week, a1, b1, bn1S]) (by simp [fX7_week, a2, b2, bn1S])
  rcases tW v3 (hi := 1) 1 rfl (by decide) with ⟨c1, c2⟩ | ⟨k, hk, rfl, c1, c2⟩
  · exact no (by simp [fX6_week, a1, b1, c1, bn1S]) (by simp [fX7_week, a2, b2, c2, bn1S])
  rcases tW v4 (hi := 9) 9 rfl (by decide) with ⟨d1, d2⟩ | ⟨x, hx, rfl, d1, d2⟩
  · exact no (by simp [fX6_week, a1, b1, c1, d1, bn1S]) (by simp [fX7_week, a2, b2, c2, d2, bn1S])
  have kn : fX6_knotOf (nI p) (nI w) = some (nI (6 * w + p)) := by
    unfold fX6_knotOf
    rw [show nI w * 6 = nI (w * 6) from pk_mul w 6, nI_add, Nat.mul_comm]
  have ix1 : (30 : Int32) * nI k + 5 * nI p + nI w = nI (30 * k + 5 * p + w) := by
    rw [show (30 : Int32) * nI k = nI (30 * k) from pk_mul 30 k, show (5 : Int32) * nI p = nI (5 * p) from pk_mul 5 p, nI_add, nI_add]
  have ce : fX4_cell (nI (6 * w + p)) (nI k) 2 (E 8) 60 (F 2) = some (F 2 (2 * (6 * w + p) + k)) := by rw [e8]; exact cell_at (cols := 2) (by omega) (by omega) (by omega) (by decide) (by decide) (by decide)
  have pe : fX4_put (nI (6 * w + p)) (nI k) (nI x) 2 (E 8) 60 (F 2) = some (upd (F 2) (2 * (6 * w + p) + k) (nI x)) := by rw [e8]; exact put_at (cols := 2) (by omega) (by omega) (by omega) (by decide) (by decide) (by decide)
  obtain ⟨st, nd, hsn, s1, s2⟩ := hWe p w (by omega) (by omega)
  have ev : F 2 (2 * (6 * w + p) + k) = N 3 (30 * k + 5 * p + w) := by
    rcases (show k = 0 ∨ k = 1 by omega) with rfl | rfl
    · rw [show 2 * (6 * w + p) + 0 = 2 * (6 * w + p) by omega, show 30 * 0 + 5 * p + w = 5 * p + w by omega, s1.1, s1.2]
    · rw [show 30 * 1 + 5 * p + w = 30 + (5 * p + w) by omega, s2.1, s2.2]
  refine ⟨N 3 (30 * k + 5 * p + w), 0, upd (F 2) (2 * (6 * w + p) + k) (nI x), upd (N 3) (30 * k + 5 * p + w) (nI x), ?_, ?_, ?_⟩
  · simp [fX6_week, a1, b1, c1, d1, bn1S, kn, ce, pe, ev]
  · simp only [fX7_week, a2, b2, c2, d2, bn1S, ix1]
    rw [if_neg (by decide), if_neg (by decide), if_neg (by decide), if_neg (by decide), ixN (by omega) (by decide), gdT, gdT, cl _ (by omega)]
  · refine Inv_desk h ⟨td, lk, rt, fr, nB, nW, nR, nO, nA, nU, ⟨by simpa [va_up] using hd, by simpa [va_up] using hn, hb⟩, by simpa [va_up] using hBox, by simpa [va_up] using hWo, ?_, by simpa [va_up] using hRo, by simpa [va_up] using hOf, by simpa [va_up] using hWa, by simpa [va_up] using hLv, by simpa [va_up] using hLs, by simpa [va_up] using hUs⟩ rfl (fun i hi => up_ge (by decide) hi) (fun j hj => up_ge (by decide) hj) rfl rfl rfl rfl (Or.inl rfl)
    intro p' w' hp' hw'
    obtain ⟨st', nd', hsn', s1', s2'⟩ := hWe p' w' hp' hw'
    show ∃ st nd : Nat, (st ≤ 9 ∧ nd ≤ 9) ∧ (upd (F 2) (2 * (6 * w + p) + k) (nI x) (2 * (6 * w' + p')) = nI st ∧ upd (N 3) (30 * k + 5 * p + w) (nI x) (5 * p' + w') = nI st) ∧ (upd (F 2) (2 * (6 * w + p) + k) (nI x) (2 * (6 * w' + p') + 1) = nI nd ∧ upd (N 3) (30 * k + 5 * p + w) (nI x) (30 + (5 * p' + w')) = nI nd)
    by_cases same : p' = p ∧ w' = w
    · obtain ⟨rfl, rfl⟩ := same
      rcases (show k = 0 ∨ k = 1 by omega) with rfl | rfl
      · refine ⟨x, nd', ⟨by omega, by omega⟩, ⟨?_, ?_⟩, ?_, ?_⟩
        · exact upd_same _ _ _
        · rw [show 30 * 0 + 5 * p' + w' = 5 * p' + w' by omega]; exact upd_same _ _ _
        · rw [upd_ne _ _ (by omega)]; exact s2'.1
        · rw [upd_ne _ _ (by omega)]; exact s2'.2
      · refine ⟨st', x, ⟨by omega, by omega⟩, ⟨?_, ?_⟩, ?_, ?_⟩
        · rw [upd_ne _ _ (by omega)]; exact s1'.1
        · rw [upd_ne _ _ (by omega)]; exact s1'.2
        · exact upd_same _ _ _
        · rw [show 30 * 1 + 5 * p' + w' = 30 + (5 * p' + w') by omega]; exact upd_same _ _ _
    · refine ⟨st', nd', hsn', ⟨?_, ?_⟩, ?_, ?_⟩
      · rw [upd_ne _ _ (by omega)]; exact s1'.1
      · rw [upd_ne _ _ (by omega)]; exact s1'.2
      · rw [upd_ne _ _ (by omega)]; exact s2'.1
      · rw [upd_ne _ _ (by omega)]; exact s2'.2
