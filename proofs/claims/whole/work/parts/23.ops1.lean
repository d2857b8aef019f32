/-! THE CALLS THAT KNOW NO LOOP -/
theorem op_days : Op_days Inv := by
  intro E F M N v h
  obtain ⟨⟨td, lk, rt, fr, nB, nW, nR, nO, nA, nU, ⟨hd, hn, hb⟩, hR⟩, hK, hT, hP⟩ := id h
  have e2 : E 2 = nI td := hd.1
  have q0 : ix (0 : Int32) 10 = true := by decide
  rcases rng2 v (lo := 1) (hi := 30) 1 30 rfl rfl (by decide) (by decide) with c | ⟨n, hn1, hn2, rfl⟩
  · refine ⟨-1, E 2, N 0, ?_, ?_, ?_⟩
    · simp [fX6_days, wi, bn1S, c]
    · simp [fX7_days, wi7, bn1S, c]
    · rw [up_self, up_self]; exact h
  · have c : ¬ (nI n < 1 ∨ (30 : Int32) < nI n) := rngN2 (a := 1) (b := 30) hn1 hn2 (by decide)
    by_cases c2 : td + n ≤ 200
    · have q : nI (td + n) ≤ (200 : Int32) := nI_le (b := 200) c2 (by decide)
      refine ⟨nI (td + n), nI (td + n), upd (N 0) 0 (nI (td + n)), ?_, ?_, ?_⟩
      · simp [fX6_days, wi, bn1S, c, e2, nI_add, q]
      · simp [fX7_days, wi7, bn1S, c, q0, gdT, clL0, hn.1, nI_add, q, upd_same]
      · refine Inv_desk h ⟨td + n, lk, rt, fr, nB, nW, nR, nO, nA, nU, ⟨by simp [va_up, hd], by simp [va_up, upd, hn], by omega⟩, by simpa [va_up] using hR⟩ rfl (fun i hi => up_ge (by decide) hi) (fun _ _ => rfl) rfl rfl rfl rfl (RP_same hP rfl rfl rfl rfl rfl rfl rfl)
    · have q : ¬ nI (td + n) ≤ (200 : Int32) := nI_ge (b := td + n) (a := 200) (by omega) (by omega)
      refine ⟨-4, E 2, N 0, ?_, ?_, ?_⟩
      · simp [fX6_days, wi, bn1S, c, e2, nI_add, q]
      · simp [fX7_days, wi7, bn1S, c, q0, gdT, clL0, hn.1, nI_add, q]
      · rw [up_self, up_self]; exact h
theorem op_check : Op_check Inv := by
  intro E F M N v h
  by_cases c : v < 0 ∨ 9999 < v
  · exact ⟨-1, by simp [fX6_check, fX6_isMark, wi, bn1S, c, gdt (show zb 0 = true by decide)], by simp [fX7_check, wi7, bn1S, c], h⟩
  · obtain ⟨r, hr⟩ : ∃ r, fX7_checkOf v = some r := ⟨_, rfl⟩
    have hr2 : fX6_checkDigit v = some r := hr
    refine ⟨r, ?_, ?_, h⟩
    · simp [fX6_check, fX6_isMark, wi, bn1S, c, gdt (show zb 1 = true by decide), hr2]
    · simp [fX7_check, wi7, bn1S, c, hr]
theorem op_lack : Op_lack Inv := by
  intro E F M N v h
  obtain ⟨⟨td, lk, rt, fr, nB, nW, nR, nO, nA, nU, ⟨hd, hn, hb⟩, hR⟩, hK, hT, hP⟩ := id h
  have e3 : E 3 = nI lk := hd.2.1
  have n9 : N 0 9 = nI lk := hn.2.2.2.2.2.2.2.2.2
  rcases rng v (hi := 500) 500 rfl (by decide) with c | ⟨n, hn2, rfl⟩
  · refine ⟨-1, E 1, E 3, N 0, ?_, ?_, ?_⟩
    · simp [fX6_lack, wi, bn1S, c]
    · simp [fX7_lack, wi7, bn1S, c]
    · rw [up_self, up_self, up_self]; exact h
  · have c : ¬ (nI n < 0 ∨ (500 : Int32) < nI n) := rngN (k := 500) hn2 (by decide)
    refine ⟨nI lk, 0, nI n, upd (N 0) 9 (nI n), ?_, ?_, ?_⟩
    · simp [fX6_lack, wi, bn1S, c, e3]
    · have q0 : ix (9 : Int32) 10 = true := by decide
      have q1 : (9 : Int32).toNatClampNeg = 9 := rfl
      simp [fX7_lack, wi7, bn1S, c, q0, gdT, q1, n9]
    · exact Inv_desk h ⟨td, n, rt, fr, nB, nW, nR, nO, nA, nU, ⟨by simp [va_up, hd], by simp [va_up, upd, hn], by omega⟩, by simpa [va_up] using hR⟩ rfl (fun i hi => by rw [up_ge (b := 15) (by decide) hi, up_ge (b := 15) (by decide) hi]) (fun _ _ => rfl) rfl rfl rfl rfl (Or.inl rfl)
theorem op_rate : Op_rate Inv := by
  intro E F M N w v h
  obtain ⟨⟨td, lk, rt, fr, nB, nW, nR, nO, nA, nU, ⟨hd, hn, hb⟩, hR⟩, hK, hT, hP⟩ := id h
  have e4 : E 4 = nI rt := hd.2.2.1
  have e5 : E 5 = nI fr := hd.2.2.2.1
  have n7 : N 0 7 = nI rt := hn.2.2.2.2.2.2.2.1
  have n8 : N 0 8 = nI fr := hn.2.2.2.2.2.2.2.2.1
  have no : ∀ (P : fX6_rate w v (E 4) (E 5) = some (-1, E 4, E 5) ∧ fX7_rate w v (N 0) = some (-1, N 0)), ∃ (r z_rate z_free : Int32) (z_m_numbers : Nat → Int32), fX6_rate w v (E 4) (E 5) = some (r, z_rate, z_free) ∧ fX7_rate w v (N 0) = some (r, z_m_numbers) ∧ Inv (va_up (va_up E 4 z_rate) 5 z_free) F M (va_up N 0 z_m_numbers) := by
    intro P
    refine ⟨-1, E 4, E 5, N 0, P.1, P.2, ?_⟩
    rw [up_self, up_self, up_self]; exact h
  rcases rng w (hi := 1) 1 rfl (by decide) with c | ⟨k, hk, rfl⟩
  · refine no ⟨?_, ?_⟩
    · have c0 : ¬ w = 0 := by rintro rfl; revert c; decide
      have c1 : ¬ w = 1 := by rintro rfl; revert c; decide
      simp [fX6_rate_32, fX6_rate, c0, c1]
    · simp [fX7_rate, wi7, bn1S, c]
  · rcases (show k = 0 ∨ k = 1 by omega) with rfl | rfl
    · rcases rng v (hi := 50) 50 rfl (by decide) with c | ⟨n, hn2, rfl⟩
      · refine no ⟨?_, ?_⟩
        · simp [fX6_rate_32, fX6_rate, nI_0, wi, bn1S, c]
        · simp [fX7_rate_22, fX7_rate, nI_0, wi7, bn1S, c]
      · have c : ¬ (nI n < 0 ∨ (50 : Int32) < nI n) := rngN (k := 50) hn2 (by decide)
        refine ⟨nI rt, nI n, nI fr, upd (N 0) 7 (nI n), ?_, ?_, ?_⟩
        · simp [fX6_rate_32, fX6_rate, nI_0, wi, bn1S, c, e4, e5]
        · have q0 : ix (7 : Int32) 10 = true := by decide
          have q1 : (7 : Int32).toNatClampNeg = 7 := rfl
          simp [fX7_rate_22, fX7_rate, nI_0, wi7, bn1S, c, q0, gdT, q1, n7]
        · exact Inv_desk h ⟨td, lk, n, fr, nB, nW, nR, nO, nA, nU, ⟨by simp [va_up, hd], by simp [va_up, upd, hn], by omega⟩, by simpa [va_up] using hR⟩ rfl (fun i hi => by rw [up_ge (b := 15) (by decide) hi, up_ge (b := 15) (by decide) hi]) (fun _ _ => rfl) rfl rfl rfl rfl (RP_same hP rfl rfl rfl rfl rfl rfl rfl)
    · rcases rng v (hi := 10) 10 rfl (by decide) with c | ⟨n, hn2, rfl⟩
      · refine no ⟨?_, ?_⟩
        · simp [fX6_rate_32, fX6_rate, show nI 1 = 1 from rfl, wi, bn1S, c]
        · simp [fX7_rate_22, fX7_rate, show nI 1 = 1 from rfl, wi7, bn1S, c]
      · have c : ¬ (nI n < 0 ∨ (10 : Int32) < nI n) := rngN (k := 10) hn2 (by decide)
        refine ⟨nI fr, nI rt, nI n, upd (N 0) 8 (nI n), ?_, ?_, ?_⟩
        · simp [fX6_rate_32, fX6_rate, show nI 1 = 1 from rfl, wi, bn1S, c, e4, e5]
        · have q0 : ix (8 : Int32) 10 = true := by decide
          have q1 : (8 : Int32).toNatClampNeg = 8 := rfl
          have q2 : (7 : Int32) + 1 = 8 := by decide
          simp [fX7_rate_22, fX7_rate, show nI 1 = 1 from rfl, wi7, bn1S, c, q2, q0, gdT, q1, n8]
        · exact Inv_desk h ⟨td, lk, rt, n, nB, nW, nR, nO, nA, nU, ⟨by simp [va_up, hd], by simp [va_up, upd, hn], by omega⟩, by simpa [va_up] using hR⟩ rfl (fun i hi => by rw [up_ge (b := 15) (by decide) hi, up_ge (b := 15) (by decide) hi]) (fun _ _ => rfl) rfl rfl rfl rfl (RP_same hP rfl rfl rfl rfl rfl rfl rfl)
