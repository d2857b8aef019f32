/-! FEED -/
theorem up_at {α : Type} (f : Nat → α) (k : Nat) (v : α) : va_up f k v k = v := if_pos rfl
theorem and255 (a : Int32) : ∃ v : Nat, v ≤ 255 ∧ a &&& 255 = nI v := by
  refine ⟨a.toBitVec.toNat % 256, by omega, ?_⟩
  apply Int32.toBitVec_inj.1
  rw [Int32.toBitVec_and]
  apply BitVec.eq_of_toNat_eq
  show (a.toBitVec &&& (255 : Int32).toBitVec).toNat = (BitVec.ofNat 32 (a.toBitVec.toNat % 256)).toNat
  rw [BitVec.toNat_and, BitVec.toNat_ofNat, show (255 : Int32).toBitVec.toNat = 2 ^ 8 - 1 from rfl, Nat.and_two_pow_sub_one_eq_mod]
  omega
theorem byte_at (x : Int64) : (x &&& 255).toInt32 = x.toInt32 &&& 255 := by
  rw [Int64.toInt32_and]
  rfl
theorem op_feed : Op_feed Inv := by
  intro E F M N p v h
  obtain ⟨hD, hK, ⟨mn, hmn, t1, t2, t3⟩, hP⟩ := id h
  have no : ∀ r : Int32, fX6_feed p v (E 28) (F 18) = some (r, E 28, F 18) → fX7_feed p v (M 1) (N 16) = some (r, M 1, N 16) → ∃ (r z0 : Int32) (z1 : Nat → Int32) (z2 : Int32) (z3 : Nat → Int32), fX6_feed p v (E 28) (F 18) = some (r, z0, z1) ∧ fX7_feed p v (M 1) (N 16) = some (r, z2, z3) ∧ Inv (va_up E 28 z0) (va_up F 18 z1) (va_up M 1 z2) (va_up N 16 z3) := by
    intro r P1 P2
    refine ⟨r, E 28, F 18, M 1, N 16, P1, P2, ?_⟩
    rw [up_self, up_self, up_self, up_self]; exact h
  rcases rng2 v (lo := 1) (hi := 8) 1 8 rfl rfl (by decide) (by decide) with c | ⟨n, hn1, hn2, rfl⟩
  · exact no (-1) (by rw [fX6_feed, wi, if_pos c, bn1S, if_pos rfl]) (by rw [fX7_feed, wi7, if_pos c, bn1S, if_pos rfl])
  have c : ¬ (nI n < 1 ∨ 8 < nI n) := rngN2 (a := 1) (b := 8) hn1 hn2 (by decide)
  by_cases c2 : mn + n ≤ 120
  · have main := pair_loop (σ := Int32 × (Nat → Int32)) (σ' := Int32 × (Nat → Int32)) (fun m i a => fX6_feed_32 p (nI n) (fun x y => fX6_feed_63 x y) m i a.1 a.2) (fun m i a => fX7_feed_29 p (nI n) (fun x y => fX7_feed_72 x y) m i a.1 a.2) n (fun i a a' => a.1 = nI (mn + i) ∧ a'.1 = nI (mn + i) ∧ ∀ j, j < mn + i → ∃ v : Nat, v ≤ 255 ∧ a.2 j = nI v ∧ a'.2 j = nI v) (fun r r' => ∃ f f', r = (nI (mn + n), nI (mn + n), f) ∧ r' = (nI (mn + n), nI (mn + n), f') ∧ ∀ j, j < mn + n → ∃ v : Nat, v ≤ 255 ∧ f j = nI v ∧ f' j = nI v) ?_ ?_ n 0 FU FU (nI mn, F 18) (nI mn, N 16) (by omega) ⟨rfl, rfl, t3⟩ (by rw [FU_eq]; omega) (by rw [FU_eq]; omega)
    · obtain ⟨r, r', h1, h2, f, f', rfl, rfl, h3⟩ := main
      refine ⟨nI (mn + n), nI (mn + n), f, nI (mn + n), f', ?_, ?_, ?_⟩
      · rw [fX6_feed, wi, if_neg c, bn1S, if_neg (by decide), fX5_size, bn1S, t1, nI_add, if_pos (show nI (mn + n) ≤ 120 from nI_le (b := 120) c2 (by decide))]
        exact h1
      · rw [fX7_feed, wi7, if_neg c, bn1S, if_neg (by decide), t2, nI_add, if_pos (show nI (mn + n) ≤ 120 from nI_le (b := 120) c2 (by decide))]
        exact h2
      · refine ⟨RD_congr hD (fun i hi => va_up_ne _ _ (by omega)) (fun j hj => va_up_ne _ _ (by omega)) (fun k hk => va_up_ne _ _ (by omega)), ?_, ⟨mn + n, c2, up_at _ _ _, up_at _ _ _, ?_⟩, RP_same hP rfl rfl rfl rfl rfl rfl rfl⟩
        · rcases hK with ⟨k1, k2⟩ | ⟨k1, k2, k3⟩
          · exact Or.inl ⟨k1, k2⟩
          · refine Or.inr ⟨k1, k2, RD_congr k3 (fun i hi => va_up_ne _ _ (by omega)) (fun j hj => va_up_ne _ _ (by omega)) (fun k hk => rfl)⟩
        · rw [up_at, up_at]
          exact h3
    · intro m m' a a' hr
      obtain ⟨r1, r2, r3⟩ := hr
      refine ⟨(nI (mn + n), nI (mn + n), a.2), (nI (mn + n), nI (mn + n), a'.2), ?_, ?_, ⟨a.2, a'.2, rfl, rfl, r3⟩⟩
      · show fX6_feed_32 p (nI n) _ (m + 1) (nI n) a.1 a.2 = _
        rw [fX6_feed_32, if_pos (nI_le (Nat.le_refl _) (by omega)), r1]
        rfl
      · show fX7_feed_29 p (nI n) _ (m' + 1) (nI n) a'.1 a'.2 = _
        rw [fX7_feed_29, if_pos (nI_le (Nat.le_refl _) (by omega)), r2]
        rfl
    · intro m m' i a a' hi hr
      obtain ⟨r1, r2, r3⟩ := hr
      right
      obtain ⟨v, hv, hve⟩ := and255 (lushr p (8 * nI i)).toInt32
      refine ⟨(nI (mn + (i + 1)), upd a.2 (mn + i) (nI v)), (nI (mn + (i + 1)), upd a'.2 (mn + i) (nI v)), ?_, ?_, rfl, rfl, ?_⟩
      · show fX6_feed_32 p (nI n) _ (m + 1) (nI i) a.1 a.2 = _
        rw [fX6_feed_32, if_neg (nI_ge hi (by omega)), hve, r1, fX5_takeByte, if_neg (show ¬ 120 ≤ nI (mn + i) from nI_ge (b := 120) (by omega) (by omega)), ixN (by omega) (by decide), gdT, bn2S, cl _ (by omega), nI_1, nI_1]
        rfl
      · show fX7_feed_29 p (nI n) _ (m' + 1) (nI i) a'.1 a'.2 = _
        rw [fX7_feed_29, if_neg (nI_ge hi (by omega)), byte_at, hve, r2, ixN (by omega) (by decide), gdT, cl _ (by omega), nI_1, nI_1]
        rfl
      · intro j hj
        by_cases e : j = mn + i
        · subst e
          exact ⟨v, hv, upd_same _ _ _, upd_same _ _ _⟩
        · obtain ⟨v', hv', q1, q2⟩ := r3 j (by omega)
          exact ⟨v', hv', (upd_ne _ _ e).trans q1, (upd_ne _ _ e).trans q2⟩
  · refine no (-2) ?_ ?_
    · rw [fX6_feed, wi, if_neg c, bn1S, if_neg (by decide), fX5_size, bn1S, t1, nI_add, if_neg (show ¬ nI (mn + n) ≤ 120 from nI_ge (a := 120) (by omega) (by omega))]
    · rw [fX7_feed, wi7, if_neg c, bn1S, if_neg (by decide), t2, nI_add, if_neg (show ¬ nI (mn + n) ≤ 120 from nI_ge (a := 120) (by omega) (by omega))]
