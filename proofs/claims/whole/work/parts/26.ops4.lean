theorem remN {a d : Nat} (ha : a < 2 ^ 31) (h0 : 0 < d) (hd : d < 2 ^ 31) : irem (nI a) (nI d) = nI (a % d) := pk_rem ha h0 hd
theorem op_route : Op_route Inv := by
  intro E F M N v1 v2 v3 v4 h
  obtain ⟨⟨td, lk, rt, fr, nB, nW, nR, nO, nA, nU, ⟨hd, hn, hb⟩, hBox, hWo, hWe, hRo, hOf, hWa, hLv, hLs, hUs⟩, hK, hT, hP⟩ := id h
  have e9 : E 9 = nI nR := hd.2.2.2.2.2.2.2.1
  have n3 : N 0 3 = nI nR := hn.2.2.2.1
  have no : ∀ r : Int32, fX6_route v1 v2 v3 v4 (E 1) (E 9) (F 3) = some (r, E 1, E 9, F 3) → fX7_route v1 v2 v3 v4 (N 0) (N 4) = some (r, N 0, N 4) → ∃ (r z0 z1 : Int32) (z2 z3 z4 : Nat → Int32), fX6_route v1 v2 v3 v4 (E 1) (E 9) (F 3) = some (r, z0, z1, z2) ∧ fX7_route v1 v2 v3 v4 (N 0) (N 4) = some (r, z3, z4) ∧ Inv (va_up (va_up E 1 z0) 9 z1) (va_up F 3 z2) M (va_up (va_up N 0 z3) 4 z4) := by
    intro r P1 P2
    refine ⟨r, E 1, E 9, F 3, N 0, N 4, P1, P2, ?_⟩
    rw [up_self, up_self, up_self, up_self, up_self]; exact h
  rcases tPlace v1 with ⟨a1, a2⟩ | ⟨p, hp, rfl, a1, a2⟩
  · exact no (-1) (by simp [fX6_route, a1, bn1S]) (by simp [fX7_route, a2, bn1S])
  rcases tPlace v2 with ⟨b1, b2⟩ | ⟨q, hq, rfl, b1, b2⟩
  · exact no (-1) (by simp [fX6_route, a1, b1, bn1S]) (by simp [fX7_route, a2, b2, bn1S])
  by_cases hpq : p = q
  · exact no (-1) (by simp [fX6_route, a1, b1, bn1S, hpq]) (by simp [fX7_route, a2, b2, bn1S, hpq])
  have hne : ¬ nI p = nI q := nI_neq hpq (by omega) (by omega)
  rcases tW v3 (hi := 2) 2 rfl (by decide) with ⟨c1, c2⟩ | ⟨w, hw, rfl, c1, c2⟩
  · exact no (-1) (by simp [fX6_route, a1, b1, c1, bn1S, hne]) (by simp [fX7_route, a2, b2, c2, bn1S, hne])
  rcases tW v4 (hi := 999) 999 rfl (by decide) with ⟨d1, d2⟩ | ⟨k, hk, rfl, d1, d2⟩
  · exact no (-1) (by simp [fX6_route, a1, b1, c1, d1, bn1S, hne]) (by simp [fX7_route, a2, b2, c2, d2, bn1S, hne])
  have r1 : irem (nI k) 100 = nI (k % 100) := remN (d := 100) (by omega) (by decide) (by decide)
  have r2 : nI k / 100 = nI (k / 100) := pk_div (d := 100) (by omega) (by decide) (by decide)
  have fu := full_at (most := 10) (rows := nR) (by omega) (by decide)
  by_cases hfull : nR < 10
  · have gr := grow_at (most := 10) hfull (by decide)
    refine ⟨nI nR, 0, nI (nR + 1), app5 (F 3) nR (nI p) (nI q) (nI w) (nI (k % 100)) (nI (k / 100)), upd (N 0) 3 (nI (nR + 1)), app5 (N 4) nR (nI p) (nI q) (nI w) (nI (k % 100)) (nI (k / 100)), ?_, ?_, ?_⟩
    · simp only [fX6_route, a1, b1, c1, d1, bn1S, eq10, if_false, e9, hne, r1, r2]
      rw [show fX4_isFull 10 (nI nR) = _ from fu, if_pos hfull, bn1S, if_pos rfl, show fX4_grow 10 (nI nR) = _ from gr, bn2S, put5 (by omega) (by decide)]
    · simp only [fX7_route, a2, b2, c2, d2, bn1S, eq10, if_false, hne, r1, r2]
      simp (disch := omega) only [fa_lit, pk_mul, nI_add, ixN, cl, gdT, n3]
      rw [if_neg (nI_neq (by omega) (by omega) (by decide))]
      simp only [upd_same, show nI (nR + 1) - nI 1 = nI nR from nI_pred nR]
      rfl
    · refine Inv_desk h ⟨td, lk, rt, fr, nB, nW, nR + 1, nO, nA, nU, ⟨by simp [va_up, hd], by simp [va_up, upd, hn], by omega⟩, by simpa [va_up] using hBox, by simpa [va_up] using hWo, by simpa [va_up] using hWe, ?_, by simpa [va_up] using hOf, by simpa [va_up] using hWa, by simpa [va_up] using hLv, by simpa [va_up] using hLs, by simpa [va_up] using hUs⟩ rfl (fun i hi => by rw [up_ge (b := 15) (by decide) hi, up_ge (b := 15) (by decide) hi]) (fun j hj => up_ge (by decide) hj) rfl rfl rfl rfl (Or.inl rfl)
      show RRoute (nR + 1) (app5 (F 3) nR (nI p) (nI q) (nI w) (nI (k % 100)) (nI (k / 100))) (app5 (N 4) nR (nI p) (nI q) (nI w) (nI (k % 100)) (nI (k / 100)))
      intro r hr
      rcases Nat.lt_or_ge r nR with z | z
      · obtain ⟨bx, dy, pl, wt, kn, hh⟩ := hRo r z
        refine ⟨bx, dy, pl, wt, kn, ?_⟩
        rw [app5_old (by omega), app5_old (by omega), app5_old (by omega), app5_old (by omega), app5_old (by omega), app5_old (by omega), app5_old (by omega), app5_old (by omega), app5_old (by omega), app5_old (by omega)]
        exact hh
      · obtain rfl : r = nR := by omega
        exact ⟨p, q, w, k % 100, k / 100, by omega, ⟨app5_0, app5_0⟩, ⟨app5_1, app5_1⟩, ⟨app5_2, app5_2⟩, ⟨app5_3, app5_3⟩, ⟨app5_4, app5_4⟩⟩
  · obtain rfl : nR = 10 := by omega
    refine no (-2) ?_ ?_
    · simp only [fX6_route, a1, b1, c1, d1, bn1S, eq10, if_false, e9, hne]
      rw [show fX4_isFull 10 (nI 10) = _ from fu, if_neg hfull, bn1S, if_neg (by decide)]
    · simp only [fX7_route, a2, b2, c2, d2, bn1S, eq10, if_false, hne]
      simp (disch := omega) only [fa_lit, ixN, cl, gdT, n3, if_true]
theorem RTurn_add {n off : Nat} {f m : Nat → Int32} {k0 : Nat} (hk : off = 5 * k0) (h : RTurn n off f m) {pl ln kd fi la : Nat} (hh : pl ≤ 5 ∧ ln ≤ 3 ∧ kd ≤ 2 ∧ fi ≤ la ∧ la ≤ 200) : RTurn (n + 1) off (app5 f n (nI pl) (nI ln) (nI kd) (nI fi) (nI la)) (app5 m (k0 + n) (nI pl) (nI ln) (nI kd) (nI fi) (nI la)) := by
  intro o ho
  rcases Nat.lt_or_ge o n with z | z
  · obtain ⟨a, b, c, d, e, hh⟩ := h o z
    refine ⟨a, b, c, d, e, ?_⟩
    rw [app5_old (by omega), app5_old (by omega), app5_old (by omega), app5_old (by omega), app5_old (by omega), app5_old (by omega), app5_old (by omega), app5_old (by omega), app5_old (by omega), app5_old (by omega)]
    exact hh
  · obtain rfl : o = n := by omega
    refine ⟨pl, ln, kd, fi, la, hh, ⟨app5_0, ?_⟩, ⟨app5_1, ?_⟩, ⟨app5_2, ?_⟩, ⟨app5_3, ?_⟩, ⟨app5_4, ?_⟩⟩
    · rw [show off + 5 * o = 5 * (k0 + o) by omega]; exact app5_0
    · rw [show off + 5 * o + 1 = 5 * (k0 + o) + 1 by omega]; exact app5_1
    · rw [show off + 5 * o + 2 = 5 * (k0 + o) + 2 by omega]; exact app5_2
    · rw [show off + 5 * o + 3 = 5 * (k0 + o) + 3 by omega]; exact app5_3
    · rw [show off + 5 * o + 4 = 5 * (k0 + o) + 4 by omega]; exact app5_4
theorem RTurn_old {n off : Nat} {f m : Nat → Int32} {r : Nat} {a b c d e : Int32} (h : RTurn n off f m) (hr : 5 * r + 5 ≤ off ∨ off + 5 * n ≤ 5 * r) : RTurn n off f (app5 m r a b c d e) := by
  intro o ho
  obtain ⟨a, b, c, d, e, hh⟩ := h o ho
  refine ⟨a, b, c, d, e, ?_⟩
  rw [app5_old (by omega), app5_old (by omega), app5_old (by omega), app5_old (by omega), app5_old (by omega)]
  exact hh
theorem op_turn : Op_turn Inv := by
  intro E F M N v1 v2 v3 v4 v5 v6 _ h
  obtain ⟨⟨td, lk, rt, fr, nB, nW, nR, nO, nA, nU, ⟨hd, hn, hb⟩, hBox, hWo, hWe, hRo, hOf, hWa, hLv, hLs, hUs⟩, hK, hT, hP⟩ := id h
  have e10 : E 10 = nI nO := hd.2.2.2.2.2.2.2.2.1
  have e11 : E 11 = nI nA := hd.2.2.2.2.2.2.2.2.2.1
  have n4 : N 0 4 = nI nO := hn.2.2.2.2.1
  have n5 : N 0 5 = nI nA := hn.2.2.2.2.2.1
  have no : ∀ r : Int32, fX6_turn v1 v2 v3 v4 v5 v6 (E 10) (F 4) (E 11) (F 5) = some (r, E 10, F 4, E 11, F 5) → fX7_turn v1 v2 v3 v4 v5 v6 (N 0) (N 5) = some (r, N 0, N 5) → ∃ (r z0 : Int32) (z1 : Nat → Int32) (z2 : Int32) (z3 z4 z5 : Nat → Int32), fX6_turn v1 v2 v3 v4 v5 v6 (E 10) (F 4) (E 11) (F 5) = some (r, z0, z1, z2, z3) ∧ fX7_turn v1 v2 v3 v4 v5 v6 (N 0) (N 5) = some (r, z4, z5) ∧ Inv (va_up (va_up E 10 z0) 11 z2) (va_up (va_up F 4 z1) 5 z3) M (va_up (va_up N 0 z4) 5 z5) := by
    intro r P1 P2
    refine ⟨r, E 10, F 4, E 11, F 5, N 0, N 5, P1, P2, ?_⟩
    rw [up_self, up_self, up_self, up_self, up_self, up_self]; exact h
  rcases tPlace v2 with ⟨a1, a2⟩ | ⟨p, hp, rfl, a1, a2⟩
  · exact no (-1) (by simp [fX6_turn, a1, bn1S]) (by simp [fX7_turn, a2, bn1S])
  rcases tLine v3 with ⟨b1, b2⟩ | ⟨ln, hln, rfl, b1, b2⟩
  · exact no (-1) (by simp [fX6_turn, a1, b1, bn1S]) (by simp [fX7_turn, a2, b2, bn1S])
  rcases tKind v4 with ⟨c1, c2⟩ | ⟨kd, hkd, rfl, c1, c2⟩
  · exact no (-1) (by simp [fX6_turn, a1, b1, c1, bn1S]) (by simp [fX7_turn, a2, b2, c2, bn1S])
  rcases tDay v5 with ⟨d1, d2⟩ | ⟨fi, hfi, rfl, d1, d2⟩
  · exact no (-1) (by simp [fX6_turn, a1, b1, c1, d1, bn1S]) (by simp [fX7_turn, a2, b2, c2, d2, bn1S])
  rcases tDay v6 with ⟨g1, g2⟩ | ⟨la, hla, rfl, g1, g2⟩
  · exact no (-1) (by simp [fX6_turn, a1, b1, c1, d1, g1, bn1S]) (by simp [fX7_turn, a2, b2, c2, d2, g2, bn1S])
  rcases Nat.lt_or_ge la fi with hgt | hle
  · have q : ¬ nI fi ≤ nI la := nI_ge (by omega) (by omega)
    exact no (-1) (by simp [fX6_turn, a1, b1, c1, d1, g1, bn1S, q]) (by simp [fX7_turn, a2, b2, c2, d2, g2, bn1S, q])
  have q : nI fi ≤ nI la := nI_le hle (by omega)
  by_cases hw : v1 = 0
  · have fu := full_at (most := 7) (rows := nO) (by omega) (by decide)
    by_cases hfull : nO < 7
    · have gr := grow_at (most := 7) hfull (by decide)
      refine ⟨nI nO, nI (nO + 1), app5 (F 4) nO (nI p) (nI ln) (nI kd) (nI fi) (nI la), E 11, F 5, upd (N 0) 4 (nI (nO + 1)), app5 (N 5) (0 + nO) (nI p) (nI ln) (nI kd) (nI fi) (nI la), ?_, ?_, ?_⟩
      · simp only [fX6_turn, a1, b1, c1, d1, g1, bn1S, eq10, if_false, e10, q, if_true, hw]
        rw [show fX4_isFull 7 (nI nO) = _ from fu, if_pos hfull, bn1S, if_pos rfl, show fX4_grow 7 (nI nO) = _ from gr, bn2S, put5 (by omega) (by decide)]
      · simp only [fX7_turn, fX7_turn_58, fX7_turn_94, a2, b2, c2, d2, g2, bn1S, eq10, if_false, q, if_true, hw]
        simp (disch := omega) only [fa_lit, pk_mul, nI_add, ixN, cl, gdT, n4, Nat.add_zero]
        rw [if_neg (nI_neq (by omega) (by omega) (by decide))]
        simp only [upd_same, show nI (nO + 1) - nI 1 = nI nO from nI_pred nO, Nat.zero_add]
        rfl
      · refine Inv_desk h ⟨td, lk, rt, fr, nB, nW, nR, nO + 1, nA, nU, ⟨by simp [va_up, hd], by simp [va_up, upd, hn], by omega⟩, by simpa [va_up] using hBox, by simpa [va_up] using hWo, by simpa [va_up] using hWe, by simpa [va_up] using hRo, RTurn_add (k0 := 0) rfl hOf (by omega), RTurn_old hWa (by omega), by simpa [va_up] using hLv, by simpa [va_up] using hLs, by simpa [va_up] using hUs⟩ rfl (fun i hi => by rw [up_ge (b := 15) (by decide) hi, up_ge (b := 15) (by decide) hi]) (fun j hj => by rw [up_ge (b := 9) (by decide) hj, up_ge (b := 9) (by decide) hj]) rfl rfl rfl rfl (RP_same hP rfl rfl rfl rfl rfl rfl rfl)
    · obtain rfl : nO = 7 := by omega
      refine no (-2) ?_ ?_
      · simp only [fX6_turn, a1, b1, c1, d1, g1, bn1S, eq10, if_false, e10, q, if_true, hw]
        rw [show fX4_isFull 7 (nI 7) = _ from fu, if_neg hfull, bn1S, if_neg (by decide)]
      · simp only [fX7_turn, fX7_turn_58, a2, b2, c2, d2, g2, bn1S, eq10, if_false, q, if_true, hw]
        simp (disch := omega) only [fa_lit, ixN, cl, gdT, n4, if_true]
  · have fu := full_at (most := 7) (rows := nA) (by omega) (by decide)
    by_cases hfull : nA < 7
    · have gr := grow_at (most := 7) hfull (by decide)
      refine ⟨nI nA, E 10, F 4, nI (nA + 1), app5 (F 5) nA (nI p) (nI ln) (nI kd) (nI fi) (nI la), upd (N 0) 5 (nI (nA + 1)), app5 (N 5) (7 + nA) (nI p) (nI ln) (nI kd) (nI fi) (nI la), ?_, ?_, ?_⟩
      · simp only [fX6_turn, a1, b1, c1, d1, g1, bn1S, eq10, if_false, e11, q, if_true, hw]
        rw [show fX4_isFull 7 (nI nA) = _ from fu, if_pos hfull, bn1S, if_pos rfl, show fX4_grow 7 (nI nA) = _ from gr, bn2S, put5 (by omega) (by decide)]
      · simp only [fX7_turn, fX7_turn_58, fX7_turn_94, a2, b2, c2, d2, g2, bn1S, eq10, if_false, q, if_true, hw]
        simp (disch := omega) only [fa_lit, pk_mul, nI_add, ixN, cl, gdT, n5]
        rw [if_neg (nI_neq (by omega) (by omega) (by decide))]
        simp only [upd_same, show nI (nA + 1) - nI 1 = nI nA from nI_pred nA, app5, show 5 * (7 + nA) = 5 * nA + 35 by omega]
      · refine Inv_desk h ⟨td, lk, rt, fr, nB, nW, nR, nO, nA + 1, nU, ⟨by simp [va_up, hd], by simp [va_up, upd, hn], by omega⟩, by simpa [va_up] using hBox, by simpa [va_up] using hWo, by simpa [va_up] using hWe, by simpa [va_up] using hRo, RTurn_old hOf (by omega), RTurn_add (k0 := 7) rfl hWa (by omega), by simpa [va_up] using hLv, by simpa [va_up] using hLs, by simpa [va_up] using hUs⟩ rfl (fun i hi => by rw [up_ge (b := 15) (by decide) hi, up_ge (b := 15) (by decide) hi]) (fun j hj => by rw [up_ge (b := 9) (by decide) hj, up_ge (b := 9) (by decide) hj]) rfl rfl rfl rfl (RP_same hP rfl rfl rfl rfl rfl rfl rfl)
    · obtain rfl : nA = 7 := by omega
      refine no (-2) ?_ ?_
      · simp only [fX6_turn, a1, b1, c1, d1, g1, bn1S, eq10, if_false, e11, q, if_true, hw]
        rw [show fX4_isFull 7 (nI 7) = _ from fu, if_neg hfull, bn1S, if_neg (by decide)]
      · simp only [fX7_turn, fX7_turn_58, a2, b2, c2, d2, g2, bn1S, eq10, if_false, q, if_true, hw]
        simp (disch := omega) only [fa_lit, ixN, cl, gdT, n5, if_true]
