/-! SUITS -/
theorem tf (P : Prop) : P = True ∨ P = False := Classical.propComplete P
theorem near7_one {nR : Nat} {f m : Nat → Int32} {nm : Nat → Int32} (hR : RRoute nR f m) (h10 : nR ≤ 10) (n3 : nm 3 = nI nR) (v1 v2 : Int32) : ∀ (k i n : Nat), i + k = nR → k < n → fX7_isNear_14 v1 v2 nm m n 1 (nI i) = some 1 := by
  intro k
  induction k with
  | zero =>
    intro i n h1 h2
    obtain ⟨n, rfl⟩ : ∃ x, n = x + 1 := ⟨n - 1, by omega⟩
    obtain rfl : i = nR := by omega
    rw [fX7_isNear_14, gdt (show ix (3 : Int32) 10 = true by decide), show (3 : Int32).toNatClampNeg = 3 from rfl, n3, if_pos (nI_le (Nat.le_refl _) (by omega))]
    rfl
  | succ k ih =>
    intro i n h1 h2
    obtain ⟨n, rfl⟩ : ∃ x, n = x + 1 := ⟨n - 1, by omega⟩
    have hi : i < nR := by omega
    rw [fX7_isNear_14, gdt (show ix (3 : Int32) 10 = true by decide), show (3 : Int32).toNatClampNeg = 3 from rfl, n3, if_neg (nI_ge hi (by omega)), show (5 : Int32) * nI i + 1 = nI (5 * i + 1) from ax 5 i 1, show (5 : Int32) * nI i = nI (5 * i) from pk_mul 5 i, ixN (by omega) (by decide), gdT, ixN (by omega) (by decide), gdT]
    simp only [fX7_isNear_57, fX7_isNear_58, fX7_isNear_97, fX7_isNear_102, nI_1, eq10, if_false, ih (i + 1) n (by omega) (by omega)]
    split
    · split <;> rfl
    · rfl
theorem joined_at {nR : Nat} {f m : Nat → Int32} {E9 : Int32} {nm : Nat → Int32} (hR : RRoute nR f m) (h10 : nR ≤ 10) (e9 : E9 = nI nR) (n3 : nm 3 = nI nR) (v1 v2 : Int32) : ∃ j : Nat, j ≤ 1 ∧ fX6_isJoined v1 v2 E9 f = some (nI j) ∧ fX7_isNear v1 v2 nm m = some (nI j) := by
  have main : ∀ t : Nat, t ≤ 1 → ∃ j : Nat, j ≤ 1 ∧ fX6_isJoined_14 v1 v2 E9 f FU (nI t) 0 = some (nI j) ∧ fX7_isNear_14 v1 v2 nm m FU (nI t) 0 = some (nI j) := by
    intro t ht
    have main := pair_loopF (σ := Int32) (σ' := Int32) (fun n i a => fX6_isJoined_14 v1 v2 E9 f n a i) (fun n i a => fX7_isNear_14 v1 v2 nm m n a i) nR (fun _ a a' => a = a' ∧ (a = 0 ∨ a = 1)) (fun r r' => r = r' ∧ (r = 0 ∨ r = 1)) ?_ ?_ nR 0 FU FU (nI t) (nI t) (by omega) ⟨rfl, ?_⟩ (by rw [FU_eq]; omega) (by rw [FU_eq]; omega)
    · obtain ⟨r, r', h1, h2, rfl, h3⟩ := main
      rcases h3 with rfl | rfl
      · exact ⟨0, by omega, h1, h2⟩
      · exact ⟨1, by omega, h1, h2⟩
    · intro n n' a a' hr
      obtain ⟨rfl, hr⟩ := hr
      have hz : zb a = true := by rcases hr with rfl | rfl <;> decide
      refine ⟨a, a, ?_, ?_, rfl, hr⟩
      · show fX6_isJoined_14 _ _ _ _ (n + 1) a (nI nR) = _
        rw [fX6_isJoined_14, sz_at, bn1S, e9, if_pos (nI_le (Nat.le_refl _) (by omega)), gdt hz]
      · show fX7_isNear_14 _ _ _ _ (n' + 1) a (nI nR) = _
        rw [fX7_isNear_14, gdt (show ix (3 : Int32) 10 = true by decide), show (3 : Int32).toNatClampNeg = 3 from rfl, n3, if_pos (nI_le (Nat.le_refl _) (by omega)), gdt hz]
    · intro n n' i a a' hi hm hm' hr
      obtain ⟨rfl, hr⟩ := hr
      rcases hr with rfl | rfl
      · right
        obtain ⟨fr, to, wk, co, rm, hh, x0, x1, -⟩ := hR i hi
        have q0 : fX4_cell (nI i) 0 5 E9 50 f = some (nI fr) := by rw [e9, show fX4_cell (nI i) 0 5 (nI nR) 50 f = some (f (5 * i + 0)) from cell_at (c := 0) (cols := 5) hi (by decide) (by omega) (by omega) (by decide) (by decide), Nat.add_zero, x0.1]
        have q1 : fX4_cell (nI i) 1 5 E9 50 f = some (nI to) := by rw [e9, show fX4_cell (nI i) 1 5 (nI nR) 50 f = some (f (5 * i + 1)) from cell_at (c := 1) (cols := 5) hi (by decide) (by omega) (by omega) (by decide) (by decide), x1.1]
        refine ⟨if (nI fr = v1 ∧ nI to = v2) ∨ (nI fr = v2 ∧ nI to = v1) then 1 else 0, if (nI fr = v1 ∧ nI to = v2) ∨ (nI fr = v2 ∧ nI to = v1) then 1 else 0, ?_, ?_, rfl, by split <;> simp⟩
        · show fX6_isJoined_14 _ _ _ _ (n + 1) 0 (nI i) = _
          rw [fX6_isJoined_14, sz_at, bn1S, e9, if_neg (nI_ge hi (by omega)), ← e9, if_pos rfl, q0, bn1S, q1, bn1S]
          simp only [fX6_isJoined_87, fX6_isJoined_75, fX6_isJoined_91, fX6_isJoined_92, nI_1]
          rcases tf (nI fr = v1) with c1 | c1 <;> rcases tf (nI to = v2) with c2 | c2 <;> rcases tf (nI fr = v2) with c3 | c3 <;> rcases tf (nI to = v1) with c4 | c4 <;> simp only [c1, c2, c3, c4, if_true, if_false, and_true, and_false, or_true, or_false, true_and, false_and, true_or, false_or, and_self, or_self]
        · show fX7_isNear_14 _ _ _ _ (n' + 1) 0 (nI i) = _
          rw [fX7_isNear_14, gdt (show ix (3 : Int32) 10 = true by decide), show (3 : Int32).toNatClampNeg = 3 from rfl, n3, if_neg (nI_ge hi (by omega)), show (5 : Int32) * nI i + 1 = nI (5 * i + 1) from ax 5 i 1, show (5 : Int32) * nI i = nI (5 * i) from pk_mul 5 i, ixN (by omega) (by decide), gdT, ixN (by omega) (by decide), gdT, cl _ (by omega), cl _ (by omega), x0.2, x1.2]
          simp only [fX7_isNear_57, fX7_isNear_58, fX7_isNear_97, fX7_isNear_101, fX7_isNear_102, nI_1]
          simp only [show (5 : Int32) * nI i = nI (5 * i) from pk_mul 5 i, show nI (5 * i) + 1 = nI (5 * i + 1) from nI_add _ 1, ixN (show 5 * i < 50 by omega) (by decide), ixN (show 5 * i + 1 < 50 by omega) (by decide), gdT, cl (5 * i) (by omega), cl (5 * i + 1) (by omega), x0.2, x1.2, eq10, if_false, if_true]
          rcases tf (nI fr = v1) with c1 | c1 <;> rcases tf (nI to = v2) with c2 | c2 <;> rcases tf (nI fr = v2) with c3 | c3 <;> rcases tf (nI to = v1) with c4 | c4 <;> simp only [c1, c2, c3, c4, if_true, if_false, and_true, and_false, or_true, or_false, true_and, false_and, true_or, false_or, and_self, or_self]
      · left
        refine ⟨1, 1, ?_, ?_, rfl, Or.inr rfl⟩
        · show fX6_isJoined_14 _ _ _ _ (n + 1) 1 (nI i) = _
          rw [fX6_isJoined_14, sz_at, bn1S, e9, if_neg (nI_ge hi (by omega)), if_neg (by decide)]
          rfl
        · exact near7_one hR h10 n3 v1 v2 (nR - i) i (n' + 1) (by omega) (by omega)
    · rcases (show t = 0 ∨ t = 1 by omega) with rfl | rfl
      · exact Or.inl rfl
      · exact Or.inr rfl
  by_cases c : v1 = v2
  · obtain ⟨j, hj, h1, h2⟩ := main 1 (by omega)
    exact ⟨j, hj, by rw [fX6_isJoined, if_pos c]; exact h1, by rw [fX7_isNear, if_pos c]; exact h2⟩
  · obtain ⟨j, hj, h1, h2⟩ := main 0 (by omega)
    exact ⟨j, hj, by rw [fX6_isJoined, if_neg c]; exact h1, by rw [fX7_isNear, if_neg c]; exact h2⟩
theorem suit_at {nR nO nA : Nat} {rf rm of wf tm lf lm : Nat → Int32} {E9 E10 E11 E12 : Int32} {nm : Nat → Int32} (hR : RRoute nR rf rm) (hO : RTurn nO 0 of tm) (hW : RTurn nA 35 wf tm) (hL : RLeave lf lm) (h10 : nR ≤ 10) (h7 : nO ≤ 7) (h7' : nA ≤ 7) (e9 : E9 = nI nR) (e10 : E10 = nI nO) (e11 : E11 = nI nA) (e12 : E12 = nI 4) (n3 : nm 3 = nI nR) {o w : Nat} (ho : o < nO) (hw : w < nA) : ∃ s : Nat, s ≤ 1 ∧ fX6_isSuited (nI o) (nI w) E9 rf E10 of E11 wf E12 lf = some (nI s) ∧ fX7_suitsIt (nI o) (nI w) nm rm tm lm = some (nI s) := by
  obtain ⟨pl, ln, kd, fi, la, hh, x0, x1, x2, x3, x4⟩ := hO o ho
  obtain ⟨pl', ln', kd', fi', la', hh', y0, y1, y2, y3, y4⟩ := hW w hw
  obtain ⟨j, hj, j1, j2⟩ := joined_at hR h10 e9 n3 (nI pl) (nI pl')
  obtain ⟨lv, hlv, l1, l2, -⟩ := hL ln ln' (by omega) (by omega)
  simp only [Nat.zero_add] at x0 x1 x2 x3 x4
  have ko : ∀ (c : Nat) (hc : c < 5), fX4_cell (nI o) (nI c) (nI 5) E10 35 of = some (of (5 * o + c)) := fun c hc => by rw [e10]; exact cell_at ho hc (by omega) (by omega) (by decide) (by decide)
  have kw : ∀ (c : Nat) (hc : c < 5), fX4_cell (nI w) (nI c) (nI 5) E11 35 wf = some (wf (5 * w + c)) := fun c hc => by rw [e11]; exact cell_at hw hc (by omega) (by omega) (by decide) (by decide)
  have o0 : fX4_cell (nI o) 0 5 E10 35 of = some (nI pl) := by rw [show fX4_cell (nI o) 0 5 E10 35 of = _ from ko 0 (by decide), Nat.add_zero, x0.1]
  have o1 : fX4_cell (nI o) 1 5 E10 35 of = some (nI ln) := by rw [show fX4_cell (nI o) 1 5 E10 35 of = _ from ko 1 (by decide), x1.1]
  have o2 : fX4_cell (nI o) 2 5 E10 35 of = some (nI kd) := by rw [show fX4_cell (nI o) 2 5 E10 35 of = _ from ko 2 (by decide), x2.1]
  have o3 : fX4_cell (nI o) 3 5 E10 35 of = some (nI fi) := by rw [show fX4_cell (nI o) 3 5 E10 35 of = _ from ko 3 (by decide), x3.1]
  have o4 : fX4_cell (nI o) 4 5 E10 35 of = some (nI la) := by rw [show fX4_cell (nI o) 4 5 E10 35 of = _ from ko 4 (by decide), x4.1]
  have w0 : fX4_cell (nI w) 0 5 E11 35 wf = some (nI pl') := by rw [show fX4_cell (nI w) 0 5 E11 35 wf = _ from kw 0 (by decide), Nat.add_zero, y0.1]
  have w1 : fX4_cell (nI w) 1 5 E11 35 wf = some (nI ln') := by rw [show fX4_cell (nI w) 1 5 E11 35 wf = _ from kw 1 (by decide), y1.1]
  have w2 : fX4_cell (nI w) 2 5 E11 35 wf = some (nI kd') := by rw [show fX4_cell (nI w) 2 5 E11 35 wf = _ from kw 2 (by decide), y2.1]
  have w3 : fX4_cell (nI w) 3 5 E11 35 wf = some (nI fi') := by rw [show fX4_cell (nI w) 3 5 E11 35 wf = _ from kw 3 (by decide), y3.1]
  have w4 : fX4_cell (nI w) 4 5 E11 35 wf = some (nI la') := by rw [show fX4_cell (nI w) 4 5 E11 35 wf = _ from kw 4 (by decide), y4.1]
  have lc : fX4_cell (nI ln) (nI ln') 4 E12 16 lf = some (nI lv) := by rw [e12, show fX4_cell (nI ln) (nI ln') 4 (nI 4) 16 lf = some (lf (4 * ln + ln')) from cell_at (cols := 4) (by omega) (by omega) (by omega) (by omega) (by decide) (by decide), l1]
  have eqn : ∀ a b : Nat, a ≤ 200 → b ≤ 200 → (nI a = nI b ↔ a = b) := fun a b ha hb => nI_eq (by omega) (by omega)
  have eq1 : ∀ a : Nat, a ≤ 200 → (nI a = 1 ↔ a = 1) := fun a ha => nI_eq (b := 1) (by omega) (by omega)
  have eq0 : ∀ a : Nat, a ≤ 200 → (nI a = 0 ↔ a = 0) := fun a ha => nI_eq (b := 0) (by omega) (by omega)
  have ltn : ∀ a b : Nat, a ≤ 200 → b ≤ 200 → (nI a < nI b ↔ a < b) := fun a b ha hb => ⟨fun z => Nat.lt_of_not_le fun y => nI_nlt y (by omega) z, fun z => nI_lt z (by omega)⟩
  have sh : fX6_isSharing (nI ln) (nI ln') E12 lf = some (if ln = ln' ∨ lv = 1 then 1 else 0) := by
    unfold fX6_isSharing fX6_hasLeave
    rw [lc, bn1S]
    simp only [eqn ln ln' (by omega) (by omega), eq1 lv (by omega)]
    by_cases c1 : ln = ln' <;> by_cases c2 : lv = 1 <;> simp [c1, c2, bn1S]
  refine ⟨if kd = kd' ∧ (ln = ln' ∨ lv = 1) ∧ ¬ la' < fi ∧ ¬ la < fi' ∧ j = 1 then 1 else 0, by split <;> omega, ?_, ?_⟩
  · rw [fX6_isSuited, o2, bn1S, w2, bn1S, o1, bn1S, w1, bn1S, sh, bn1S, o3, bn1S, w4, bn1S, w3, bn1S, o4, bn1S, o0, bn1S, w0, bn1S, j1, bn1S]
    simp only [eqn kd kd' (by omega) (by omega), ltn la' fi (by omega) (by omega), ltn la fi' (by omega) (by omega), eq0 j (by omega)]
    by_cases c1 : kd = kd' <;> by_cases c2 : ln = ln' ∨ lv = 1 <;> by_cases c3 : la' < fi <;> by_cases c4 : la < fi' <;> rcases (show j = 0 ∨ j = 1 by omega) with rfl | rfl <;> simp [c1, c2, c3, c4, nI_0] <;> rfl
  · have T1 : fX7_suitsIt (nI o) (nI w) nm rm tm lm = fX7_suitsIt_66 (nI (5 * o)) (nI (35 + 5 * w)) (if ln = ln' ∨ lv = 1 then 1 else 0) nm rm tm := by
      rw [fX7_suitsIt, show (35 : Int32) + 5 * nI w = nI (35 + 5 * w) by rw [show (5 : Int32) * nI w = nI (5 * w) from pk_mul 5 w]; exact nI_add 35 _, show (5 : Int32) * nI o = nI (5 * o) from pk_mul 5 o, show nI (35 + 5 * w) + 1 = nI (35 + 5 * w + 1) from nI_add _ 1, show nI (5 * o) + 1 = nI (5 * o + 1) from nI_add _ 1, ixN (by omega) (by decide), gdT, ixN (by omega) (by decide), gdT, gdT, gdT, cl _ (by omega), cl _ (by omega), x1.2, y1.2, show (4 : Int32) * nI ln + nI ln' = nI (4 * ln + ln') by rw [show (4 : Int32) * nI ln = nI (4 * ln) from pk_mul 4 ln]; exact nI_add _ _, ixN (by omega) (by decide), gdT, cl _ (by omega), l2]
      simp only [eqn ln ln' (by omega) (by omega), eq1 lv (by omega), fX7_suitsIt_61]
      by_cases c1 : ln = ln' <;> by_cases c2 : lv = 1 <;> simp [c1, c2]
    have T2 : ∀ t : Int32, fX7_suitsIt_66 (nI (5 * o)) (nI (35 + 5 * w)) t nm rm tm = fX7_suitsIt_113 (nI (5 * o)) (nI (35 + 5 * w)) t (if ¬ la' < fi ∧ ¬ la < fi' then 1 else 0) nm rm tm := by
      intro t
      rw [fX7_suitsIt_66, show nI (5 * o) + 3 = nI (5 * o + 3) from nI_add _ 3, show nI (35 + 5 * w) + 4 = nI (35 + 5 * w + 4) from nI_add _ 4, show nI (5 * o) + 4 = nI (5 * o + 4) from nI_add _ 4, show nI (35 + 5 * w) + 3 = nI (35 + 5 * w + 3) from nI_add _ 3, ixN (by omega) (by decide), gdT, ixN (by omega) (by decide), gdT, ixN (by omega) (by decide), gdT, ixN (by omega) (by decide), gdT, cl _ (by omega), cl _ (by omega), cl _ (by omega), cl _ (by omega), x3.2, x4.2, y3.2, y4.2]
      simp only [ltn la' fi (by omega) (by omega), ltn la fi' (by omega) (by omega), fX7_suitsIt_112]
      by_cases c3 : la' < fi <;> by_cases c4 : la < fi' <;> simp [c3, c4]
    rw [T1, T2, fX7_suitsIt_113, show nI (5 * o) + 2 = nI (5 * o + 2) from nI_add _ 2, show nI (35 + 5 * w) + 2 = nI (35 + 5 * w + 2) from nI_add _ 2, ixN (by omega) (by decide), gdT, ixN (by omega) (by decide), gdT, ixN (by omega) (by decide), gdT, ixN (by omega) (by decide), gdT, cl _ (by omega), cl _ (by omega), cl _ (by omega), cl _ (by omega), x2.2, y2.2, x0.2, y0.2, j2, bn1S]
    simp only [eqn kd kd' (by omega) (by omega), eq0 j (by omega)]
    by_cases c1 : kd = kd' <;> by_cases c2 : ln = ln' ∨ lv = 1 <;> by_cases c3 : la' < fi <;> by_cases c4 : la < fi' <;> rcases (show j = 0 ∨ j = 1 by omega) with rfl | rfl <;> simp [c1, c2, c3, c4, nI_0] <;> rfl
theorem op_suits : Op_suits Inv := by
  intro E F M N v1 v2 h
  obtain ⟨⟨td, lk, rt, fr, nB, nW, nR, nO, nA, nU, ⟨hd, hn, hb⟩, hBox, hWo, hWe, hRo, hOf, hWa, hLv, hLs, hUs⟩, hK, hT, hP⟩ := id h
  obtain ⟨d0, d1, d2, d3, d4, d5, d6, d7, d8, d9, d10, d11, d12⟩ := hd
  obtain ⟨n0, n1, n2, n3, n4, n5, n6, n7, n8, n9⟩ := hn
  have e9 : E 9 = nI nR := d7
  have e10 : E 10 = nI nO := d8
  have e11 : E 11 = nI nA := d9
  have e12 : E 12 = nI 4 := d10
  have i4 : ix (4 : Int32) 10 = true := by decide
  have i5 : ix (5 : Int32) 10 = true := by decide
  have c4 : (4 : Int32).toNatClampNeg = 4 := rfl
  have c5 : (5 : Int32).toNatClampNeg = 5 := rfl
  rcases tRow v1 nO (by omega) with ⟨a1, a2⟩ | ⟨o, ho, rfl, a1, a2⟩
  · refine ⟨-1, ?_, ?_, h⟩
    · rw [fX6_suits, e10, a1, bn1S, if_pos rfl]
    · rw [fX7_suits, gdt i4, c4, n4, a2, bn1S, if_pos rfl]
  rcases tRow v2 nA (by omega) with ⟨b1, b2⟩ | ⟨w, hw, rfl, b1, b2⟩
  · refine ⟨-1, ?_, ?_, h⟩
    · rw [fX6_suits, e10, a1, bn1S, if_neg (by decide), e11, b1, bn1S, if_pos rfl]
    · rw [fX7_suits, gdt i4, c4, n4, a2, bn1S, if_neg (by decide), gdt i5, c5, n5, b2, bn1S, if_pos rfl]
  obtain ⟨s, hs, s1, s2⟩ := suit_at hRo hOf hWa hLv (by omega) (by omega) (by omega) e9 e10 e11 e12 n3 ho hw
  have s1' : fX6_isSuited (nI o) (nI w) (E 9) (F 3) (nI nO) (F 4) (nI nA) (F 5) (E 12) (F 6) = some (nI s) := by rw [← e10, ← e11]; exact s1
  refine ⟨nI s, ?_, ?_, h⟩
  · rw [fX6_suits, e10, a1, bn1S, if_neg (by decide), e11, b1, bn1S, if_neg (by decide), s1', bn1S]
    rcases (show s = 0 ∨ s = 1 by omega) with rfl | rfl <;> rfl
  · rw [fX7_suits, gdt i4, c4, n4, a2, bn1S, if_neg (by decide), gdt i5, c5, n5, b2, bn1S, if_neg (by decide), s2, bn1S]
    rcases (show s = 0 ∨ s = 1 by omega) with rfl | rfl <;> rfl
