def cN (m : Nat → Int32) (i c : Nat) : Nat := (m (5 * i + c)).toNatClampNeg
def kyN (m : Nat → Int32) (i : Nat) : Nat := 100 * cN m i 1 + i
theorem word_row {nW i : Nat} {f m : Nat → Int32} (hW : RWord nW f m) (hi : i < nW) : (∀ c, c < 5 → f (5 * i + c) = nI (cN m i c) ∧ m (5 * i + c) = nI (cN m i c)) ∧ cN m i 0 ≤ 23 ∧ cN m i 1 ≤ 200 ∧ cN m i 2 ≤ 5 ∧ cN m i 3 ≤ 1 ∧ cN m i 4 ≤ 200 := by
  obtain ⟨bx, dy, pl, wt, kn, hh, x0, x1, x2, x3, x4⟩ := hW i hi
  have e0 : cN m i 0 = bx := by
    unfold cN
    rw [Nat.add_zero, x0.2, cl _ (by omega)]
  have e1 : cN m i 1 = dy := by unfold cN; rw [x1.2, cl _ (by omega)]
  have e2 : cN m i 2 = pl := by unfold cN; rw [x2.2, cl _ (by omega)]
  have e3 : cN m i 3 = wt := by unfold cN; rw [x3.2, cl _ (by omega)]
  have e4 : cN m i 4 = kn := by unfold cN; rw [x4.2, cl _ (by omega)]
  refine ⟨fun c hc => ?_, by omega, by omega, by omega, by omega, by omega⟩
  rcases (show c = 0 ∨ c = 1 ∨ c = 2 ∨ c = 3 ∨ c = 4 by omega) with rfl | rfl | rfl | rfl | rfl
  · rw [e0]; exact x0
  · rw [e1]; exact x1
  · rw [e2]; exact x2
  · rw [e3]; exact x3
  · rw [e4]; exact x4
theorem word_cell {nW i : Nat} {f m : Nat → Int32} {E7 : Int32} (hW : RWord nW f m) (hi : i < nW) (h60 : nW ≤ 60) (e7 : E7 = nI nW) (c : Nat) (hc : c < 5) : fX4_cell (nI i) (nI c) (nI 5) E7 300 f = some (nI (cN m i c)) := by
  rw [e7, cell_at hi hc (by omega) (by omega) (by decide) (by decide), ((word_row hW hi).1 c hc).1]
theorem heard_at {nW i b k : Nat} {f m : Nat → Int32} {E7 : Int32} (hW : RWord nW f m) (hi : i < nW) (h60 : nW ≤ 60) (e7 : E7 = nI nW) (hb : b ≤ 23) (hk : k ≤ 200) : fX6_isHeard (nI i) (nI b) (nI k) E7 f = some (if cN m i 0 = b ∧ cN m i 4 ≤ k then 1 else 0) := by
  obtain ⟨-, b0, b1, b2, b3, b4⟩ := word_row hW hi
  have q0 : fX4_cell (nI i) 0 5 E7 300 f = some (nI (cN m i 0)) := word_cell hW hi h60 e7 0 (by decide)
  have q4 : fX4_cell (nI i) 4 5 E7 300 f = some (nI (cN m i 4)) := word_cell hW hi h60 e7 4 (by decide)
  unfold fX6_isHeard
  rw [q0, bn1S, q4, bn1S]
  by_cases c1 : cN m i 0 = b
  · rw [if_pos (by rw [c1])]
    by_cases c2 : cN m i 4 ≤ k
    · rw [if_neg (nI_nlt c2 (by omega)), if_pos ⟨c1, c2⟩]
    · rw [if_pos (nI_lt (by omega) (by omega)), if_neg (fun z => c2 z.2)]
  · rw [if_neg (nI_neq c1 (by omega) (by omega)), if_neg (fun z => c1 z.1)]
theorem behind_at {nW i w : Nat} {f m : Nat → Int32} {E7 : Int32} (hW : RWord nW f m) (hi : i < nW) (hw : w < nW) (h60 : nW ≤ 60) (e7 : E7 = nI nW) : fX6_isBehind (nI i) (nI w) E7 f = some (if kyN m w < kyN m i then 1 else 0) := by
  obtain ⟨-, b0, b1, b2, b3, b4⟩ := word_row hW hi
  obtain ⟨-, c0, c1, c2, c3, c4⟩ := word_row hW hw
  have q1 : fX4_cell (nI i) 1 5 E7 300 f = some (nI (cN m i 1)) := word_cell hW hi h60 e7 1 (by decide)
  have q2 : fX4_cell (nI w) 1 5 E7 300 f = some (nI (cN m w 1)) := word_cell hW hw h60 e7 1 (by decide)
  unfold fX6_isBehind kyN
  rw [q1, bn1S, q2, bn1S]
  by_cases d1 : cN m w 1 < cN m i 1
  · rw [if_pos (nI_lt d1 (by omega)), if_pos (by omega)]
  · rw [if_neg (nI_nlt (by omega) (by omega))]
    by_cases d2 : cN m i 1 = cN m w 1
    · rw [if_pos (by rw [d2])]
      by_cases d3 : i ≤ w
      · rw [if_pos (nI_le d3 (by omega)), if_neg (by omega)]
      · rw [if_neg (nI_ge (by omega) (by omega)), if_pos (by omega)]
    · rw [if_neg (nI_neq d2 (by omega) (by omega)), if_neg (by omega)]
theorem next6 {nW w b k : Nat} {f m : Nat → Int32} {E7 : Int32} (hW : RWord nW f m) (hw : w < nW) (h60 : nW ≤ 60) (e7 : E7 = nI nW) (hb : b ≤ 23) (hk : k ≤ 200) : ∃ r, fX6_wordBehind (nI w) (nI b) (nI k) E7 f = some r ∧ ((r = -3 ∧ ∀ i, i < nW → ¬ ((cN m i 0 = b ∧ cN m i 4 ≤ k) ∧ kyN m w < kyN m i)) ∨ ∃ s, s < nW ∧ r = nI s ∧ ((cN m s 0 = b ∧ cN m s 4 ≤ k) ∧ kyN m w < kyN m s) ∧ ∀ i, i < nW → ((cN m i 0 = b ∧ cN m i 4 ≤ k) ∧ kyN m w < kyN m i) → 100 * cN m s 1 + s ≤ 100 * cN m i 1 + i) := by
  refine min_loop (fun n a i => fX6_wordBehind_7 (nI w) (nI b) (nI k) E7 f n a i) nW h60 (fun i => (cN m i 0 = b ∧ cN m i 4 ≤ k) ∧ kyN m w < kyN m i) (fun i => cN m i 1) (-3) (by decide) ?_ ?_
  · intro n a
    show fX6_wordBehind_7 _ _ _ _ _ (n + 1) a (nI nW) = some a
    rw [fX6_wordBehind_7, sz_at, bn1S, e7, if_pos (nI_le (Nat.le_refl _) (by omega))]
  · intro n i a hi ha
    show fX6_wordBehind_7 _ _ _ _ _ (n + 1) a (nI i) = fX6_wordBehind_7 _ _ _ _ _ n _ (nI (i + 1))
    rw [fX6_wordBehind_7, sz_at, bn1S, e7, if_neg (nI_ge hi (by omega)), ← e7, heard_at hW hi h60 e7 hb hk, bn1S, behind_at hW hi hw h60 e7, bn1S]
    simp only [fX6_wordBehind_59, fX6_wordBehind_63, nI_1]
    by_cases c1 : cN m i 0 = b ∧ cN m i 4 ≤ k
    · rw [if_pos c1, if_neg (by decide)]
      by_cases c2 : kyN m w < kyN m i
      · rw [if_pos c2, if_neg (by decide)]
        rcases ha with rfl | ⟨s, hs, rfl⟩
        · rw [if_pos (by decide), if_pos ⟨⟨c1, c2⟩, Or.inl rfl⟩]
        · rw [if_neg (nlt0 s (by omega)), behind_at hW (show s < nW by omega) hi h60 e7, bn1S]
          by_cases c3 : cN m i 1 < cN m s 1
          · rw [if_pos (show kyN m i < kyN m s by unfold kyN; omega), if_neg (by decide), if_pos ⟨⟨c1, c2⟩, Or.inr ⟨s, hs, rfl, c3⟩⟩]
          · rw [if_neg (show ¬ kyN m i < kyN m s by unfold kyN; omega), if_pos rfl, if_neg]
            rintro ⟨-, z | ⟨s', hs', z1, z2⟩⟩
            · exact nlt0 s (by omega) (by rw [z]; decide)
            · rw [nI_eq (by omega) (by omega)] at z1
              subst z1
              exact c3 z2
      · rw [if_neg c2, if_pos rfl, if_neg (fun z => c2 z.1.2)]
    · rw [if_neg c1, if_pos rfl, if_neg (fun z => c1 z.1.1)]
theorem next7 {nW b k : Nat} {f m : Nat → Int32} {nm : Nat → Int32} (hW : RWord nW f m) (h60 : nW ≤ 60) (n2 : nm 2 = nI nW) (hb : b ≤ 23) (hk : k ≤ 200) (v2 : Int32) (T : Nat → Prop) (hT : (v2 = -1 ∧ ∀ i, T i) ∨ ∃ w, w < nW ∧ v2 = nI w ∧ ∀ i, T i ↔ kyN m w < kyN m i) : ∃ r, fX7_follows (nI b) v2 (nI k) nm m = some r ∧ ((r = -1 ∧ ∀ i, i < nW → ¬ ((cN m i 0 = b ∧ cN m i 4 ≤ k) ∧ T i)) ∨ ∃ s, s < nW ∧ r = nI s ∧ ((cN m s 0 = b ∧ cN m s 4 ≤ k) ∧ T s) ∧ ∀ i, i < nW → ((cN m i 0 = b ∧ cN m i 4 ≤ k) ∧ T i) → 100 * cN m s 1 + s ≤ 100 * cN m i 1 + i) := by
  refine min_loop (fun n a i => fX7_follows_6 (nI b) v2 (nI k) nm m n a i) nW h60 (fun i => (cN m i 0 = b ∧ cN m i 4 ≤ k) ∧ T i) (fun i => cN m i 1) (-1) (by decide) ?_ ?_
  · intro n a
    show fX7_follows_6 _ _ _ _ _ (n + 1) a (nI nW) = some a
    rw [fX7_follows_6, gdt (show ix (2 : Int32) 10 = true by decide), show (2 : Int32).toNatClampNeg = 2 from rfl, n2, if_pos (nI_le (Nat.le_refl _) (by omega))]
  · intro n i a hi ha
    obtain ⟨wr, b0, b1, b2, b3, b4⟩ := word_row hW hi
    have j0 : (5 : Int32) * nI i = nI (5 * i) := pk_mul 5 i
    have j1 : nI (5 * i) + 1 = nI (5 * i + 1) := nI_add _ 1
    have j4 : nI (5 * i) + 4 = nI (5 * i + 4) := nI_add _ 4
    have m0 : m (5 * i) = nI (cN m i 0) := (wr 0 (by decide)).2
    have m1 : m (5 * i + 1) = nI (cN m i 1) := (wr 1 (by decide)).2
    have m4 : m (5 * i + 4) = nI (cN m i 4) := (wr 4 (by decide)).2
    have e0 : ∀ K, fX7_follows_120 K a (nI i) 0 m = K a (nI (i + 1)) := fun K => by
      simp only [fX7_follows_120, fX7_follows_161, if_true, nI_1]
    have e1 : ∀ K, fX7_follows_120 K a (nI i) 1 m = K (@ite Int32 (a = -1 ∨ ∃ s, s < i ∧ a = nI s ∧ cN m i 1 < cN m s 1) (Classical.propDecidable _) (nI i) a) (nI (i + 1)) := by
      intro K
      rw [fX7_follows_120, if_neg (by decide)]
      simp only [fX7_follows_157, fX7_follows_161, nI_1]
      rcases ha with rfl | ⟨s, hs, rfl⟩
      · rw [if_pos (by decide), if_pos (Or.inl rfl)]
      · have ms : m (5 * s + 1) = nI (cN m s 1) := ((word_row hW (show s < nW by omega)).1 1 (by decide)).2
        have bs := (word_row hW (show s < nW by omega)).2.2.1
        rw [if_neg (nlt0 s (by omega)), j0, j1, show (5 : Int32) * nI s + 1 = nI (5 * s + 1) from ax 5 s 1, ixN (by omega) (by decide), gdT, ixN (by omega) (by decide), gdT, cl _ (by omega), cl _ (by omega), m1, ms]
        by_cases c3 : cN m i 1 < cN m s 1
        · rw [if_neg (nI_ge c3 (by omega)), if_pos (Or.inr ⟨s, hs, rfl, c3⟩)]
        · rw [if_pos (nI_le (by omega) (by omega)), if_neg]
          rintro (z | ⟨s', hs', z1, z2⟩)
          · exact nlt0 s (by omega) (by rw [z]; decide)
          · rw [nI_eq (by omega) (by omega)] at z1
            subst z1
            exact c3 z2
    have e50 : ∀ K, fX7_follows_50 K v2 a (nI i) 1 m = @ite _ (T i) (Classical.propDecidable _) (fX7_follows_120 K a (nI i) 1 m) (fX7_follows_120 K a (nI i) 0 m) := by
      intro K
      rw [fX7_follows_50, if_neg (by decide)]
      simp only [fX7_follows_115, fX7_follows_119]
      rcases hT with ⟨rfl, hT⟩ | ⟨w, hw, rfl, hT⟩
      · rw [if_pos (by decide), if_pos (hT i)]
      · have mw : m (5 * w + 1) = nI (cN m w 1) := ((word_row hW hw).1 1 (by decide)).2
        have bw := (word_row hW hw).2.2.1
        rw [if_neg (nlt0 w (by omega)), j0, j1, show (5 : Int32) * nI w + 1 = nI (5 * w + 1) from ax 5 w 1, ixN (by omega) (by decide), gdT, ixN (by omega) (by decide), gdT, gdT, gdT, cl _ (by omega), cl _ (by omega), m1, mw]
        by_cases d1 : cN m w 1 < cN m i 1
        · rw [if_pos (nI_lt d1 (by omega)), if_pos ((hT i).2 (by unfold kyN; omega))]
        · rw [if_neg (nI_nlt (by omega) (by omega))]
          by_cases d2 : cN m i 1 = cN m w 1
          · rw [if_pos (by rw [d2])]
            by_cases d3 : i ≤ w
            · rw [if_pos (nI_le d3 (by omega)), if_neg (fun z => by have := (hT i).1 z; unfold kyN at this; omega)]
            · rw [if_neg (nI_ge (by omega) (by omega)), if_pos ((hT i).2 (by unfold kyN; omega))]
          · rw [if_neg (nI_neq d2 (by omega) (by omega)), if_neg (fun z => by have := (hT i).1 z; unfold kyN at this; omega)]
    have e49 : ∀ K, fX7_follows_49 K v2 a (nI i) m = fX7_follows_120 K a (nI i) 0 m := fun K => by
      simp only [fX7_follows_49, fX7_follows_50, fX7_follows_119, if_true]
    show fX7_follows_6 _ _ _ _ _ (n + 1) a (nI i) = fX7_follows_6 _ _ _ _ _ n _ (nI (i + 1))
    rw [fX7_follows_6, gdt (show ix (2 : Int32) 10 = true by decide), show (2 : Int32).toNatClampNeg = 2 from rfl, n2, if_neg (nI_ge hi (by omega)), j0, j4, ixN (by omega) (by decide), gdT, ixN (by omega) (by decide), gdT, cl _ (by omega), cl _ (by omega), m0, m4, e49, e50, e0, e1]
    by_cases c1 : cN m i 0 = b
    · rw [if_pos (by rw [c1])]
      by_cases c2 : cN m i 4 ≤ k
      · rw [if_neg (nI_nlt c2 (by omega))]
        by_cases c3 : T i
        · rw [if_pos c3]
          by_cases c4 : a = -1 ∨ ∃ s, s < i ∧ a = nI s ∧ cN m i 1 < cN m s 1
          · rw [if_pos c4, if_pos ⟨⟨⟨c1, c2⟩, c3⟩, c4⟩]
          · rw [if_neg c4, if_neg (fun z => c4 z.2)]
        · rw [if_neg c3, if_neg (fun z => c3 z.1.2)]
      · rw [if_pos (nI_lt (by omega) (by omega)), if_neg (fun z => c2 z.1.1.2)]
    · rw [if_neg (nI_neq c1 (by omega) (by omega)), if_neg (fun z => c1 z.1.1.1)]
