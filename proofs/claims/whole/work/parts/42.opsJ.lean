def qN (m : Nat → Int32) (w s : Nat) : Nat := if cN m w 3 = 0 then (if cN m w 2 = cN m s 2 then 0 else 1) else cN m s 3
theorem quarrel6 {nW w s : Nat} {f m : Nat → Int32} {E7 : Int32} (hW : RWord nW f m) (hw : w < nW) (hs : s < nW) (h60 : nW ≤ 60) (e7 : E7 = nI nW) : fX6_isQuarrel (nI w) (nI s) E7 f = some (nI (qN m w s)) := by
  obtain ⟨-, b0, b1, b2, b3, b4⟩ := word_row hW hw
  obtain ⟨-, c0, c1, c2, c3, c4⟩ := word_row hW hs
  have q2 : fX4_cell (nI w) 2 5 E7 300 f = some (nI (cN m w 2)) := word_cell hW hw h60 e7 2 (by decide)
  have q3 : fX4_cell (nI w) 3 5 E7 300 f = some (nI (cN m w 3)) := word_cell hW hw h60 e7 3 (by decide)
  have r2 : fX4_cell (nI s) 2 5 E7 300 f = some (nI (cN m s 2)) := word_cell hW hs h60 e7 2 (by decide)
  have r3 : fX4_cell (nI s) 3 5 E7 300 f = some (nI (cN m s 3)) := word_cell hW hs h60 e7 3 (by decide)
  have o1 : fX6_isOut (nI w) E7 f = some (nI (cN m w 3)) := by
    unfold fX6_isOut
    rw [q3, bn1S]
    rcases (show cN m w 3 = 0 ∨ cN m w 3 = 1 by omega) with e | e <;> rw [e] <;> rfl
  have o2 : fX6_isOut (nI s) E7 f = some (nI (cN m s 3)) := by
    unfold fX6_isOut
    rw [r3, bn1S]
    rcases (show cN m s 3 = 0 ∨ cN m s 3 = 1 by omega) with e | e <;> rw [e] <;> rfl
  rw [fX6_isQuarrel, o1, bn1S, q2, bn1S, r2, bn1S, o2, bn1S]
  unfold qN
  by_cases d : cN m w 3 = 0
  · rw [if_pos (show nI (cN m w 3) = 0 by rw [d]; rfl), if_pos d]
    by_cases e : cN m w 2 = cN m s 2
    · rw [if_pos (by rw [e]), if_pos e]; rfl
    · rw [if_neg (nI_neq e (by omega) (by omega)), if_neg e]; rfl
  · rw [if_neg (show ¬ nI (cN m w 3) = 0 from nI_neq (b := 0) d (by omega) (by omega)), if_neg d, gdt]
    rcases (show cN m s 3 = 0 ∨ cN m s 3 = 1 by omega) with e | e <;> rw [e] <;> decide
theorem quarrel7 {nW w s : Nat} {f m : Nat → Int32} (hW : RWord nW f m) (hw : w < nW) (hs : s < nW) (h60 : nW ≤ 60) (K : Int32 → Int32 → Option Int32) (a : Int32) : (gd (ix (((5 : Int32) * nI w) + (2 : Int32)) 300) <| gd (ix (((5 : Int32) * nI s) + (2 : Int32)) 300) <| if (m (((5 : Int32) * nI w) + (2 : Int32)).toNatClampNeg) = (m (((5 : Int32) * nI s) + (2 : Int32)).toNatClampNeg) then (fX7_quarrels_79 K a (nI w) (nI s) (0 : Int32) m) else (fX7_quarrels_79 K a (nI w) (nI s) (1 : Int32) m)) = K (a + nI (qN m w s)) (nI s) := by
  obtain ⟨wr, b0, b1, b2, b3, b4⟩ := word_row hW hw
  obtain ⟨sr, c0, c1, c2, c3, c4⟩ := word_row hW hs
  have w2 : m (5 * w + 2) = nI (cN m w 2) := (wr 2 (by decide)).2
  have w3 : m (5 * w + 3) = nI (cN m w 3) := (wr 3 (by decide)).2
  have s2 : m (5 * s + 2) = nI (cN m s 2) := (sr 2 (by decide)).2
  have s3 : m (5 * s + 3) = nI (cN m s 3) := (sr 3 (by decide)).2
  have T : ∀ t : Nat, t ≤ 1 → fX7_quarrels_79 K a (nI w) (nI s) (nI t) m = K (a + nI (if cN m w 3 = 0 then t else cN m s 3)) (nI s) := by
    intro t ht
    simp only [fX7_quarrels_79, fX7_quarrels_115, fX7_quarrels_116, fX7_quarrels_143, fX7_quarrels_147, fX7_quarrels_148, fX7_quarrels_150]
    simp only [show (5 : Int32) * nI w + 3 = nI (5 * w + 3) from ax 5 w 3, show (5 : Int32) * nI s + 3 = nI (5 * s + 3) from ax 5 s 3, ixN (show 5 * w + 3 < 300 by omega) (by decide), ixN (show 5 * s + 3 < 300 by omega) (by decide), gdT, cl (5 * w + 3) (by omega), cl (5 * s + 3) (by omega), w3, s3]
    rcases (show cN m w 3 = 0 ∨ cN m w 3 = 1 by omega) with e | e <;> rcases (show cN m s 3 = 0 ∨ cN m s 3 = 1 by omega) with e' | e' <;> rcases (show t = 0 ∨ t = 1 by omega) with rfl | rfl <;> rw [e, e'] <;> rfl
  rw [show (5 : Int32) * nI w + 2 = nI (5 * w + 2) from ax 5 w 2, show (5 : Int32) * nI s + 2 = nI (5 * s + 2) from ax 5 s 2, ixN (by omega) (by decide), gdT, ixN (by omega) (by decide), gdT, cl _ (by omega), cl _ (by omega), w2, s2]
  unfold qN
  by_cases e : cN m w 2 = cN m s 2
  · rw [if_pos (by rw [e]), show fX7_quarrels_79 K a (nI w) (nI s) 0 m = _ from T 0 (by omega), if_pos e]
  · rw [if_neg (nI_neq e (by omega) (by omega)), show fX7_quarrels_79 K a (nI w) (nI s) 1 m = _ from T 1 (by omega), if_neg e]
theorem op_quarrels : Op_quarrels Inv := by
  intro E F M N v1 v2 h
  obtain ⟨⟨td, lk, rt, fr, nB, nW, nR, nO, nA, nU, ⟨hd, hn, hb⟩, hBox, hWo, hR⟩, hK, hT, hP⟩ := id h
  have e2 : E 2 = nI td := hd.1
  have e6 : E 6 = nI nB := hd.2.2.2.2.1
  have e7 : E 7 = nI nW := hd.2.2.2.2.2.1
  have n2 : N 0 2 = nI nW := hn.2.2.1
  have h60 : nW ≤ 60 := by omega
  rcases tBox v1 e6 hn.2.1 (by omega) with ⟨a1, a2⟩ | ⟨b, hb1, rfl, a1, a2⟩
  · exact ⟨-1, by simp [fX6_quarrels, a1, bn1S], by simp [fX7_quarrels, a2, bn1S], h⟩
  rcases tPast v2 e2 hn.1 (by omega) with ⟨c1, c2⟩ | ⟨k, hk, rfl, c1, c2⟩
  · exact ⟨-1, by simp [fX6_quarrels, a1, c1, bn1S], by simp [fX7_quarrels, a2, c2, bn1S], h⟩
  have hb23 : b ≤ 23 := by omega
  have hk200 : k ≤ 200 := by omega
  -- what each word adds
  have row : ∀ w, ∃ g : Nat, w < nW → (∀ n a, fX6_quarrels_29 (nI b) (nI k) (E 7) (F 1) (n + 1) a (nI w) = fX6_quarrels_29 (nI b) (nI k) (E 7) (F 1) n (a + nI g) (nI (w + 1))) ∧ (¬ (cN (N 2) w 0 = b ∧ cN (N 2) w 4 ≤ k) → g = 0) ∧ ((cN (N 2) w 0 = b ∧ cN (N 2) w 4 ≤ k) → (g = 0 ∧ (∀ i, i < nW → (cN (N 2) i 0 = b ∧ cN (N 2) i 4 ≤ k) → ¬ 100 * cN (N 2) w 1 + w < 100 * cN (N 2) i 1 + i) ∧ ∀ n a, fX7_quarrels_29 (nI b) (nI k) (N 0) (N 2) (n + 1) a (nI w) = fX7_quarrels_29 (nI b) (nI k) (N 0) (N 2) n a (-1)) ∨ ∃ s, s < nW ∧ (cN (N 2) s 0 = b ∧ cN (N 2) s 4 ≤ k) ∧ 100 * cN (N 2) w 1 + w < 100 * cN (N 2) s 1 + s ∧ (∀ i, i < nW → (cN (N 2) i 0 = b ∧ cN (N 2) i 4 ≤ k) → 100 * cN (N 2) w 1 + w < 100 * cN (N 2) i 1 + i → 100 * cN (N 2) s 1 + s ≤ 100 * cN (N 2) i 1 + i) ∧ ∀ n a, fX7_quarrels_29 (nI b) (nI k) (N 0) (N 2) (n + 1) a (nI w) = fX7_quarrels_29 (nI b) (nI k) (N 0) (N 2) n (a + nI g) (nI s)) := by
    intro w
    by_cases hw : w < nW
    · have cls : ∀ n a, fX6_quarrels_29 (nI b) (nI k) (E 7) (F 1) (n + 1) a (nI w) = (if (if cN (N 2) w 0 = b ∧ cN (N 2) w 4 ≤ k then (1 : Int32) else 0) = 0 then fX6_quarrels_29 (nI b) (nI k) (E 7) (F 1) n a (nI (w + 1)) else bn1 (fX6_wordBehind (nI w) (nI b) (nI k) (E 7) (F 1)) fun r21 => if r21 < (0 : Int32) then fX6_quarrels_29 (nI b) (nI k) (E 7) (F 1) n a (nI (w + 1)) else (bn1 (fX6_isQuarrel (nI w) r21 (E 7) (F 1)) fun r28 => if r28 = (0 : Int32) then fX6_quarrels_29 (nI b) (nI k) (E 7) (F 1) n a (nI (w + 1)) else fX6_quarrels_29 (nI b) (nI k) (E 7) (F 1) n (a + 1) (nI (w + 1)))) := by
        intro n a
        rw [fX6_quarrels_29, sz_at, bn1S, e7, if_neg (nI_ge hw (by omega)), ← e7, heard_at hWo hw h60 e7 hb23 hk200, bn1S]
        simp only [fX6_quarrels_84, nI_1]
      by_cases hp : cN (N 2) w 0 = b ∧ cN (N 2) w 4 ≤ k
      · obtain ⟨r, r1, r2⟩ := next6 hWo hw h60 e7 hb23 hk200
        obtain ⟨r', r3, r4⟩ := next7 hWo h60 n2 hb23 hk200 (nI w) (fun i => kyN (N 2) w < kyN (N 2) i) (Or.inr ⟨w, hw, rfl, fun i => Iff.rfl⟩)
        have ref : ∀ n a, fX7_quarrels_29 (nI b) (nI k) (N 0) (N 2) (n + 1) a (nI w) = if r' < 0 then fX7_quarrels_29 (nI b) (nI k) (N 0) (N 2) n a r' else (gd (ix (((5 : Int32) * nI w) + (2 : Int32)) 300) <| gd (ix (((5 : Int32) * r') + (2 : Int32)) 300) <| if ((N 2) (((5 : Int32) * nI w) + (2 : Int32)).toNatClampNeg) = ((N 2) (((5 : Int32) * r') + (2 : Int32)).toNatClampNeg) then (fX7_quarrels_79 (fun v3 v4 => fX7_quarrels_29 (nI b) (nI k) (N 0) (N 2) n v3 v4) a (nI w) r' (0 : Int32) (N 2)) else (fX7_quarrels_79 (fun v3 v4 => fX7_quarrels_29 (nI b) (nI k) (N 0) (N 2) n v3 v4) a (nI w) r' (1 : Int32) (N 2))) := by
          intro n a
          rw [fX7_quarrels_29, if_neg (nlt0 w (by omega)), r3, bn1S]
          simp only [fX7_quarrels_150]
        rcases r4 with ⟨rfl, r5⟩ | ⟨s, hs, rfl, r5, r6⟩
        · have r7 : r = -3 := by
            rcases r2 with ⟨z, -⟩ | ⟨s, hs, -, z, -⟩
            · exact z
            · exact absurd z (r5 s hs)
          refine ⟨0, fun _ => ⟨fun n a => ?_, fun z => rfl, fun _ => Or.inl ⟨rfl, fun i hi pi => ?_, fun n a => ?_⟩⟩⟩
          · rw [cls, if_pos hp, if_neg (by decide), r1, bn1S, r7, if_pos (by decide), nI_0, Int32.add_zero]
          · exact fun z => r5 i hi ⟨pi, z⟩
          · rw [ref, if_pos (by decide)]
        · have r7 : r = nI s := by
            rcases r2 with ⟨-, z⟩ | ⟨s', hs', e, z1, z2⟩
            · exact absurd r5 (z s hs)
            · have q1 := z2 s hs r5
              have q2 := r6 s' hs' z1
              rw [e]
              congr 1
              omega
          refine ⟨qN (N 2) w s, fun _ => ⟨fun n a => ?_, fun z => absurd hp z, fun _ => Or.inr ⟨s, hs, r5.1, r5.2, fun i hi pi ki => r6 i hi ⟨pi, ki⟩, fun n a => ?_⟩⟩⟩
          · rw [cls, if_pos hp, if_neg (by decide), r1, bn1S, r7, if_neg (nlt0 s (by omega)), quarrel6 hWo hw hs h60 e7, bn1S]
            have hq : qN (N 2) w s ≤ 1 := by
              have := (word_row hWo hs).2.2.2.2.1
              unfold qN
              split
              · split <;> omega
              · omega
            rcases (show qN (N 2) w s = 0 ∨ qN (N 2) w s = 1 by omega) with e | e
            · rw [e, if_pos nI_0, nI_0, Int32.add_zero]
            · rw [e, if_neg (by decide)]; rfl
          · rw [ref, if_neg (nlt0 s (by omega)), quarrel7 hWo hw hs h60]
      · refine ⟨0, fun _ => ⟨fun n a => ?_, fun _ => rfl, fun z => absurd z hp⟩⟩
        rw [cls, if_neg hp, if_pos rfl, nI_0, Int32.add_zero]
    · exact ⟨0, fun z => absurd z hw⟩
  obtain ⟨G, hG⟩ := Classical.axiomOfChoice row
  have s6 := class_sum h60 G (fun n a i => fX6_quarrels_29 (nI b) (nI k) (E 7) (F 1) n a i) (fun n a => by
    show fX6_quarrels_29 _ _ _ _ (n + 1) a (nI nW) = some a
    rw [fX6_quarrels_29, sz_at, bn1S, e7, if_pos (nI_le (Nat.le_refl _) (by omega))]) (fun n i a hi => (hG i hi).1 n a)
  have s6' : fX6_quarrels_29 (nI b) (nI k) (E 7) (F 1) FU 0 0 = some (nI (sumF nW G)) := s6
  obtain ⟨r, r1, r2⟩ := next7 hWo h60 n2 hb23 hk200 (-1) (fun _ => True) (Or.inl ⟨rfl, fun _ => trivial⟩)
  have rend : ∀ n a, fX7_quarrels_29 (nI b) (nI k) (N 0) (N 2) (n + 1) a (-1) = some a := fun n a => by rw [fX7_quarrels_29, if_pos (by decide)]
  refine ⟨nI (sumF nW G), ?_, ?_, h⟩
  · rw [fX6_quarrels, a1, bn1S, if_neg (by decide), c1, bn1S, if_neg (by decide), s6']
  · rw [fX7_quarrels, a2, bn1S, if_neg (by decide), c2, bn1S, if_neg (by decide), r1, bn1S]
    rcases r2 with ⟨rfl, r3⟩ | ⟨s, hs, rfl, r3, r4⟩
    · rw [sum_zero G nW (fun i hi => (hG i hi).2.1 (fun z => r3 i hi ⟨z, trivial⟩))]
      exact rend 999999 0
    · have := chain_sum h60 (fun i => cN (N 2) i 0 = b ∧ cN (N 2) i 4 ≤ k) (fun i => cN (N 2) i 1) G (fun i hi => (word_row hWo hi).2.2.1) (fun n a i => fX7_quarrels_29 (nI b) (nI k) (N 0) (N 2) n a i) rend (fun w hw hp => (hG w hw).2.2 hp) 30000 s FU 0 hs r3.1 (by omega) (by rw [FU_eq]; omega)
      show fX7_quarrels_29 (nI b) (nI k) (N 0) (N 2) FU 0 (nI s) = _
      rw [show fX7_quarrels_29 (nI b) (nI k) (N 0) (N 2) FU 0 (nI s) = _ from this, Int32.zero_add]
      congr 2
      apply sum_eq
      intro i hi
      by_cases c : cN (N 2) i 0 = b ∧ cN (N 2) i 4 ≤ k
      · rw [if_pos ⟨c, r4 i hi ⟨c, trivial⟩⟩]
      · rw [if_neg (fun z => c z.1), (hG i hi).2.1 c]
