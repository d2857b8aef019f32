/-! WHERE A BOX IS -/
theorem latest_at {nW : Nat} {f m : Nat → Int32} {E7 : Int32} {nm : Nat → Int32} (hW : RWord nW f m) (h60 : nW ≤ 60) (e7 : E7 = nI nW) (n2 : nm 2 = nI nW) {b d k : Nat} (hb : b ≤ 23) (hd : d ≤ 200) (hk : k ≤ 200) : (fX6_latestWord (nI b) (nI d) (nI k) E7 f = some (-3) ∧ fX7_latest (nI b) (nI d) (nI k) nm m = some (-1)) ∨ ∃ w, w < nW ∧ fX6_latestWord (nI b) (nI d) (nI k) E7 f = some (nI w) ∧ fX7_latest (nI b) (nI d) (nI k) nm m = some (nI w) := by
  have main := pair_loop (σ := Int32 × Int32) (σ' := Int32) (fun n i a => fX6_latestWord_10 (nI b) (nI d) (nI k) E7 f n a.1 a.2 i) (fun n i a => fX7_latest_6 (nI b) (nI d) (nI k) nm m n a i) nW (fun i a a' => (a = (-3, 0) ∧ a' = -1) ∨ ∃ w, w < i ∧ a.1 = nI w ∧ a.2 = f (5 * w + 1) ∧ a' = nI w) (fun r r' => (r = -3 ∧ r' = -1) ∨ ∃ w, w < nW ∧ r = nI w ∧ r' = nI w) ?_ ?_ nW 0 FU FU (-3, 0) (-1) (by omega) (Or.inl ⟨rfl, rfl⟩) (by rw [FU_eq]; omega) (by rw [FU_eq]; omega)
  · obtain ⟨r, r', h1, h2, h3⟩ := main
    rcases h3 with ⟨rfl, rfl⟩ | ⟨w, hw, rfl, rfl⟩
    · exact Or.inl ⟨h1, h2⟩
    · exact Or.inr ⟨w, hw, h1, h2⟩
  · intro n n' a a' hr
    refine ⟨a.1, a', ?_, ?_, ?_⟩
    · show fX6_latestWord_10 _ _ _ _ _ (n + 1) a.1 a.2 (nI nW) = some a.1
      rw [fX6_latestWord_10, sz_at, bn1S, e7, if_pos (nI_le (Nat.le_refl _) (by omega))]
    · show fX7_latest_6 _ _ _ _ _ (n' + 1) a' (nI nW) = some a'
      rw [fX7_latest_6, gdt (show ix (2 : Int32) 10 = true by decide), show (2 : Int32).toNatClampNeg = 2 from rfl, n2, if_pos (nI_le (Nat.le_refl _) (by omega))]
    · rcases hr with ⟨rfl, rfl⟩ | ⟨w, hw, h1, h2, h3⟩
      · exact Or.inl ⟨rfl, rfl⟩
      · exact Or.inr ⟨w, hw, h1, h3⟩
  · intro n n' i a a' hi hr
    right
    obtain ⟨bx, dy, pl, wt, kn, hh, x0, x1, x2, x3, x4⟩ := hW i hi
    have kc : ∀ (c : Nat) (hc : c < 5), fX4_cell (nI i) (nI c) (nI 5) E7 300 f = some (f (5 * i + c)) := fun c hc => by rw [e7]; exact cell_at hi hc (by omega) (by omega) (by decide) (by decide)
    have q0 : fX4_cell (nI i) 0 5 E7 300 f = some (nI bx) := by rw [show fX4_cell (nI i) 0 5 E7 300 f = _ from kc 0 (by decide), Nat.add_zero, x0.1]
    have q1 : fX4_cell (nI i) 1 5 E7 300 f = some (nI dy) := by rw [show fX4_cell (nI i) 1 5 E7 300 f = _ from kc 1 (by decide), x1.1]
    have q4 : fX4_cell (nI i) 4 5 E7 300 f = some (nI kn) := by rw [show fX4_cell (nI i) 4 5 E7 300 f = _ from kc 4 (by decide), x4.1]
    have heard : fX6_isHeard (nI i) (nI b) (nI k) E7 f = some (if bx = b ∧ kn ≤ k then 1 else 0) := by
      unfold fX6_isHeard
      rw [q0, bn1S, q4, bn1S]
      by_cases c1 : bx = b
      · rw [if_pos (by rw [c1])]
        by_cases c2 : kn ≤ k
        · rw [if_neg (nI_nlt c2 (by omega)), if_pos ⟨c1, c2⟩]
        · rw [if_pos (nI_lt (by omega) (by omega)), if_neg (fun z => c2 z.2)]
      · rw [if_neg (nI_neq c1 (by omega) (by omega)), if_neg (fun z => c1 z.1)]
    have j0 : (5 : Int32) * nI i = nI (5 * i) := pk_mul 5 i
    have j1 : (5 : Int32) * nI i + 1 = nI (5 * i + 1) := ax 5 i 1
    have j4 : (5 : Int32) * nI i + 4 = nI (5 * i + 4) := ax 5 i 4
    have eE : fX6_latestWord_10 (nI b) (nI d) (nI k) E7 f (n + 1) a.1 a.2 (nI i) = (if (bx = b ∧ kn ≤ k) ∧ dy ≤ d ∧ ¬ nI dy < a.2 then fX6_latestWord_10 (nI b) (nI d) (nI k) E7 f n (nI i) (nI dy) (nI (i + 1)) else fX6_latestWord_10 (nI b) (nI d) (nI k) E7 f n a.1 a.2 (nI (i + 1))) := by
      rw [fX6_latestWord_10, sz_at, bn1S, e7, if_neg (nI_ge hi (by omega)), ← e7, q1, bn1S, heard, bn1S]
      simp only [fX6_latestWord_72, nI_1]
      by_cases c1 : bx = b ∧ kn ≤ k
      · rw [if_pos c1, if_neg (by decide)]
        by_cases c2 : dy ≤ d
        · rw [if_neg (nI_nlt c2 (by omega))]
          by_cases c3 : nI dy < a.2
          · rw [if_pos c3, if_neg (fun z => z.2.2 c3)]
          · rw [if_neg c3, if_pos ⟨c1, c2, c3⟩]
        · rw [if_pos (nI_lt (by omega) (by omega)), if_neg (fun z => c2 z.2.1)]
      · rw [if_neg c1, if_pos rfl, if_neg (fun z => c1 z.1)]
    have eM : fX7_latest_6 (nI b) (nI d) (nI k) nm m (n' + 1) a' (nI i) = (if (bx = b ∧ kn ≤ k) ∧ dy ≤ d ∧ (a' < 0 ∨ ∃ w, w < i ∧ a' = nI w ∧ ¬ nI dy < m (5 * w + 1)) then fX7_latest_6 (nI b) (nI d) (nI k) nm m n' (nI i) (nI (i + 1)) else fX7_latest_6 (nI b) (nI d) (nI k) nm m n' a' (nI (i + 1))) := by
      rw [fX7_latest_6, gdt (show ix (2 : Int32) 10 = true by decide), show (2 : Int32).toNatClampNeg = 2 from rfl, n2, if_neg (nI_ge hi (by omega)), j1, j4, j0, ixN (show 5 * i < 300 by omega) (by decide), gdT, ixN (show 5 * i + 1 < 300 by omega) (by decide), gdT, gdT, ixN (show 5 * i + 4 < 300 by omega) (by decide), gdT, cl _ (by omega), cl _ (by omega), cl _ (by omega), x0.2, x1.2, x4.2]
      simp only [fX7_latest_99, fX7_latest_97, fX7_latest_90, nI_1]
      by_cases c1 : bx = b
      · rw [if_pos (by rw [c1])]
        by_cases c2 : dy ≤ d
        · rw [if_neg (nI_nlt c2 (by omega))]
          by_cases c3 : kn ≤ k
          · rw [if_neg (nI_nlt c3 (by omega))]
            rcases hr with ⟨-, rfl⟩ | ⟨w, hw, -, -, rfl⟩
            · rw [if_pos (by decide), if_pos ⟨⟨c1, c3⟩, c2, Or.inl (by decide)⟩]
            · rw [if_neg (nlt0 w (by omega)), show (5 : Int32) * nI w + 1 = nI (5 * w + 1) from ax 5 w 1, ixN (show 5 * w + 1 < 300 by omega) (by decide), gdT, cl _ (by omega)]
              by_cases c4 : nI dy < m (5 * w + 1)
              · rw [if_pos c4, if_neg]
                rintro ⟨-, -, z | ⟨w', h1, h2, h3⟩⟩
                · exact nlt0 w (by omega) z
                · rw [nI_eq (by omega) (by omega)] at h2
                  subst h2
                  exact h3 c4
              · rw [if_neg c4, if_pos ⟨⟨c1, c3⟩, c2, Or.inr ⟨w, hw, rfl, c4⟩⟩]
          · rw [if_pos (nI_lt (by omega) (by omega)), if_neg (fun z => c3 z.1.2)]
        · rw [if_pos (nI_lt (by omega) (by omega)), if_neg (fun z => c2 z.2.1)]
      · rw [if_neg (nI_neq c1 (by omega) (by omega)), if_neg (fun z => c1 z.1.1)]
    by_cases c : (bx = b ∧ kn ≤ k) ∧ dy ≤ d
    · rcases hr with ⟨rfl, rfl⟩ | ⟨w, hw, h1, h2, rfl⟩
      · refine ⟨(nI i, nI dy), nI i, ?_, ?_, Or.inr ⟨i, by omega, rfl, x1.1.symm, rfl⟩⟩
        · rw [eE, if_pos ⟨c.1, c.2, nlt0 dy (by omega)⟩]
        · rw [eM, if_pos ⟨c.1, c.2, Or.inl (by decide)⟩]
      · obtain ⟨bx', dy', pl', wt', kn', hh', y0, y1, y2, y3, y4⟩ := hW w (by omega)
        by_cases c3 : nI dy < f (5 * w + 1)
        · have c3' : nI dy < m (5 * w + 1) := by rw [y1.2, ← y1.1]; exact c3
          refine ⟨a, nI w, ?_, ?_, Or.inr ⟨w, by omega, h1, h2, rfl⟩⟩
          · rw [eE, if_neg (fun z => z.2.2 (by rw [h2]; exact c3))]
          · rw [eM, if_neg]
            rintro ⟨-, -, z | ⟨w', g1, g2, g3⟩⟩
            · exact nlt0 w (by omega) z
            · rw [nI_eq (by omega) (by omega)] at g2
              subst g2
              exact g3 c3'
        · have c3' : ¬ nI dy < m (5 * w + 1) := by rw [y1.2, ← y1.1]; exact c3
          refine ⟨(nI i, nI dy), nI i, ?_, ?_, Or.inr ⟨i, by omega, rfl, x1.1.symm, rfl⟩⟩
          · rw [eE, if_pos ⟨c.1, c.2, by rw [h2]; exact c3⟩]
          · rw [eM, if_pos ⟨c.1, c.2, Or.inr ⟨w, hw, rfl, c3'⟩⟩]
    · refine ⟨a, a', ?_, ?_, ?_⟩
      · rw [eE, if_neg (fun z => c ⟨z.1, z.2.1⟩)]
      · rw [eM, if_neg (fun z => c ⟨z.1, z.2.1⟩)]
      · rcases hr with h | ⟨w, hw, h⟩
        · exact Or.inl h
        · exact Or.inr ⟨w, by omega, h⟩
/-- where it is: 20, a place, or 10 and a place -/
theorem stand_at {nW : Nat} {f m : Nat → Int32} {E7 : Int32} {nm : Nat → Int32} (hW : RWord nW f m) (h60 : nW ≤ 60) (e7 : E7 = nI nW) (n2 : nm 2 = nI nW) {b d k : Nat} (hb : b ≤ 23) (hd : d ≤ 200) (hk : k ≤ 200) : ∃ r : Nat, (r = 20 ∨ r ≤ 5 ∨ (10 ≤ r ∧ r ≤ 15)) ∧ fX6_standing (nI b) (nI d) (nI k) E7 f = some (nI r) ∧ fX7_whereIs (nI b) (nI d) (nI k) nm m = some (nI r) ∧ (r = 20 ↔ fX7_latest (nI b) (nI d) (nI k) nm m = some (-1)) := by
  rcases latest_at hW h60 e7 n2 hb hd hk with ⟨a1, a2⟩ | ⟨w, hw, a1, a2⟩
  · refine ⟨20, Or.inl rfl, ?_, ?_, ?_⟩
    · rw [fX6_standing, a1, bn1S, if_neg (by decide)]; rfl
    · rw [fX7_whereIs, a2, bn1S, if_neg (by decide)]; rfl
    · simp [a2]
  · obtain ⟨bx, dy, pl, wt, kn, hh, x0, x1, x2, x3, x4⟩ := hW w hw
    have kc : ∀ (c : Nat) (hc : c < 5), fX4_cell (nI w) (nI c) (nI 5) E7 300 f = some (f (5 * w + c)) := fun c hc => by rw [e7]; exact cell_at hw hc (by omega) (by omega) (by decide) (by decide)
    have out : fX6_isOut (nI w) E7 f = some (nI wt) := by
      unfold fX6_isOut
      rw [show fX4_cell (nI w) 3 5 E7 300 f = _ from kc 3 (by decide), bn1S, x3.1]
      rcases (show wt = 0 ∨ wt = 1 by omega) with rfl | rfl <;> rfl
    refine ⟨pl + 10 * wt, by omega, ?_, ?_, ?_⟩
    · rw [fX6_standing, a1, bn1S, if_pos (ge0N w (by omega)), show fX4_cell (nI w) 2 5 E7 300 f = _ from kc 2 (by decide), bn1S, out, bn1S, x2.1]
      rcases (show wt = 0 ∨ wt = 1 by omega) with rfl | rfl
      · rw [if_pos nI_0]; rfl
      · rw [if_neg (by decide), show (10 : Int32) + nI pl = nI (10 + pl) from nI_add 10 pl]
        congr 2; omega
    · rw [fX7_whereIs, a2, bn1S, if_pos (ge0N w (by omega)), show (5 : Int32) * nI w + 2 = nI (5 * w + 2) from ax 5 w 2, show (5 : Int32) * nI w + 3 = nI (5 * w + 3) from ax 5 w 3, ixN (by omega) (by decide), gdT, ixN (by omega) (by decide), gdT, cl _ (by omega), cl _ (by omega), x2.2, x3.2, show (10 : Int32) * nI wt = nI (10 * wt) from pk_mul 10 wt, nI_add]
    · rw [a2]
      refine ⟨fun z => absurd z (by omega), fun z => absurd (Option.some.inj z) ?_⟩
      intro q
      exact nlt0 w (by omega) (by rw [q]; decide)
theorem late_at {nW td : Nat} {f m : Nat → Int32} {E7 : Int32} {nm : Nat → Int32} (hW : RWord nW f m) (h60 : nW ≤ 60) (e7 : E7 = nI nW) (n2 : nm 2 = nI nW) (n0 : nm 0 = nI td) (htd : td ≤ 200) {b : Nat} (hb : b ≤ 23) : ∃ r : Nat, r ≤ 1 ∧ fX6_isLateToday (nI b) (nI td) E7 f = some (nI r) ∧ fX7_isLate (nI b) nm m = some (nI r) := by
  rcases latest_at hW h60 e7 n2 hb htd htd with ⟨a1, a2⟩ | ⟨w, hw, a1, a2⟩
  · refine ⟨0, by omega, ?_, ?_⟩
    · rw [fX6_isLateToday, a1, bn1S, if_pos (by decide)]; rfl
    · rw [fX7_isLate, gdt (show ix (0 : Int32) 10 = true by decide), clL0, n0, a2, bn1S, if_pos (by decide)]; rfl
  · obtain ⟨bx, dy, pl, wt, kn, hh, x0, x1, x2, x3, x4⟩ := hW w hw
    have kc : ∀ (c : Nat) (hc : c < 5), fX4_cell (nI w) (nI c) (nI 5) E7 300 f = some (f (5 * w + c)) := fun c hc => by rw [e7]; exact cell_at hw hc (by omega) (by omega) (by decide) (by decide)
    have out : fX6_isOut (nI w) E7 f = some (nI wt) := by
      unfold fX6_isOut
      rw [show fX4_cell (nI w) 3 5 E7 300 f = _ from kc 3 (by decide), bn1S, x3.1]
      rcases (show wt = 0 ∨ wt = 1 by omega) with rfl | rfl <;> rfl
    have q1 : fX4_cell (nI w) 1 5 E7 300 f = some (nI dy) := by rw [show fX4_cell (nI w) 1 5 E7 300 f = _ from kc 1 (by decide), x1.1]
    refine ⟨if wt = 1 ∧ ¬ nI td - nI dy ≤ 20 then 1 else 0, by split <;> omega, ?_, ?_⟩
    · rw [fX6_isLateToday, a1, bn1S, if_neg (nlt0 w (by omega)), out, bn1S, q1, bn1S]
      rcases (show wt = 0 ∨ wt = 1 by omega) with rfl | rfl
      · rw [if_pos nI_0, if_neg (by simp)]; rfl
      · rw [if_neg (by decide)]
        by_cases c : nI td - nI dy ≤ 20
        · rw [if_pos c, if_neg (fun z => z.2 c)]; rfl
        · rw [if_neg c, if_pos ⟨rfl, c⟩]; rfl
    · rw [fX7_isLate, gdt (show ix (0 : Int32) 10 = true by decide), clL0, n0, a2, bn1S, if_neg (nlt0 w (by omega)), show (5 : Int32) * nI w + 3 = nI (5 * w + 3) from ax 5 w 3, show (5 : Int32) * nI w + 1 = nI (5 * w + 1) from ax 5 w 1, ixN (by omega) (by decide), gdT, ixN (by omega) (by decide), gdT, cl _ (by omega), cl _ (by omega), x1.2, x3.2]
      rcases (show wt = 0 ∨ wt = 1 by omega) with rfl | rfl
      · rw [if_neg (by decide), if_neg (by simp)]; rfl
      · rw [if_pos (show nI 1 = 1 from rfl)]
        by_cases c : nI td - nI dy ≤ 20
        · rw [if_pos c, if_neg (fun z => z.2 c)]; rfl
        · rw [if_neg c, if_pos ⟨rfl, c⟩]; rfl
theorem op_where : Op_where Inv := by
  intro E F M N v1 v2 v3 h
  obtain ⟨⟨td, lk, rt, fr, nB, nW, nR, nO, nA, nU, ⟨hd, hn, hb⟩, hBox, hWo, hR⟩, hK, hT, hP⟩ := id h
  have e2 : E 2 = nI td := hd.1
  have e6 : E 6 = nI nB := hd.2.2.2.2.1
  have e7 : E 7 = nI nW := hd.2.2.2.2.2.1
  rcases tBox v1 e6 hn.2.1 (by omega) with ⟨a1, a2⟩ | ⟨b, hb1, rfl, a1, a2⟩
  · exact ⟨-1, by simp [fX6_where, a1, bn1S], by simp [fX7_where, a2, bn1S], h⟩
  rcases tDay v2 with ⟨b1, b2⟩ | ⟨d, hd1, rfl, b1, b2⟩
  · exact ⟨-1, by simp [fX6_where, a1, b1, bn1S], by simp [fX7_where, a2, b2, bn1S], h⟩
  rcases tPast v3 e2 hn.1 (by omega) with ⟨c1, c2⟩ | ⟨k, hk, rfl, c1, c2⟩
  · exact ⟨-1, by simp [fX6_where, a1, b1, c1, bn1S], by simp [fX7_where, a2, b2, c2, bn1S], h⟩
  obtain ⟨r, hr, r1, r2, -⟩ := stand_at hWo (by omega) e7 hn.2.2.1 (b := b) (d := d) (k := k) (by omega) hd1 (by omega)
  exact ⟨nI r, by simp [fX6_where, a1, b1, c1, bn1S, r1], by simp [fX7_where, a2, b2, c2, bn1S, r2], h⟩
theorem op_since : Op_since Inv := by
  intro E F M N v1 v2 v3 h
  obtain ⟨⟨td, lk, rt, fr, nB, nW, nR, nO, nA, nU, ⟨hd, hn, hb⟩, hBox, hWo, hR⟩, hK, hT, hP⟩ := id h
  have e2 : E 2 = nI td := hd.1
  have e6 : E 6 = nI nB := hd.2.2.2.2.1
  have e7 : E 7 = nI nW := hd.2.2.2.2.2.1
  rcases tBox v1 e6 hn.2.1 (by omega) with ⟨a1, a2⟩ | ⟨b, hb1, rfl, a1, a2⟩
  · exact ⟨-1, by simp [fX6_since, a1, bn1S], by simp [fX7_since, a2, bn1S], h⟩
  rcases tDay v2 with ⟨b1, b2⟩ | ⟨d, hd1, rfl, b1, b2⟩
  · exact ⟨-1, by simp [fX6_since, a1, b1, bn1S], by simp [fX7_since, a2, b2, bn1S], h⟩
  rcases tPast v3 e2 hn.1 (by omega) with ⟨c1, c2⟩ | ⟨k, hk, rfl, c1, c2⟩
  · exact ⟨-1, by simp [fX6_since, a1, b1, c1, bn1S], by simp [fX7_since, a2, b2, c2, bn1S], h⟩
  rcases latest_at hWo (by omega) e7 hn.2.2.1 (b := b) (d := d) (k := k) (by omega) hd1 (by omega) with ⟨r1, r2⟩ | ⟨w, hw, r1, r2⟩
  · exact ⟨-3, by simp [fX6_since, a1, b1, c1, bn1S, r1, lt03], by simp [fX7_since, a2, b2, c2, bn1S, r2, nge0], h⟩
  · obtain ⟨bx, dy, pl, wt, kn, hh, x0, x1, x2, x3, x4⟩ := hWo w hw
    have q1 : fX4_cell (nI w) 1 5 (E 7) 300 (F 1) = some (nI dy) := by rw [e7, show fX4_cell (nI w) 1 5 (nI nW) 300 (F 1) = some (F 1 (5 * w + 1)) from cell_at (c := 1) (cols := 5) hw (by decide) (by omega) (by omega) (by decide) (by decide), x1.1]
    refine ⟨nI dy, ?_, ?_, h⟩
    · simp [fX6_since, a1, b1, c1, bn1S, r1, nlt0 w (by omega), q1]
    · simp only [fX7_since, a2, b2, c2, bn1S, eq10, if_false, r2]
      rw [if_pos (ge0N w (by omega)), show (5 : Int32) * nI w + 1 = nI (5 * w + 1) from ax 5 w 1, ixN (by omega) (by decide), gdT, cl _ (by omega), x1.2]
