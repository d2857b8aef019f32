/-- two loops side by side, where the second hands its result on -/
theorem pair_loopK {σ σ' R R' : Type} (g : Nat → Int32 → σ → Option R) (g' : Nat → Int32 → σ' → Option R') (n : Nat) (Rel : Nat → σ → σ' → Prop) (K : R → Option R') (P : R → Prop)
    (hx : ∀ m m' a a', Rel n a a' → ∃ r, g (m + 1) (nI n) a = some r ∧ g' (m' + 1) (nI n) a' = K r ∧ P r)
    (hs : ∀ m m' i a a', i < n → Rel i a a' → (∃ r, g (m + 1) (nI i) a = some r ∧ g' (m' + 1) (nI i) a' = K r ∧ P r) ∨ ∃ b b', g (m + 1) (nI i) a = g m (nI (i + 1)) b ∧ g' (m' + 1) (nI i) a' = g' m' (nI (i + 1)) b' ∧ Rel (i + 1) b b') :
    ∀ (k i m m' : Nat) (a : σ) (a' : σ'), i + k = n → Rel i a a' → k < m → k < m' → ∃ r, g m (nI i) a = some r ∧ g' m' (nI i) a' = K r ∧ P r := by
  intro k
  induction k with
  | zero =>
    intro i m m' a a' h1 h2 h3 h4
    obtain ⟨m, rfl⟩ : ∃ x, m = x + 1 := ⟨m - 1, by omega⟩
    obtain ⟨m', rfl⟩ : ∃ x, m' = x + 1 := ⟨m' - 1, by omega⟩
    obtain rfl : i = n := by omega
    exact hx m m' a a' h2
  | succ k ih =>
    intro i m m' a a' h1 h2 h3 h4
    obtain ⟨m, rfl⟩ : ∃ x, m = x + 1 := ⟨m - 1, by omega⟩
    obtain ⟨m', rfl⟩ : ∃ x, m' = x + 1 := ⟨m' - 1, by omega⟩
    rcases hs m m' i a a' (by omega) h2 with h | ⟨b, b', q1, q2, q3⟩
    · exact h
    · rw [q1, q2]
      exact ih (i + 1) m m' b b' (by omega) q3 (by omega) (by omega)
theorem given_at {nB td ls r : Nat} {f m : Nat → Int32} {E6 : Int32} {nm : Nat → Int32} (hBox : RBox nB f m) (h24 : nB ≤ 24) (e6 : E6 = nI nB) (n1 : nm 1 = nI nB) (hls : ls ≤ 2) (hr : r ≤ 5) (K : Int32 → Option (Int32 × (Nat → Int32))) : ∃ c, fX6_givenBackThisWeek (nI ls) (nI r) (nI td) E6 f = some c ∧ fX7_giveBack_75 (nI td) (nI r) (nI ls) nm m K FU 0 0 = K c := by
  have main := pair_loopK (fun n i a => fX6_givenBackThisWeek_5 (nI ls) (nI r) (nI td) E6 f n a i) (fun n i a => fX7_giveBack_75 (nI td) (nI r) (nI ls) nm m K n a i) nB (fun _ a a' => a = a') K (fun _ => True) ?_ ?_ nB 0 FU FU 0 0 (by omega) rfl (by rw [FU_eq]; omega) (by rw [FU_eq]; omega)
  · obtain ⟨c, h1, h2, -⟩ := main
    exact ⟨c, h1, h2⟩
  · intro n n' a a' e
    subst e
    refine ⟨a, ?_, ?_, trivial⟩
    · show fX6_givenBackThisWeek_5 _ _ _ _ _ (n + 1) a (nI nB) = some a
      rw [fX6_givenBackThisWeek_5, sz_at, bn1S, e6, if_pos (nI_le (Nat.le_refl _) (by omega))]
    · show fX7_giveBack_75 _ _ _ _ _ _ (n' + 1) a (nI nB) = K a
      rw [fX7_giveBack_75, gdt (show ix (1 : Int32) 10 = true by decide), show (1 : Int32).toNatClampNeg = 1 from rfl, n1, if_pos (nI_le (Nat.le_refl _) (by omega))]
  · intro n n' i a a' hi e
    subst e
    right
    obtain ⟨mk, kd, ln, cm, ft, hh, x0, x1, x2, x3, x4, x5, x6, x7⟩ := hBox i hi
    have kb : ∀ (c : Nat) (hc : c < 9), fX4_cell (nI i) (nI c) (nI 9) E6 216 f = some (f (9 * i + c)) := fun c hc => by rw [e6]; exact cell_at hi hc (by omega) (by omega) (by decide) (by decide)
    have kg : ∀ (c : Nat) (hc : c < 9), fX7_get (nI i) (nI c) m = some (m (9 * i + c)) := fun c hc => get_at (by omega)
    have q3 : fX4_cell (nI i) 3 9 E6 216 f = some (f (9 * i + 3)) := kb 3 (by decide)
    have q5 : fX4_cell (nI i) 5 9 E6 216 f = some (f (9 * i + 5)) := kb 5 (by decide)
    have q7 : fX4_cell (nI i) 7 9 E6 216 f = some (f (9 * i + 7)) := kb 7 (by decide)
    have q8 : fX4_cell (nI i) 8 9 E6 216 f = some (f (9 * i + 8)) := kb 8 (by decide)
    have g3 : fX7_get (nI i) 3 m = some (m (9 * i + 3)) := kg 3 (by decide)
    have g5 : fX7_get (nI i) 5 m = some (m (9 * i + 5)) := kg 5 (by decide)
    have g7 : fX7_get (nI i) 7 m = some (m (9 * i + 7)) := kg 7 (by decide)
    have g8 : fX7_get (nI i) 8 m = some (m (9 * i + 8)) := kg 8 (by decide)
    have k3 : f (9 * i + 3) = nI ls ↔ m (9 * i + 3) = nI ls := by
      rcases x3 with ⟨s1, s2⟩ | ⟨l, hl, s1, s2⟩
      · rw [s1, s2]
        refine ⟨fun z => absurd z.symm ?_, fun z => absurd z.symm ?_⟩ <;> intro z <;> exact nlt0 ls (by omega) (by rw [z]; decide)
      · rw [s1, s2]
    refine ⟨a + (if f (9 * i + 5) = 1 ∧ f (9 * i + 3) = nI ls ∧ f (9 * i + 8) = nI r ∧ f (9 * i + 7) / 7 = nI td / 7 then 1 else 0), a + (if f (9 * i + 5) = 1 ∧ f (9 * i + 3) = nI ls ∧ f (9 * i + 8) = nI r ∧ f (9 * i + 7) / 7 = nI td / 7 then 1 else 0), ?_, ?_, rfl⟩
    · show fX6_givenBackThisWeek_5 _ _ _ _ _ (n + 1) a (nI i) = _
      rw [fX6_givenBackThisWeek_5, sz_at, bn1S, e6, if_neg (nI_ge hi (by omega)), ← e6, q5, bn1S, q3, bn1S, q8, bn1S, q7, bn1S]
      simp only [fX6_givenBackThisWeek_105, nI_1]
      by_cases c1 : f (9 * i + 5) = 1
      · rw [if_pos c1]
        by_cases c2 : f (9 * i + 3) = nI ls
        · rw [if_pos c2]
          by_cases c3 : f (9 * i + 8) = nI r
          · rw [if_pos c3]
            by_cases c4 : f (9 * i + 7) / 7 = nI td / 7
            · rw [if_pos c4, if_pos ⟨c1, c2, c3, c4⟩]
            · rw [if_neg c4, if_neg (fun z => c4 z.2.2.2), Int32.add_zero]
          · rw [if_neg c3, if_neg (fun z => c3 z.2.2.1), Int32.add_zero]
        · rw [if_neg c2, if_neg (fun z => c2 z.2.1), Int32.add_zero]
      · rw [if_neg c1, if_neg (fun z => c1 z.1), Int32.add_zero]
    · show fX7_giveBack_75 _ _ _ _ _ _ (n' + 1) a (nI i) = _
      rw [fX7_giveBack_75, gdt (show ix (1 : Int32) 10 = true by decide), show (1 : Int32).toNatClampNeg = 1 from rfl, n1, if_neg (nI_ge hi (by omega)), g5, bn1S, g3, bn1S, g8, bn1S, g7, bn1S, x5.1, x5.2]
      simp only [fX7_giveBack_145, fX7_giveBack_144, fX7_giveBack_159, nI_1]
      by_cases c1 : nI ft = 1
      · rw [if_pos c1]
        obtain rfl : ft = 1 := (nI_eq (a := ft) (b := 1) (by omega) (by decide)).1 c1
        obtain ⟨bd, bp, hbd, hbp, y7, y8⟩ := x7 rfl
        rw [y7.1, y7.2, y8.1, y8.2]
        by_cases c2 : f (9 * i + 3) = nI ls
        · rw [if_pos (k3.1 c2)]
          by_cases c3 : nI bp = nI r
          · rw [if_pos c3]
            by_cases c4 : nI bd / 7 = nI td / 7
            · rw [if_pos c4, if_neg (by decide), if_pos ⟨rfl, c2, c3, c4⟩]
            · rw [if_neg c4, if_pos trivial, if_neg (fun z => c4 z.2.2.2)]
          · rw [if_neg c3, if_pos trivial, if_neg (fun z => c3 z.2.2.1)]
        · rw [if_neg (fun z => c2 (k3.2 z)), if_pos trivial, if_neg (fun z => c2 z.2.1)]
      · rw [if_neg c1, if_pos trivial, if_neg (fun z => c1 z.1)]
theorem op_giveBack : Op_giveBack Inv := by
  intro E F M N v v2 h
  obtain ⟨⟨td, lk, rt, fr, nB, nW, nR, nO, nA, nU, hA⟩, hK, hT, hP⟩ := id h
  obtain ⟨⟨hd, hn, hb⟩, hBox, hWo, hWe, hRo, hOf, hWa, hLv, hLs, hUs⟩ := id hA
  have e2 : E 2 = nI td := hd.1
  have e6 : E 6 = nI nB := hd.2.2.2.2.1
  have e7 : E 7 = nI nW := hd.2.2.2.2.2.1
  have e13 : E 13 = nI 3 := hd.2.2.2.2.2.2.2.2.2.2.2.1
  have n0 : N 0 0 = nI td := hn.1
  have no : ∀ r : Int32, fX6_giveBack v v2 (E 2) (E 6) (F 0) (E 7) (F 1) (E 13) (F 7) = some (r, F 0) → fX7_giveBack v v2 (N 0) (N 1) (N 2) (N 7) = some (r, N 1) → ∃ (r : Int32) (z1 z2 : Nat → Int32), fX6_giveBack v v2 (E 2) (E 6) (F 0) (E 7) (F 1) (E 13) (F 7) = some (r, z1) ∧ fX7_giveBack v v2 (N 0) (N 1) (N 2) (N 7) = some (r, z2) ∧ Inv E (va_up F 0 z1) M (va_up N 1 z2) := fun r p1 p2 => ⟨r, F 0, N 1, p1, p2, Inv_id h⟩
  rcases tBox v e6 hn.2.1 (by omega) with ⟨a1, a2⟩ | ⟨b, hb1, rfl, a1, a2⟩
  · exact no (-1) (by simp [fX6_giveBack, a1, bn1S]) (by simp [fX7_giveBack, a2, bn1S])
  rcases tW v2 (hi := 9) 9 rfl (by decide) with ⟨w1, w2⟩ | ⟨g, hg, rfl, w1, w2⟩
  · exact no (-1) (by simp [fX6_giveBack, a1, w1, bn1S]) (by simp [fX7_giveBack, a2, w2, bn1S])
  obtain ⟨r, hr, s1, s2, s3⟩ := stand_at hWo (by omega) e7 hn.2.2.1 (b := b) (d := td) (k := td) (by omega) (by omega) (by omega)
  have s1' : fX6_standing (nI b) (E 2) (E 2) (E 7) (F 1) = some (nI r) := by rw [e2]; exact s1
  rcases under_at hBox hb1 (by omega) e6 with ⟨u1, u2⟩ | ⟨ls, hls, u1, u2, u3, u4, u5, u6⟩
  · refine no (-4) ?_ ?_
    · rw [fX6_giveBack, a1, bn1S, if_neg (by decide), w1, bn1S, if_neg (by decide), s1', bn1S, u1, bn1S, if_pos rfl]
    · rw [fX7_giveBack, a2, bn1S, if_neg (by decide), w2, bn1S, if_neg (by decide), gdt (show ix (0 : Int32) 10 = true by decide), clL0, n0, s2, bn1S]
      rcases u2 with ⟨x, hx, g⟩ | ⟨y, x, hy, hx, g, g'⟩
      · rw [g, bn1S, if_pos hx]
      · rw [g, bn1S, if_neg hy, g', bn1S, if_neg hx]
  rcases tPlace (nI r) with ⟨p1, p2⟩ | ⟨p, hp, hpr, p1, p2⟩
  · refine no (-4) ?_ ?_
    · rw [fX6_giveBack, a1, bn1S, if_neg (by decide), w1, bn1S, if_neg (by decide), s1', bn1S, u1, bn1S, if_neg (by decide), p1, bn1S, if_pos rfl]
    · rw [fX7_giveBack, a2, bn1S, if_neg (by decide), w2, bn1S, if_neg (by decide), gdt (show ix (0 : Int32) 10 = true by decide), clL0, n0, s2, bn1S, u2, bn1S, if_neg (nlt0 ls (by omega)), u3, bn1S, if_pos rfl, p2, bn1S, if_pos rfl]
  have hr5 : r ≤ 5 := by
    rw [nI_eq (by omega) (by omega)] at hpr
    omega
  obtain ⟨cn, k1, k2⟩ := given_at hBox (by omega) e6 hn.2.1 (td := td) hls hr5 (fun v6_q154 => fX7_giveBack_168 (nI b) (nI g) (nI td) (nI r) (nI ls) v6_q154 (N 0) (N 1) (N 7))
  obtain ⟨cp, hcp, cp1, cp2⟩ := (hLs ls (by omega)).1 (10 + r) (by omega)
  obtain ⟨co, hco, co1, co2⟩ := (hLs ls (by omega)).1 (4 + r) (by omega)
  obtain ⟨dm, hdm, dm1, dm2⟩ := (hLs ls (by omega)).1 2 (by omega)
  have kl : ∀ (c : Nat) (hc : c < 17), fX4_cell (nI ls) (nI c) (nI 17) (E 13) 51 (F 7) = some (F 7 (17 * ls + c)) := fun c hc => by rw [e13]; exact cell_at (by omega) hc (by omega) (by omega) (by decide) (by decide)
  have l1 : fX4_cell (nI ls) (10 + nI r) 17 (E 13) 51 (F 7) = some (nI cp) := by rw [show (10 : Int32) + nI r = nI (10 + r) from nI_add 10 r, show fX4_cell (nI ls) (nI (10 + r)) 17 (E 13) 51 (F 7) = _ from kl (10 + r) (by omega), cp1]
  have l2 : fX4_cell (nI ls) (4 + nI r) 17 (E 13) 51 (F 7) = some (nI co) := by rw [show (4 : Int32) + nI r = nI (4 + r) from nI_add 4 r, show fX4_cell (nI ls) (nI (4 + r)) 17 (E 13) 51 (F 7) = _ from kl (4 + r) (by omega), co1]
  have l3 : fX4_cell (nI ls) 2 17 (E 13) 51 (F 7) = some (nI dm) := by rw [show fX4_cell (nI ls) 2 17 (E 13) 51 (F 7) = _ from kl 2 (by omega), dm1]
  have j10 : (17 : Int32) * nI ls + 10 + nI r = nI (17 * ls + (10 + r)) := by rw [show (17 : Int32) * nI ls + 10 = nI (17 * ls + 10) from ax 17 ls 10, nI_add, Nat.add_assoc]
  have j4 : (17 : Int32) * nI ls + 4 + nI r = nI (17 * ls + (4 + r)) := by rw [show (17 : Int32) * nI ls + 4 = nI (17 * ls + 4) from ax 17 ls 4, nI_add, Nat.add_assoc]
  have j2 : (17 : Int32) * nI ls + 2 = nI (17 * ls + 2) := ax 17 ls 2
  have k1' : fX6_givenBackThisWeek (nI ls) (nI r) (E 2) (E 6) (F 0) = some cn := by rw [e2]; exact k1
  have G7 : fX7_giveBack (nI b) (nI g) (N 0) (N 1) (N 2) (N 7) = fX7_giveBack_168 (nI b) (nI g) (nI td) (nI r) (nI ls) cn (N 0) (N 1) (N 7) := by
    rw [fX7_giveBack, a2, bn1S, if_neg (by decide), w2, bn1S, if_neg (by decide), gdt (show ix (0 : Int32) 10 = true by decide), clL0, n0, s2, bn1S, u2, bn1S, if_neg (nlt0 ls (by omega)), u3, bn1S, if_pos rfl, p2, bn1S, if_neg (by decide), k2]
  by_cases cc : cn < nI cp
  · have hm' : ∀ k, k < 7 → upd (upd (N 1) (9 * b + 7) (nI td)) (9 * b + 8) (nI r) (9 * b + k) = N 1 (9 * b + k) := fun k hk => by rw [upd_ne _ _ (by omega), upd_ne _ _ (by omega)]
    obtain ⟨bl, hbl, q1, q2⟩ := bill_at hBox hLs hb1 (by omega) (by omega) e6 e13 n0 hls u5 u6 _ hm'
    have q1' : fX6_dayBill (nI b) (E 2) (E 6) (F 0) (E 13) (F 7) = some (nI bl) := by rw [e2]; exact q1
    have p5 : ∀ x (g : Nat → Int32), fX4_put (nI b) 5 x 9 (E 6) 216 g = some (upd g (9 * b + 5) x) := fun x g => by rw [e6]; exact put_at (c := 5) (cols := 9) hb1 (by decide) (by omega) (by omega) (by decide) (by decide)
    have p6 : ∀ x (g : Nat → Int32), fX4_put (nI b) 6 x 9 (E 6) 216 g = some (upd g (9 * b + 6) x) := fun x g => by rw [e6]; exact put_at (c := 6) (cols := 9) hb1 (by decide) (by omega) (by omega) (by decide) (by decide)
    have p7 : ∀ x (g : Nat → Int32), fX4_put (nI b) 7 x 9 (E 6) 216 g = some (upd g (9 * b + 7) x) := fun x g => by rw [e6]; exact put_at (c := 7) (cols := 9) hb1 (by decide) (by omega) (by omega) (by decide) (by decide)
    have p8 : ∀ x (g : Nat → Int32), fX4_put (nI b) 8 x 9 (E 6) 216 g = some (upd g (9 * b + 8) x) := fun x g => by rw [e6]; exact put_at (c := 8) (cols := 9) hb1 (by decide) (by omega) (by omega) (by decide) (by decide)
    have hdg : dm * g ≤ 999 * 9 := Nat.mul_le_mul hdm hg
    have eb : nI bl + nI co + nI dm * nI g = nI (bl + co + dm * g) := by rw [nI_add, pk_mul, nI_add]
    refine ⟨nI (bl + co + dm * g), upd (upd (upd (upd (F 0) (9 * b + 7) (nI td)) (9 * b + 8) (nI r)) (9 * b + 5) 1) (9 * b + 6) (nI (bl + co + dm * g)), upd (upd (upd (upd (N 1) (9 * b + 7) (nI td)) (9 * b + 8) (nI r)) (9 * b + 5) 1) (9 * b + 6) (nI (bl + co + dm * g)), ?_, ?_, ?_⟩
    · rw [fX6_giveBack, a1, bn1S, if_neg (by decide), w1, bn1S, if_neg (by decide), s1', bn1S, u1, bn1S, if_neg (by decide), p1, bn1S, if_neg (by decide), u4, bn1S, k1', bn1S, l1, bn1S, if_pos cc, q1', bn1S, l2, bn1S, l3, bn1S, p7, bn1S, p8, bn1S, eb, fX6_endLease, p5, bn1S, p6, bn1S, bn2S, e2]
    · rw [G7, fX7_giveBack_168, j10, ixN (by omega) (by decide), gdT, cl _ (by omega), cp2, if_pos cc, show (9 : Int32) * nI b + 7 = nI (9 * b + 7) from ax 9 b 7, show (9 : Int32) * nI b + 8 = nI (9 * b + 8) from ax 9 b 8, ixN (by omega) (by decide), gdT, ixN (by omega) (by decide), gdT, cl _ (by omega), cl _ (by omega), q2, bn1S, j4, j2, ixN (by omega) (by decide), gdT, ixN (by omega) (by decide), gdT, cl _ (by omega), cl _ (by omega), co2, dm2, eb, fX7_ends, show (9 : Int32) * nI b + 5 = nI (9 * b + 5) from ax 9 b 5, show (9 : Int32) * nI b + 6 = nI (9 * b + 6) from ax 9 b 6, ixN (by omega) (by decide), gdT, ixN (by omega) (by decide), gdT, cl _ (by omega), cl _ (by omega), bn2S]
    · refine Inv_boxes h hA (RBox_end (ft' := 1) (bl := bl + co + dm * g) hBox hb1 ?_ ?_ (by decide) (by omega) ?_ ?_ ?_ ?_ (fun _ => ⟨td, r, by omega, hr5, ⟨?_, ?_⟩, ⟨?_, ?_⟩⟩))
      · intro j hj; rw [upd_ne _ _ (by omega), upd_ne _ _ (by omega), upd_ne _ _ (by omega), upd_ne _ _ (by omega)]
      · intro j hj; rw [upd_ne _ _ (by omega), upd_ne _ _ (by omega), upd_ne _ _ (by omega), upd_ne _ _ (by omega)]
      · rw [upd_ne _ _ (by omega), upd_same]; rfl
      · rw [upd_ne _ _ (by omega), upd_same]; rfl
      · rw [upd_same]
      · rw [upd_same]
      · rw [upd_ne _ _ (by omega), upd_ne _ _ (by omega), upd_ne _ _ (by omega), upd_same]
      · rw [upd_ne _ _ (by omega), upd_ne _ _ (by omega), upd_ne _ _ (by omega), upd_same]
      · rw [upd_ne _ _ (by omega), upd_ne _ _ (by omega), upd_same]
      · rw [upd_ne _ _ (by omega), upd_ne _ _ (by omega), upd_same]
  · refine no (-2) ?_ ?_
    · rw [fX6_giveBack, a1, bn1S, if_neg (by decide), w1, bn1S, if_neg (by decide), s1', bn1S, u1, bn1S, if_neg (by decide), p1, bn1S, if_neg (by decide), u4, bn1S, k1', bn1S, l1, bn1S, if_neg cc]
    · rw [G7, fX7_giveBack_168, j10, ixN (by omega) (by decide), gdT, cl _ (by omega), cp2, if_neg cc]
