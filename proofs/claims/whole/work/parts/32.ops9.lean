theorem RBox_end {nB b ft' bl : Nat} {f m f' m' : Nat → Int32} (h : RBox nB f m) (hb : b < nB) (hf : ∀ j, (j < 9 * b + 5 ∨ 9 * b + 8 < j) → f' j = f j) (hm : ∀ j, (j < 9 * b + 5 ∨ 9 * b + 8 < j) → m' j = m j) (hft : ft' ≤ 2) (hbl : bl ≤ 1000000) (a1 : f' (9 * b + 5) = nI ft') (a2 : m' (9 * b + 5) = nI ft') (b1 : f' (9 * b + 6) = nI bl) (b2 : m' (9 * b + 6) = nI bl) (hx : ft' = 1 → ∃ bd bp : Nat, bd ≤ 200 ∧ bp ≤ 5 ∧ (f' (9 * b + 7) = nI bd ∧ m' (9 * b + 7) = nI bd) ∧ (f' (9 * b + 8) = nI bp ∧ m' (9 * b + 8) = nI bp)) : RBox nB f' m' := by
  intro c hc
  obtain ⟨mk, kd, ln, cm, ft, hh, x0, x1, x2, x3, x4, x5, x6, x7⟩ := h c hc
  by_cases e : c = b
  · subst e
    have k : ∀ k, k < 5 → f' (9 * c + k) = f (9 * c + k) ∧ m' (9 * c + k) = m (9 * c + k) := fun k hk => ⟨hf _ (by omega), hm _ (by omega)⟩
    have k0 : f' (9 * c) = f (9 * c) ∧ m' (9 * c) = m (9 * c) := k 0 (by decide)
    refine ⟨mk, kd, ln, cm, ft', ⟨hh.1, hh.2.1, hh.2.2.1, hh.2.2.2.1, hft⟩, ?_, ?_, ?_, ?_, ?_, ⟨a1, a2⟩, Or.inr ⟨bl, hbl, b1, b2⟩, hx⟩
    · rw [k0.1, k0.2]; exact x0
    · rw [(k 1 (by decide)).1, (k 1 (by decide)).2]; exact x1
    · rw [(k 2 (by decide)).1, (k 2 (by decide)).2]; exact x2
    · rw [(k 3 (by decide)).1, (k 3 (by decide)).2]; exact x3
    · rw [(k 4 (by decide)).1, (k 4 (by decide)).2]; exact x4
  · have k : ∀ k, k < 9 → f' (9 * c + k) = f (9 * c + k) ∧ m' (9 * c + k) = m (9 * c + k) := fun k hk => ⟨hf _ (by omega), hm _ (by omega)⟩
    have k0 : f' (9 * c) = f (9 * c) ∧ m' (9 * c) = m (9 * c) := k 0 (by decide)
    refine ⟨mk, kd, ln, cm, ft, hh, ?_, ?_, ?_, ?_, ?_, ?_, ?_, ?_⟩
    · rw [k0.1, k0.2]; exact x0
    · rw [(k 1 (by decide)).1, (k 1 (by decide)).2]; exact x1
    · rw [(k 2 (by decide)).1, (k 2 (by decide)).2]; exact x2
    · rw [(k 3 (by decide)).1, (k 3 (by decide)).2]; exact x3
    · rw [(k 4 (by decide)).1, (k 4 (by decide)).2]; exact x4
    · rw [(k 5 (by decide)).1, (k 5 (by decide)).2]; exact x5
    · rw [(k 6 (by decide)).1, (k 6 (by decide)).2]; exact x6
    · rw [(k 7 (by decide)).1, (k 7 (by decide)).2, (k 8 (by decide)).1, (k 8 (by decide)).2]; exact x7
/-- the desk's boxes change, and nothing else -/
theorem Inv_boxes {E F M N td lk rt fr nB nW nR nO nA nU} {f m : Nat → Int32} (h : Inv E F M N) (hA : RAt (fun i => E (2 + i)) F N td lk rt fr nB nW nR nO nA nU) (hB : RBox nB f m) : Inv E (va_up F 0 f) M (va_up N 1 m) := by
  obtain ⟨hNum, hBox, hWo, hWe, hRo, hOf, hWa, hLv, hLs, hUs⟩ := hA
  refine Inv_desk h ⟨td, lk, rt, fr, nB, nW, nR, nO, nA, nU, hNum, hB, hWo, hWe, hRo, hOf, hWa, hLv, hLs, hUs⟩ rfl (fun i hi => rfl) (fun j hj => up_ge (b := 9) (by decide) hj) rfl rfl rfl rfl (RP_same h.2.2.2 rfl rfl rfl rfl rfl rfl rfl)
theorem Inv_id {E F M N} (h : Inv E F M N) : Inv E (va_up F 0 (F 0)) M (va_up N 1 (N 1)) := by rw [up_self, up_self]; exact h
/-- under lease or not, on both sides -/
theorem under_at {nB b : Nat} {f m : Nat → Int32} {E6 : Int32} (hBox : RBox nB f m) (hb : b < nB) (h24 : nB ≤ 24) (e6 : E6 = nI nB) : (fX6_isUnderLease (nI b) E6 f = some 0 ∧ ((∃ x : Int32, x < 0 ∧ fX7_get (nI b) 3 m = some x) ∨ ∃ ls x : Int32, ¬ ls < 0 ∧ ¬ x = 0 ∧ fX7_get (nI b) 3 m = some ls ∧ fX7_get (nI b) 5 m = some x)) ∨ ∃ ls : Nat, ls ≤ 2 ∧ fX6_isUnderLease (nI b) E6 f = some 1 ∧ fX7_get (nI b) 3 m = some (nI ls) ∧ fX7_get (nI b) 5 m = some 0 ∧ fX4_cell (nI b) 3 9 E6 216 f = some (nI ls) ∧ f (9 * b + 3) = nI ls ∧ m (9 * b + 3) = nI ls := by
  obtain ⟨ft, hft, f1, f2, f3⟩ := box_5 hBox hb h24 e6
  obtain ⟨mk, kd, ln, cm, ft', hh, x0, x1, x2, x3, x4, x5, x6, x7⟩ := hBox b hb
  have q3 : fX4_cell (nI b) 3 9 E6 216 f = some (f (9 * b + 3)) := by rw [e6]; exact cell_at (c := 3) (cols := 9) hb (by decide) (by omega) (by omega) (by decide) (by decide)
  have g3 : fX7_get (nI b) 3 m = some (m (9 * b + 3)) := get_at (k := 3) (by omega)
  rcases x3 with ⟨s1, s2⟩ | ⟨ls, hls, s1, s2⟩
  · refine Or.inl ⟨?_, Or.inl ⟨-1, by decide, by rw [g3, s2]⟩⟩
    rw [fX6_isUnderLease, q3, bn1S, s1, if_pos (by decide)]
  · by_cases c : ft = 0
    · refine Or.inr ⟨ls, hls, ?_, by rw [g3, s2], by rw [f2, c]; rfl, by rw [q3, s1], s1, s2⟩
      rw [fX6_isUnderLease, q3, bn1S, s1, if_neg (nlt0 ls (by omega)), f1, if_pos c, bn1S, if_neg (by decide)]
    · refine Or.inl ⟨?_, Or.inr ⟨nI ls, nI ft, nlt0 ls (by omega), nI_neq (b := 0) c (by omega) (by omega), by rw [g3, s2], f2⟩⟩
      rw [fX6_isUnderLease, q3, bn1S, s1, if_neg (nlt0 ls (by omega)), f1, if_neg c, bn1S, if_pos rfl]
theorem op_writeOff : Op_writeOff Inv := by
  intro E F M N v h
  obtain ⟨⟨td, lk, rt, fr, nB, nW, nR, nO, nA, nU, hA⟩, hK, hT, hP⟩ := id h
  obtain ⟨⟨hd, hn, hb⟩, hBox, hWo, hWe, hRo, hOf, hWa, hLv, hLs, hUs⟩ := id hA
  have e2 : E 2 = nI td := hd.1
  have e6 : E 6 = nI nB := hd.2.2.2.2.1
  have e7 : E 7 = nI nW := hd.2.2.2.2.2.1
  have e13 : E 13 = nI 3 := hd.2.2.2.2.2.2.2.2.2.2.2.1
  have n0 : N 0 0 = nI td := hn.1
  have no : ∀ r : Int32, fX6_writeOff v (E 2) (E 6) (F 0) (E 7) (F 1) (E 13) (F 7) = some (r, F 0) → fX7_writeOff v (N 0) (N 1) (N 2) (N 7) = some (r, N 1) → ∃ (r : Int32) (z1 z2 : Nat → Int32), fX6_writeOff v (E 2) (E 6) (F 0) (E 7) (F 1) (E 13) (F 7) = some (r, z1) ∧ fX7_writeOff v (N 0) (N 1) (N 2) (N 7) = some (r, z2) ∧ Inv E (va_up F 0 z1) M (va_up N 1 z2) := fun r p1 p2 => ⟨r, F 0, N 1, p1, p2, Inv_id h⟩
  rcases tBox v e6 hn.2.1 (by omega) with ⟨a1, a2⟩ | ⟨b, hb1, rfl, a1, a2⟩
  · exact no (-1) (by simp [fX6_writeOff, a1, bn1S]) (by simp [fX7_writeOff, a2, bn1S])
  obtain ⟨r, hr, s1, s2, s3⟩ := stand_at hWo (by omega) e7 hn.2.2.1 (b := b) (d := td) (k := td) (by omega) (by omega) (by omega)
  obtain ⟨l, hl, l1, l2⟩ := late_at hWo (by omega) e7 hn.2.2.1 hn.1 (by omega) (b := b) (by omega)
  -- both sides come to the second half with a flag
  have E1 : fX6_writeOff (nI b) (E 2) (E 6) (F 0) (E 7) (F 1) (E 13) (F 7) = fX6_writeOff_45 (nI b) (if r = 20 then 1 else 0) (E 2) (E 6) (F 0) (E 7) (F 1) (E 13) (F 7) := by
    rw [fX6_writeOff, a1, bn1S, if_neg (by decide), e2, s1, bn1S]
    by_cases c : r = 20
    · rw [if_pos (show nI r = 20 by rw [c]; rfl), if_pos c]
    · rw [if_neg (show ¬ nI r = 20 from nI_neq (b := 20) c (by omega) (by omega)), if_neg c]
  have E2 : fX7_writeOff (nI b) (N 0) (N 1) (N 2) (N 7) = fX7_writeOff_40 (nI b) (if r = 20 ∨ l = 1 then 1 else 0) (N 0) (N 1) (N 7) := by
    rw [fX7_writeOff, a2, bn1S, if_neg (by decide), gdt (show ix (0 : Int32) 10 = true by decide), l2, bn1S, clL0, n0]
    simp only [fX7_writeOff_35]
    rcases (show l = 0 ∨ l = 1 by omega) with rfl | rfl
    · rw [if_pos nI_0]
      rcases latest_at hWo (by omega) e7 hn.2.2.1 (b := b) (d := td) (k := td) (by omega) (by omega) (by omega) with ⟨t1, t2⟩ | ⟨w, hw, t1, t2⟩
      · rw [t2, bn1S, if_neg (by decide), if_pos (Or.inl (s3.2 t2))]
      · rw [t2, bn1S, if_pos (ge0N w (by omega)), if_neg]
        rintro (z | z)
        · have z' := s3.1 z
          rw [t2] at z'
          exact nlt0 w (by omega) (by rw [Option.some.inj z']; decide)
        · omega
    · rw [if_neg (by decide), if_pos (Or.inr rfl)]
  rw [← e2] at l1
  rcases under_at hBox hb1 (by omega) e6 with ⟨u1, u2⟩ | ⟨ls, hls, u1, u2, u3, u4, u5, u6⟩
  · refine no (-4) ?_ ?_
    · rw [E1, fX6_writeOff_45, u1, bn1S, if_pos rfl]
    · rw [E2, fX7_writeOff_40]
      rcases u2 with ⟨x, hx, g⟩ | ⟨y, x, hy, hx, g, g'⟩
      · rw [g, bn1S, if_pos hx]
      · rw [g, bn1S, if_neg hy, g', bn1S, if_neg hx]
  by_cases c : r = 20 ∨ l = 1
  · obtain ⟨bl, hbl, q1, q2⟩ := bill_at hBox hLs hb1 (by omega) (by omega) e6 e13 n0 hls u5 u6 (N 1) (fun k hk => rfl)
    obtain ⟨lo, hlo, o1, o2⟩ := (hLs ls (by omega)).1 3 (by decide)
    have kl : fX4_cell (nI ls) 3 17 (E 13) 51 (F 7) = some (nI lo) := by rw [e13, show fX4_cell (nI ls) 3 17 (nI 3) 51 (F 7) = some (F 7 (17 * ls + 3)) from cell_at (c := 3) (cols := 17) (by omega) (by decide) (by omega) (by decide) (by decide) (by decide), o1]
    rw [← e2] at q1
    have p5 : ∀ x, fX4_put (nI b) 5 x 9 (E 6) 216 (F 0) = some (upd (F 0) (9 * b + 5) x) := fun x => by rw [e6]; exact put_at (c := 5) (cols := 9) hb1 (by decide) (by omega) (by omega) (by decide) (by decide)
    have p6 : ∀ x (g : Nat → Int32), fX4_put (nI b) 6 x 9 (E 6) 216 g = some (upd g (9 * b + 6) x) := fun x g => by rw [e6]; exact put_at (c := 6) (cols := 9) hb1 (by decide) (by omega) (by omega) (by decide) (by decide)
    have G : fX6_writeOff_69 (nI b) (E 2) (E 6) (F 0) (E 13) (F 7) = some (nI (bl + lo), upd (upd (F 0) (9 * b + 5) 2) (9 * b + 6) (nI (bl + lo))) := by
      rw [fX6_writeOff_69, u4, bn1S, kl, bn1S, q1, bn1S, fX6_endLease, p5, bn1S, p6, bn1S, bn2S, nI_add]
    refine ⟨nI (bl + lo), upd (upd (F 0) (9 * b + 5) 2) (9 * b + 6) (nI (bl + lo)), upd (upd (N 1) (9 * b + 5) 2) (9 * b + 6) (nI (bl + lo)), ?_, ?_, ?_⟩
    · rw [E1, fX6_writeOff_45, u1, bn1S, if_neg (by decide), l1, bn1S, G]
      by_cases c2 : r = 20
      · rw [if_pos c2, if_neg (by decide)]
      · rw [if_neg c2, if_pos rfl, if_neg]
        rcases c with c | c
        · exact absurd c c2
        · rw [c]; decide
    · rw [E2, if_pos c, fX7_writeOff_40, u2, bn1S, if_neg (nlt0 ls (by omega)), u3, bn1S, if_pos rfl, if_neg (by decide), q2, bn1S, bn1S, show (17 : Int32) * nI ls + 3 = nI (17 * ls + 3) from ax 17 ls 3, ixN (by omega) (by decide), gdT, cl _ (by omega), o2, nI_add, fX7_ends, show (9 : Int32) * nI b + 5 = nI (9 * b + 5) from ax 9 b 5, show (9 : Int32) * nI b + 6 = nI (9 * b + 6) from ax 9 b 6, ixN (by omega) (by decide), gdT, ixN (by omega) (by decide), gdT, cl _ (by omega), cl _ (by omega), bn2S]
    · refine Inv_boxes h hA (RBox_end (ft' := 2) (bl := bl + lo) hBox hb1 ?_ ?_ (by decide) (by omega) ?_ ?_ ?_ ?_ (fun z => absurd z (by decide)))
      · intro j hj; rw [upd_ne _ _ (by omega), upd_ne _ _ (by omega)]
      · intro j hj; rw [upd_ne _ _ (by omega), upd_ne _ _ (by omega)]
      · rw [upd_ne _ _ (by omega), upd_same]; rfl
      · rw [upd_ne _ _ (by omega), upd_same]; rfl
      · rw [upd_same]
      · rw [upd_same]
  · refine no (-4) ?_ ?_
    · rw [E1, fX6_writeOff_45, u1, bn1S, if_neg (by decide), if_neg (fun z => c (Or.inl z)), if_pos rfl, l1, bn1S, if_pos]
      rcases (show l = 0 ∨ l = 1 by omega) with rfl | rfl
      · rfl
      · exact absurd (Or.inr rfl) c
    · rw [E2, if_neg c, fX7_writeOff_40, u2, bn1S, if_neg (nlt0 ls (by omega)), u3, bn1S, if_pos rfl, if_pos rfl]
