/-! CALLS THAT ADD A ROW -/
def app5 (f : Nat → Int32) (r : Nat) (a b c d e : Int32) : Nat → Int32 := upd (upd (upd (upd (upd f (5 * r) a) (5 * r + 1) b) (5 * r + 2) c) (5 * r + 3) d) (5 * r + 4) e
theorem app5_old {f : Nat → Int32} {r : Nat} {a b c d e : Int32} {j : Nat} (h : j < 5 * r ∨ 5 * r + 5 ≤ j) : app5 f r a b c d e j = f j := by
  unfold app5
  rw [upd_ne _ _ (by omega), upd_ne _ _ (by omega), upd_ne _ _ (by omega), upd_ne _ _ (by omega), upd_ne _ _ (by omega)]
theorem app5_0 {f : Nat → Int32} {r : Nat} {a b c d e : Int32} : app5 f r a b c d e (5 * r) = a := by
  unfold app5
  rw [upd_ne _ _ (by omega), upd_ne _ _ (by omega), upd_ne _ _ (by omega), upd_ne _ _ (by omega), upd_same]
theorem app5_1 {f : Nat → Int32} {r : Nat} {a b c d e : Int32} : app5 f r a b c d e (5 * r + 1) = b := by
  unfold app5
  rw [upd_ne _ _ (by omega), upd_ne _ _ (by omega), upd_ne _ _ (by omega), upd_same]
theorem app5_2 {f : Nat → Int32} {r : Nat} {a b c d e : Int32} : app5 f r a b c d e (5 * r + 2) = c := by
  unfold app5
  rw [upd_ne _ _ (by omega), upd_ne _ _ (by omega), upd_same]
theorem app5_3 {f : Nat → Int32} {r : Nat} {a b c d e : Int32} : app5 f r a b c d e (5 * r + 3) = d := by
  unfold app5
  rw [upd_ne _ _ (by omega), upd_same]
theorem app5_4 {f : Nat → Int32} {r : Nat} {a b c d e : Int32} : app5 f r a b c d e (5 * r + 4) = e := by
  unfold app5
  rw [upd_same]
theorem put5 {γ : Type} {r n : Nat} {f : Nat → Int32} {a b c d e : Int32} {k : (Nat → Int32) → Option γ} (h : 5 * r + 5 ≤ n) (hn : n < 2 ^ 30) : (bn1 (fX4_put (nI r) 0 a 5 (nI (r + 1)) n f) fun o1 => bn1 (fX4_put (nI r) 1 b 5 (nI (r + 1)) n o1) fun o2 => bn1 (fX4_put (nI r) 2 c 5 (nI (r + 1)) n o2) fun o3 => bn1 (fX4_put (nI r) 3 d 5 (nI (r + 1)) n o3) fun o4 => bn1 (fX4_put (nI r) 4 e 5 (nI (r + 1)) n o4) k) = k (app5 f r a b c d e) := by
  rw [show fX4_put (nI r) 0 a 5 (nI (r + 1)) n f = some (upd f (5 * r + 0) a) from put_at (c := 0) (cols := 5) (by omega) (by decide) (by omega) (by omega) (by decide) (by omega), bn1S]
  rw [show fX4_put (nI r) 1 b 5 (nI (r + 1)) n (upd f (5 * r + 0) a) = some (upd (upd f (5 * r + 0) a) (5 * r + 1) b) from put_at (c := 1) (cols := 5) (by omega) (by decide) (by omega) (by omega) (by decide) (by omega), bn1S]
  rw [show fX4_put (nI r) 2 c 5 (nI (r + 1)) n (upd (upd f (5 * r + 0) a) (5 * r + 1) b) = some (upd (upd (upd f (5 * r + 0) a) (5 * r + 1) b) (5 * r + 2) c) from put_at (c := 2) (cols := 5) (by omega) (by decide) (by omega) (by omega) (by decide) (by omega), bn1S]
  rw [show fX4_put (nI r) 3 d 5 (nI (r + 1)) n (upd (upd (upd f (5 * r + 0) a) (5 * r + 1) b) (5 * r + 2) c) = some (upd (upd (upd (upd f (5 * r + 0) a) (5 * r + 1) b) (5 * r + 2) c) (5 * r + 3) d) from put_at (c := 3) (cols := 5) (by omega) (by decide) (by omega) (by omega) (by decide) (by omega), bn1S]
  rw [show fX4_put (nI r) 4 e 5 (nI (r + 1)) n (upd (upd (upd (upd f (5 * r + 0) a) (5 * r + 1) b) (5 * r + 2) c) (5 * r + 3) d) = some (upd (upd (upd (upd (upd f (5 * r + 0) a) (5 * r + 1) b) (5 * r + 2) c) (5 * r + 3) d) (5 * r + 4) e) from put_at (c := 4) (cols := 5) (by omega) (by decide) (by omega) (by omega) (by decide) (by omega), bn1S]
  rfl
theorem eq10 : ((1 : Int32) = 0) = False := by simp
theorem eq00 : ((0 : Int32) = 0) = True := by simp
theorem nI_neq {a b : Nat} (h : a ≠ b) (ha : a < 2 ^ 31) (hb : b < 2 ^ 31) : ¬ nI a = nI b := fun q => h ((nI_eq ha hb).mp q)
/-- what stands in every call's frame of facts: the tests of the first columns of a box -/
theorem box_5 {nB b : Nat} {f m : Nat → Int32} {E6 : Int32} (hBox : RBox nB f m) (hb : b < nB) (h24 : nB ≤ 24) (e6 : E6 = nI nB) : ∃ ft : Nat, ft ≤ 2 ∧ fX6_isWithLine (nI b) E6 f = some (if ft = 0 then 1 else 0) ∧ fX7_get (nI b) 5 m = some (nI ft) ∧ f (9 * b + 5) = nI ft := by
  obtain ⟨mk, kd, ln, cm, ft, hh, x0, x1, x2, x3, x4, x5, x6, x7⟩ := hBox b hb
  refine ⟨ft, by omega, ?_, ?_, x5.1⟩
  · unfold fX6_isWithLine
    rw [e6, show fX4_cell (nI b) 5 9 (nI nB) 216 f = some (f (9 * b + 5)) from cell_at (c := 5) (cols := 9) hb (by decide) (by omega) (by omega) (by decide) (by decide), bn1S, x5.1]
    rcases (show ft = 0 ∨ ft = 1 ∨ ft = 2 by omega) with rfl | rfl | rfl <;> rfl
  · rw [show fX7_get (nI b) 5 m = some (m (9 * b + 5)) from get_at (k := 5) (by omega), x5.2]
theorem op_word : Op_word Inv := by
  intro E F M N v1 v2 v3 v4 h
  obtain ⟨⟨td, lk, rt, fr, nB, nW, nR, nO, nA, nU, ⟨hd, hn, hb⟩, hBox, hWo, hWe, hRo, hOf, hWa, hLv, hLs, hUs⟩, hK, hT, hP⟩ := id h
  have e2 : E 2 = nI td := hd.1
  have e6 : E 6 = nI nB := hd.2.2.2.2.1
  have e7 : E 7 = nI nW := hd.2.2.2.2.2.1
  have n0 : N 0 0 = nI td := hn.1
  have n2 : N 0 2 = nI nW := hn.2.2.1
  have no : ∀ r : Int32, fX6_word v1 v2 v3 v4 (E 2) (E 6) (F 0) (E 7) (F 1) = some (r, E 7, F 1) → fX7_word v1 v2 v3 v4 (N 0) (N 1) (N 2) = some (r, N 0, N 2) → ∃ (r z1 : Int32) (z2 z3 z4 : Nat → Int32), fX6_word v1 v2 v3 v4 (E 2) (E 6) (F 0) (E 7) (F 1) = some (r, z1, z2) ∧ fX7_word v1 v2 v3 v4 (N 0) (N 1) (N 2) = some (r, z3, z4) ∧ Inv (va_up E 7 z1) (va_up F 1 z2) M (va_up (va_up N 0 z3) 2 z4) := by
    intro r P1 P2
    refine ⟨r, E 7, F 1, N 0, N 2, P1, P2, ?_⟩
    rw [up_self, up_self, up_self, up_self]; exact h
  rcases tBox v1 e6 hn.2.1 (by omega) with ⟨a1, a2⟩ | ⟨b, hb1, rfl, a1, a2⟩
  · exact no (-1) (by simp [fX6_word, a1, bn1S]) (by simp [fX7_word, a2, bn1S])
  rcases tPast v2 e2 n0 (by omega) with ⟨b1, b2⟩ | ⟨d, hd1, rfl, b1, b2⟩
  · exact no (-1) (by simp [fX6_word, a1, b1, bn1S]) (by simp [fX7_word, a2, b2, bn1S])
  rcases tPlace v3 with ⟨c1, c2⟩ | ⟨p, hp, rfl, c1, c2⟩
  · exact no (-1) (by simp [fX6_word, a1, b1, c1, bn1S]) (by simp [fX7_word, a2, b2, c2, bn1S])
  rcases tW v4 (hi := 1) 1 rfl (by decide) with ⟨d1, d2⟩ | ⟨k, hk, rfl, d1, d2⟩
  · exact no (-1) (by simp [fX6_word, a1, b1, c1, d1, bn1S]) (by simp [fX7_word, a2, b2, c2, d2, bn1S])
  obtain ⟨ft, hft, f1, f2, -⟩ := box_5 hBox hb1 (by omega) e6
  by_cases hf0 : ft = 0
  · subst hf0
    have fu := full_at (most := 60) (rows := nW) (by omega) (by decide)
    by_cases hfull : nW < 60
    · have gr := grow_at (most := 60) hfull (by decide)
      refine ⟨nI nW, nI (nW + 1), app5 (F 1) nW (nI b) (nI d) (nI p) (nI k) (nI td), upd (N 0) 2 (nI (nW + 1)), app5 (N 2) nW (nI b) (nI d) (nI p) (nI k) (nI td), ?_, ?_, ?_⟩
      · simp only [fX6_word, a1, b1, c1, d1, f1, bn1S, eq10, if_false, e7]
        rw [show fX4_isFull 60 (nI nW) = _ from fu, if_pos hfull, bn1S, if_neg (by decide), if_pos rfl, show fX4_grow 60 (nI nW) = _ from gr, bn2S, put5 (by omega) (by decide), e2]
      · simp only [fX7_word, a2, b2, c2, d2, f2, bn1S, eq10, if_false, nI_0, eq00, if_true]
        simp (disch := omega) only [fa_lit, pk_mul, nI_add, ixN, cl, gdT, n2, n0]
        rw [if_neg (nI_neq (by omega) (by omega) (by decide))]
        simp only [upd_same, show nI (nW + 1) - nI 1 = nI nW from nI_pred nW]
        rfl
      · refine Inv_desk h ⟨td, lk, rt, fr, nB, nW + 1, nR, nO, nA, nU, ⟨by simp [va_up, hd], by simp [va_up, upd, hn], by omega⟩, by simpa [va_up] using hBox, ?_, by simpa [va_up] using hWe, by simpa [va_up] using hRo, by simpa [va_up] using hOf, by simpa [va_up] using hWa, by simpa [va_up] using hLv, by simpa [va_up] using hLs, by simpa [va_up] using hUs⟩ rfl (fun i hi => up_ge (by decide) hi) (fun j hj => up_ge (by decide) hj) rfl rfl rfl rfl (RP_same hP rfl rfl rfl rfl rfl rfl rfl)
        show RWord (nW + 1) (app5 (F 1) nW (nI b) (nI d) (nI p) (nI k) (nI td)) (app5 (N 2) nW (nI b) (nI d) (nI p) (nI k) (nI td))
        intro w hw
        rcases Nat.lt_or_ge w nW with q | q
        · obtain ⟨bx, dy, pl, wt, kn, hh⟩ := hWo w q
          refine ⟨bx, dy, pl, wt, kn, ?_⟩
          rw [app5_old (by omega), app5_old (by omega), app5_old (by omega), app5_old (by omega), app5_old (by omega), app5_old (by omega), app5_old (by omega), app5_old (by omega), app5_old (by omega), app5_old (by omega)]
          exact hh
        · obtain rfl : w = nW := by omega
          exact ⟨b, d, p, k, td, by omega, ⟨app5_0, app5_0⟩, ⟨app5_1, app5_1⟩, ⟨app5_2, app5_2⟩, ⟨app5_3, app5_3⟩, ⟨app5_4, app5_4⟩⟩
    · obtain rfl : nW = 60 := by omega
      refine no (-2) ?_ ?_
      · simp only [fX6_word, a1, b1, c1, d1, f1, bn1S, eq10, if_false, e7]
        rw [show fX4_isFull 60 (nI 60) = _ from fu, if_neg hfull, bn1S, if_neg (by decide), if_neg (by decide)]
      · simp only [fX7_word, a2, b2, c2, d2, f2, bn1S, eq10, if_false, nI_0, eq00, if_true]
        simp (disch := omega) only [fa_lit, ixN, cl, gdT, n2, n0, if_true]
  · refine no (-4) ?_ ?_
    · simp [fX6_word, a1, b1, c1, d1, f1, bn1S, hf0]
    · simp [fX7_word, a2, b2, c2, d2, f2, bn1S, nI_ne0 (n := ft) (by omega) (by omega)]
