def app9 (f : Nat → Int32) (r : Nat) (a0 a1 a2 a3 a4 a5 a6 a7 a8 : Int32) : Nat → Int32 := (upd (upd (upd (upd (upd (upd (upd (upd (upd f (9 * r) a0) (9 * r + 1) a1) (9 * r + 2) a2) (9 * r + 3) a3) (9 * r + 4) a4) (9 * r + 5) a5) (9 * r + 6) a6) (9 * r + 7) a7) (9 * r + 8) a8)
theorem app9_old {f : Nat → Int32} {r : Nat} {a0 a1 a2 a3 a4 a5 a6 a7 a8 : Int32} {j : Nat} (h : j < 9 * r ∨ 9 * r + 9 ≤ j) : app9 f r a0 a1 a2 a3 a4 a5 a6 a7 a8 j = f j := by
  unfold app9
  rw [upd_ne _ _ (by omega), upd_ne _ _ (by omega), upd_ne _ _ (by omega), upd_ne _ _ (by omega), upd_ne _ _ (by omega), upd_ne _ _ (by omega), upd_ne _ _ (by omega), upd_ne _ _ (by omega), upd_ne _ _ (by omega)]
theorem app9_0 {f : Nat → Int32} {r : Nat} {a0 a1 a2 a3 a4 a5 a6 a7 a8 : Int32} : app9 f r a0 a1 a2 a3 a4 a5 a6 a7 a8 (9 * r) = a0 := by
  unfold app9
  rw [upd_ne _ _ (by omega), upd_ne _ _ (by omega), upd_ne _ _ (by omega), upd_ne _ _ (by omega), upd_ne _ _ (by omega), upd_ne _ _ (by omega), upd_ne _ _ (by omega), upd_ne _ _ (by omega), upd_same]
theorem app9_1 {f : Nat → Int32} {r : Nat} {a0 a1 a2 a3 a4 a5 a6 a7 a8 : Int32} : app9 f r a0 a1 a2 a3 a4 a5 a6 a7 a8 (9 * r + 1) = a1 := by
  unfold app9
  rw [upd_ne _ _ (by omega), upd_ne _ _ (by omega), upd_ne _ _ (by omega), upd_ne _ _ (by omega), upd_ne _ _ (by omega), upd_ne _ _ (by omega), upd_ne _ _ (by omega), upd_same]
theorem app9_2 {f : Nat → Int32} {r : Nat} {a0 a1 a2 a3 a4 a5 a6 a7 a8 : Int32} : app9 f r a0 a1 a2 a3 a4 a5 a6 a7 a8 (9 * r + 2) = a2 := by
  unfold app9
  rw [upd_ne _ _ (by omega), upd_ne _ _ (by omega), upd_ne _ _ (by omega), upd_ne _ _ (by omega), upd_ne _ _ (by omega), upd_ne _ _ (by omega), upd_same]
theorem app9_3 {f : Nat → Int32} {r : Nat} {a0 a1 a2 a3 a4 a5 a6 a7 a8 : Int32} : app9 f r a0 a1 a2 a3 a4 a5 a6 a7 a8 (9 * r + 3) = a3 := by
  unfold app9
  rw [upd_ne _ _ (by omega), upd_ne _ _ (by omega), upd_ne _ _ (by omega), upd_ne _ _ (by omega), upd_ne _ _ (by omega), upd_same]
theorem app9_4 {f : Nat → Int32} {r : Nat} {a0 a1 a2 a3 a4 a5 a6 a7 a8 : Int32} : app9 f r a0 a1 a2 a3 a4 a5 a6 a7 a8 (9 * r + 4) = a4 := by
  unfold app9
  rw [upd_ne _ _ (by omega), upd_ne _ _ (by omega), upd_ne _ _ (by omega), upd_ne _ _ (by omega), upd_same]
theorem app9_5 {f : Nat → Int32} {r : Nat} {a0 a1 a2 a3 a4 a5 a6 a7 a8 : Int32} : app9 f r a0 a1 a2 a3 a4 a5 a6 a7 a8 (9 * r + 5) = a5 := by
  unfold app9
  rw [upd_ne _ _ (by omega), upd_ne _ _ (by omega), upd_ne _ _ (by omega), upd_same]
theorem app9_6 {f : Nat → Int32} {r : Nat} {a0 a1 a2 a3 a4 a5 a6 a7 a8 : Int32} : app9 f r a0 a1 a2 a3 a4 a5 a6 a7 a8 (9 * r + 6) = a6 := by
  unfold app9
  rw [upd_ne _ _ (by omega), upd_ne _ _ (by omega), upd_same]
theorem app9_7 {f : Nat → Int32} {r : Nat} {a0 a1 a2 a3 a4 a5 a6 a7 a8 : Int32} : app9 f r a0 a1 a2 a3 a4 a5 a6 a7 a8 (9 * r + 7) = a7 := by
  unfold app9
  rw [upd_ne _ _ (by omega), upd_same]
theorem app9_8 {f : Nat → Int32} {r : Nat} {a0 a1 a2 a3 a4 a5 a6 a7 a8 : Int32} : app9 f r a0 a1 a2 a3 a4 a5 a6 a7 a8 (9 * r + 8) = a8 := by
  unfold app9
  rw [upd_same]
theorem put9 {γ : Type} {r n : Nat} {f : Nat → Int32} {a0 a1 a2 a3 a4 a5 a6 a7 a8 : Int32} {k : (Nat → Int32) → Option γ} (h : 9 * r + 9 ≤ n) (hn : n < 2 ^ 30) : (bn1 (fX4_put (nI r) 0 a0 9 (nI (r + 1)) n f) fun o1 => bn1 (fX4_put (nI r) 1 a1 9 (nI (r + 1)) n o1) fun o2 => bn1 (fX4_put (nI r) 2 a2 9 (nI (r + 1)) n o2) fun o3 => bn1 (fX4_put (nI r) 3 a3 9 (nI (r + 1)) n o3) fun o4 => bn1 (fX4_put (nI r) 4 a4 9 (nI (r + 1)) n o4) fun o5 => bn1 (fX4_put (nI r) 5 a5 9 (nI (r + 1)) n o5) fun o6 => bn1 (fX4_put (nI r) 6 a6 9 (nI (r + 1)) n o6) fun o7 => bn1 (fX4_put (nI r) 7 a7 9 (nI (r + 1)) n o7) fun o8 => bn1 (fX4_put (nI r) 8 a8 9 (nI (r + 1)) n o8) fun o9 => k o9) = k (app9 f r a0 a1 a2 a3 a4 a5 a6 a7 a8) := by
  rw [show fX4_put (nI r) 0 a0 9 (nI (r + 1)) n f = some (upd f (9 * r + 0) a0) from put_at (c := 0) (cols := 9) (by omega) (by decide) (by omega) (by omega) (by decide) (by omega), bn1S]
  rw [show fX4_put (nI r) 1 a1 9 (nI (r + 1)) n (upd f (9 * r + 0) a0) = some (upd (upd f (9 * r + 0) a0) (9 * r + 1) a1) from put_at (c := 1) (cols := 9) (by omega) (by decide) (by omega) (by omega) (by decide) (by omega), bn1S]
  rw [show fX4_put (nI r) 2 a2 9 (nI (r + 1)) n (upd (upd f (9 * r + 0) a0) (9 * r + 1) a1) = some (upd (upd (upd f (9 * r + 0) a0) (9 * r + 1) a1) (9 * r + 2) a2) from put_at (c := 2) (cols := 9) (by omega) (by decide) (by omega) (by omega) (by decide) (by omega), bn1S]
  rw [show fX4_put (nI r) 3 a3 9 (nI (r + 1)) n (upd (upd (upd f (9 * r + 0) a0) (9 * r + 1) a1) (9 * r + 2) a2) = some (upd (upd (upd (upd f (9 * r + 0) a0) (9 * r + 1) a1) (9 * r + 2) a2) (9 * r + 3) a3) from put_at (c := 3) (cols := 9) (by omega) (by decide) (by omega) (by omega) (by decide) (by omega), bn1S]
  rw [show fX4_put (nI r) 4 a4 9 (nI (r + 1)) n (upd (upd (upd (upd f (9 * r + 0) a0) (9 * r + 1) a1) (9 * r + 2) a2) (9 * r + 3) a3) = some (upd (upd (upd (upd (upd f (9 * r + 0) a0) (9 * r + 1) a1) (9 * r + 2) a2) (9 * r + 3) a3) (9 * r + 4) a4) from put_at (c := 4) (cols := 9) (by omega) (by decide) (by omega) (by omega) (by decide) (by omega), bn1S]
  rw [show fX4_put (nI r) 5 a5 9 (nI (r + 1)) n (upd (upd (upd (upd (upd f (9 * r + 0) a0) (9 * r + 1) a1) (9 * r + 2) a2) (9 * r + 3) a3) (9 * r + 4) a4) = some (upd (upd (upd (upd (upd (upd f (9 * r + 0) a0) (9 * r + 1) a1) (9 * r + 2) a2) (9 * r + 3) a3) (9 * r + 4) a4) (9 * r + 5) a5) from put_at (c := 5) (cols := 9) (by omega) (by decide) (by omega) (by omega) (by decide) (by omega), bn1S]
  rw [show fX4_put (nI r) 6 a6 9 (nI (r + 1)) n (upd (upd (upd (upd (upd (upd f (9 * r + 0) a0) (9 * r + 1) a1) (9 * r + 2) a2) (9 * r + 3) a3) (9 * r + 4) a4) (9 * r + 5) a5) = some (upd (upd (upd (upd (upd (upd (upd f (9 * r + 0) a0) (9 * r + 1) a1) (9 * r + 2) a2) (9 * r + 3) a3) (9 * r + 4) a4) (9 * r + 5) a5) (9 * r + 6) a6) from put_at (c := 6) (cols := 9) (by omega) (by decide) (by omega) (by omega) (by decide) (by omega), bn1S]
  rw [show fX4_put (nI r) 7 a7 9 (nI (r + 1)) n (upd (upd (upd (upd (upd (upd (upd f (9 * r + 0) a0) (9 * r + 1) a1) (9 * r + 2) a2) (9 * r + 3) a3) (9 * r + 4) a4) (9 * r + 5) a5) (9 * r + 6) a6) = some (upd (upd (upd (upd (upd (upd (upd (upd f (9 * r + 0) a0) (9 * r + 1) a1) (9 * r + 2) a2) (9 * r + 3) a3) (9 * r + 4) a4) (9 * r + 5) a5) (9 * r + 6) a6) (9 * r + 7) a7) from put_at (c := 7) (cols := 9) (by omega) (by decide) (by omega) (by omega) (by decide) (by omega), bn1S]
  rw [show fX4_put (nI r) 8 a8 9 (nI (r + 1)) n (upd (upd (upd (upd (upd (upd (upd (upd f (9 * r + 0) a0) (9 * r + 1) a1) (9 * r + 2) a2) (9 * r + 3) a3) (9 * r + 4) a4) (9 * r + 5) a5) (9 * r + 6) a6) (9 * r + 7) a7) = some (upd (upd (upd (upd (upd (upd (upd (upd (upd f (9 * r + 0) a0) (9 * r + 1) a1) (9 * r + 2) a2) (9 * r + 3) a3) (9 * r + 4) a4) (9 * r + 5) a5) (9 * r + 6) a6) (9 * r + 7) a7) (9 * r + 8) a8) from put_at (c := 8) (cols := 9) (by omega) (by decide) (by omega) (by omega) (by decide) (by omega), bn1S]
  rfl
theorem mark_at {nB : Nat} {f m : Nat → Int32} {E6 : Int32} {nm : Nat → Int32} (hBox : RBox nB f m) (h24 : nB ≤ 24) (e6 : E6 = nI nB) (n1 : nm 1 = nI nB) (v : Int32) : (fX6_boxOfMark v E6 f = some (-3) ∧ fX7_boxOf v nm m = some (-1)) ∨ ∃ b, b < nB ∧ f (9 * b) = v ∧ fX6_boxOfMark v E6 f = some (nI b) ∧ fX7_boxOf v nm m = some (nI b) := by
  have main := pair_loop (σ := Unit) (σ' := Unit) (fun n i _ => fX6_boxOfMark_2 v E6 f n i) (fun n i _ => fX7_boxOf_2 v nm m n i) nB (fun _ _ _ => True) (fun r r' => (r = -3 ∧ r' = -1) ∨ ∃ b, b < nB ∧ f (9 * b) = v ∧ r = nI b ∧ r' = nI b) ?_ ?_ nB 0 FU FU () () (by omega) trivial (by rw [FU_eq]; omega) (by rw [FU_eq]; omega)
  · obtain ⟨r, r', h1, h2, h3⟩ := main
    rcases h3 with ⟨rfl, rfl⟩ | ⟨w, hw, hv, rfl, rfl⟩
    · exact Or.inl ⟨h1, h2⟩
    · exact Or.inr ⟨w, hw, hv, h1, h2⟩
  · intro n n' a a' hr
    refine ⟨-3, -1, ?_, ?_, Or.inl ⟨rfl, rfl⟩⟩
    · show fX6_boxOfMark_2 _ _ _ (n + 1) (nI nB) = _
      rw [fX6_boxOfMark_2, sz_at, bn1S, e6, if_pos (nI_le (Nat.le_refl _) (by omega))]
    · show fX7_boxOf_2 _ _ _ (n' + 1) (nI nB) = _
      rw [fX7_boxOf_2, gdt (show ix (1 : Int32) 10 = true by decide), show (1 : Int32).toNatClampNeg = 1 from rfl, n1, if_pos (nI_le (Nat.le_refl _) (by omega))]
  · intro n n' i a a' hi hr
    obtain ⟨mk, kd, ln, cm, ft, hh, x0, -⟩ := hBox i hi
    have q0 : fX4_cell (nI i) 0 9 E6 216 f = some (nI mk) := by rw [e6, show fX4_cell (nI i) 0 9 (nI nB) 216 f = some (f (9 * i + 0)) from cell_at (c := 0) (cols := 9) hi (by decide) (by omega) (by omega) (by decide) (by decide), Nat.add_zero, x0.1]
    have g0 : fX7_get (nI i) 0 m = some (nI mk) := by rw [show fX7_get (nI i) 0 m = some (m (9 * i + 0)) from get_at (k := 0) (by omega), Nat.add_zero, x0.2]
    have eE : fX6_boxOfMark_2 v E6 f (n + 1) (nI i) = if nI mk = v then some (nI i) else fX6_boxOfMark_2 v E6 f n (nI (i + 1)) := by
      rw [fX6_boxOfMark_2, sz_at, bn1S, e6, if_neg (nI_ge hi (by omega)), ← e6, q0, bn1S, nI_1]
    have eM : fX7_boxOf_2 v nm m (n' + 1) (nI i) = if nI mk = v then some (nI i) else fX7_boxOf_2 v nm m n' (nI (i + 1)) := by
      rw [fX7_boxOf_2, gdt (show ix (1 : Int32) 10 = true by decide), show (1 : Int32).toNatClampNeg = 1 from rfl, n1, if_neg (nI_ge hi (by omega)), g0, bn1S, nI_1]
    by_cases c : nI mk = v
    · rw [if_pos c] at eE eM
      exact Or.inl ⟨nI i, nI i, eE, eM, Or.inr ⟨i, hi, by rw [x0.1, c], rfl, rfl⟩⟩
    · rw [if_neg c] at eE eM
      exact Or.inr ⟨(), (), eE, eM, trivial⟩
theorem RUse_mono {nU nB nB' : Nat} {f m : Nat → Int32} (h : RUse nU nB f m) (hb : nB ≤ nB') : RUse nU nB' f m := by
  intro u hu
  obtain ⟨bx, ln, fr, to, kn, hh, x⟩ := h u hu
  exact ⟨bx, ln, fr, to, kn, by omega, x⟩
theorem tLease1 (v : Int32) : (v = -1 ∧ fX7_in v (-1) 2 = some 1) ∨ (¬ v = -1 ∧ fX6_isLease v = some 0 ∧ fX7_in v (-1) 2 = some 0) ∨ ∃ l : Nat, l ≤ 2 ∧ v = nI l ∧ fX6_isLease v = some 1 ∧ fX7_in v (-1) 2 = some 1 := by
  by_cases c : v = -1
  · subst c
    exact Or.inl ⟨rfl, by decide⟩
  · right
    rcases rng v (hi := 2) 2 rfl (by decide) with h | ⟨n, hn, rfl⟩
    · left
      refine ⟨c, ?_, ?_⟩
      · rcases tLease v with ⟨a, -⟩ | ⟨n, hn, rfl, -⟩
        · exact a
        · exact absurd h (rngN hn (by decide))
      · rw [wi7, if_pos]
        rcases h with h | h
        · left
          rw [Int32.lt_iff_toInt_lt] at h ⊢
          have : v.toInt ≠ (-1 : Int32).toInt := fun z => c (Int32.toInt_inj.1 z)
          have e : (-1 : Int32).toInt = -1 := by decide
          have e0 : (0 : Int32).toInt = 0 := by decide
          omega
        · exact Or.inr h
    · right
      refine ⟨n, hn, rfl, ?_, ?_⟩
      · rcases tLease (nI n) with ⟨a, b⟩ | ⟨n', hn', e, a, -⟩
        · rw [wi7, if_neg (show ¬ (nI n < 0 ∨ 2 < nI n) from rngN hn (by decide))] at b
          exact absurd b (by decide)
        · exact a
      · rw [wi7, if_neg]
        rintro (z | z)
        · exact nlt0 n (by omega) (Int32.lt_trans z (by decide))
        · exact rngN hn (by decide) (Or.inr z)
theorem op_box : Op_box Inv := by
  intro E F M N v1 v2 v3 v4 h
  obtain ⟨⟨td, lk, rt, fr, nB, nW, nR, nO, nA, nU, hA⟩, hK, hT, hP⟩ := id h
  obtain ⟨⟨hd, hn, hb⟩, hBox, hWo, hWe, hRo, hOf, hWa, hLv, hLs, hUs⟩ := id hA
  have e2 : E 2 = nI td := hd.1
  have e6 : E 6 = nI nB := hd.2.2.2.2.1
  have e13 : E 13 = nI 3 := hd.2.2.2.2.2.2.2.2.2.2.2.1
  have n0 : N 0 0 = nI td := hn.1
  have n1 : N 0 1 = nI nB := hn.2.1
  have no : ∀ r : Int32, fX6_box v1 v2 v3 v4 (E 2) (E 6) (F 0) (E 13) (F 7) = some (r, E 6, F 0) → fX7_box v1 v2 v3 v4 (N 0) (N 1) (N 7) = some (r, N 0, N 1) → ∃ (r z0 : Int32) (z1 z2 z3 : Nat → Int32), fX6_box v1 v2 v3 v4 (E 2) (E 6) (F 0) (E 13) (F 7) = some (r, z0, z1) ∧ fX7_box v1 v2 v3 v4 (N 0) (N 1) (N 7) = some (r, z2, z3) ∧ Inv (va_up E 6 z0) (va_up F 0 z1) M (va_up (va_up N 0 z2) 1 z3) := by
    intro r P1 P2
    refine ⟨r, E 6, F 0, N 0, N 1, P1, P2, ?_⟩
    rw [up_self, up_self, up_self, up_self]; exact h
  rcases tMark v1 with ⟨a1, a2⟩ | ⟨mk, hmk, rfl, a1, a2⟩
  · exact no (-1) (by simp [fX6_box, a1, bn1S]) (by simp [fX7_box, a2, bn1S])
  rcases tKind v2 with ⟨b1, b2⟩ | ⟨kd, hkd, rfl, b1, b2⟩
  · exact no (-1) (by simp [fX6_box, a1, b1, bn1S]) (by simp [fX7_box, a2, b2, bn1S])
  rcases tLine v3 with ⟨c1, c2⟩ | ⟨ln, hln, rfl, c1, c2⟩
  · exact no (-1) (by simp [fX6_box, a1, b1, c1, bn1S]) (by simp [fX7_box, a2, b2, c2, bn1S])
  have E1 : fX6_box (nI mk) (nI kd) (nI ln) v4 (E 2) (E 6) (F 0) (E 13) (F 7) = (if v4 = -1 then (fX6_box_37 (nI mk) (nI kd) (nI ln) v4 (E 2) (E 6) (F 0) (E 13) (F 7)) else (bn1 (fX6_isLease v4) fun r117 => if r117 = (0 : Int32) then (some ((-1 : Int32), E 6, F 0)) else (fX6_box_37 (nI mk) (nI kd) (nI ln) v4 (E 2) (E 6) (F 0) (E 13) (F 7)))) := by
    rw [fX6_box, a1, bn1S, if_neg (by decide), b1, bn1S, if_neg (by decide), c1, bn1S, if_neg (by decide)]
  -- the two sides after the tests of the lease
  have fu := full_at (most := 24) (rows := nB) (by omega) (by decide)
  have G6 : ∀ x : Int32, nB < 24 → fX6_box_62 (nI mk) (nI kd) (nI ln) x (E 2) (E 6) (F 0) = some (nI nB, nI (nB + 1), app9 (F 0) nB (nI mk) (nI kd) (nI ln) (if x < 0 then -3 else x) (nI td) 0 (-3) (-3) (-3)) := by
    intro x hx
    have gr := grow_at (most := 24) hx (by decide)
    rw [fX6_box_62, e6, show fX4_isFull 24 (nI nB) = _ from fu, if_pos hx, bn1S, if_pos rfl, show fX4_grow 24 (nI nB) = _ from gr, bn2S, e2]
    simp only [fX6_box_154]
    by_cases c : x < 0
    · simp only [if_pos c]
      rw [put9 (by omega) (by decide)]
    · simp only [if_neg c]
      rw [put9 (by omega) (by decide)]
  have G7 : ∀ x : Int32, nB < 24 → fX7_box_71 (nI mk) (nI kd) (nI ln) x (N 0) (N 1) = some (nI nB, upd (N 0) 1 (nI (nB + 1)), app9 (N 1) nB (nI mk) (nI kd) (nI ln) x (nI td) 0 (-1) (-1) (-1)) := by
    intro x hx
    rw [fX7_box_71]
    simp (disch := omega) only [fa_lit, pk_mul, nI_add, ixN, cl, gdT, n1, n0]
    rw [if_neg (nI_neq (by omega) (by omega) (by decide))]
    simp only [upd_same, show nI (nB + 1) - nI 1 = nI nB from nI_pred nB]
    rfl
  have H6 : ∀ x : Int32, ¬ nB < 24 → fX6_box_62 (nI mk) (nI kd) (nI ln) x (E 2) (E 6) (F 0) = some (-2, E 6, F 0) := by
    intro x hx
    rw [fX6_box_62, e6, show fX4_isFull 24 (nI nB) = _ from fu, if_neg hx, bn1S, if_neg (by decide)]
  have H7 : ∀ x : Int32, ¬ nB < 24 → fX7_box_71 (nI mk) (nI kd) (nI ln) x (N 0) (N 1) = some (-2, N 0, N 1) := by
    intro x hx
    rw [fX7_box_71, gdt (show ix (1 : Int32) 10 = true by decide), show (1 : Int32).toNatClampNeg = 1 from rfl, n1, if_pos (show nI nB = 24 by rw [show nB = 24 by omega]; rfl)]
  have fin : ∀ x : Int32, ((if x < 0 then -3 else x) = -3 ∧ x = -1) ∨ (∃ ls : Nat, ls ≤ 2 ∧ (if x < 0 then -3 else x) = nI ls ∧ x = nI ls) → nB < 24 → Inv (va_up E 6 (nI (nB + 1))) (va_up F 0 (app9 (F 0) nB (nI mk) (nI kd) (nI ln) (if x < 0 then -3 else x) (nI td) 0 (-3) (-3) (-3))) M (va_up (va_up N 0 (upd (N 0) 1 (nI (nB + 1)))) 1 (app9 (N 1) nB (nI mk) (nI kd) (nI ln) x (nI td) 0 (-1) (-1) (-1))) := by
    intro x hx hB
    refine Inv_desk h ⟨td, lk, rt, fr, nB + 1, nW, nR, nO, nA, nU, ⟨by simp [va_up, hd], by simp [va_up, upd, hn], by omega⟩, ?_, by simpa [va_up] using hWo, by simpa [va_up] using hWe, by simpa [va_up] using hRo, by simpa [va_up] using hOf, by simpa [va_up] using hWa, by simpa [va_up] using hLv, by simpa [va_up] using hLs, by simpa [va_up] using RUse_mono hUs (Nat.le_succ nB)⟩ rfl (fun i hi => up_ge (by decide) hi) (fun j hj => up_ge (b := 9) (by decide) hj) rfl rfl rfl rfl (RP_same h.2.2.2 rfl rfl rfl rfl rfl rfl rfl)
    show RBox (nB + 1) (app9 (F 0) nB (nI mk) (nI kd) (nI ln) (if x < 0 then -3 else x) (nI td) 0 (-3) (-3) (-3)) (app9 (N 1) nB (nI mk) (nI kd) (nI ln) x (nI td) 0 (-1) (-1) (-1))
    intro c hc
    rcases Nat.lt_or_ge c nB with q | q
    · obtain ⟨mk', kd', ln', cm', ft', hh⟩ := hBox c q
      refine ⟨mk', kd', ln', cm', ft', ?_⟩
      have k : ∀ k, k < 9 → ∀ (g : Nat → Int32) (a0 a1 a2 a3 a4 a5 a6 a7 a8 : Int32), app9 g nB a0 a1 a2 a3 a4 a5 a6 a7 a8 (9 * c + k) = g (9 * c + k) := fun k hk g _ _ _ _ _ _ _ _ _ => app9_old (by omega)
      have k0 : ∀ (g : Nat → Int32) (a0 a1 a2 a3 a4 a5 a6 a7 a8 : Int32), app9 g nB a0 a1 a2 a3 a4 a5 a6 a7 a8 (9 * c) = g (9 * c) := fun g _ _ _ _ _ _ _ _ _ => app9_old (by omega)
      simp only [k0, k 1 (by decide), k 2 (by decide), k 3 (by decide), k 4 (by decide), k 5 (by decide), k 6 (by decide), k 7 (by decide), k 8 (by decide)]
      exact hh
    · obtain rfl : c = nB := by omega
      refine ⟨mk, kd, ln, td, 0, by omega, ⟨app9_0, app9_0⟩, ⟨app9_1, app9_1⟩, ⟨app9_2, app9_2⟩, ?_, ⟨app9_4, app9_4⟩, ⟨app9_5, app9_5⟩, Or.inl ⟨app9_6, app9_6⟩, fun z => absurd z (by decide)⟩
      rw [app9_3, app9_3]
      exact hx
  have D6 : ∀ x : Int32, fX6_box_37 (nI mk) (nI kd) (nI ln) x (E 2) (E 6) (F 0) (E 13) (F 7) = (bn1 (fX6_boxOfMark (nI mk) (E 6) (F 0)) fun r86 => if (0 : Int32) ≤ r86 then (some ((-4 : Int32), E 6, F 0)) else (if x < (0 : Int32) then (fX6_box_62 (nI mk) (nI kd) (nI ln) x (E 2) (E 6) (F 0)) else (bn1 (fX6_wasRead x (E 13) (F 7)) fun r94 => if r94 = (0 : Int32) then (some ((-4 : Int32), E 6, F 0)) else (fX6_box_62 (nI mk) (nI kd) (nI ln) x (E 2) (E 6) (F 0))))) := fun x => rfl
  rcases tLease1 v4 with ⟨rfl, d2⟩ | ⟨hne, d1, d2⟩ | ⟨l, hl, rfl, d1, d2⟩
  · have E2 : fX7_box (nI mk) (nI kd) (nI ln) (-1) (N 0) (N 1) (N 7) = (bn1 (fX7_boxOf (nI mk) (N 0) (N 1)) fun r121 => if (0 : Int32) ≤ r121 then (some ((-4 : Int32), N 0, N 1)) else (fX7_box_71 (nI mk) (nI kd) (nI ln) (-1) (N 0) (N 1))) := by
      rw [fX7_box, a2, bn1S, if_neg (by decide), b2, bn1S, if_neg (by decide), c2, bn1S, if_neg (by decide), d2, bn1S, if_neg (by decide)]
      rfl
    rw [if_pos rfl, D6] at E1
    rcases mark_at hBox (by omega) e6 n1 (nI mk) with ⟨m1, m2⟩ | ⟨w, hw, -, m1, m2⟩
    · rw [m1, bn1S, if_neg (by decide), if_pos (by decide)] at E1
      rw [m2, bn1S, if_neg (by decide)] at E2
      by_cases hB : nB < 24
      · exact ⟨_, _, _, _, _, by rw [E1, G6 _ hB], by rw [E2, G7 _ hB], fin (-1) (Or.inl ⟨rfl, rfl⟩) hB⟩
      · exact no (-2) (by rw [E1, H6 _ hB]) (by rw [E2, H7 _ hB])
    · rw [m1, bn1S, if_pos (ge0N w (by omega))] at E1
      rw [m2, bn1S, if_pos (ge0N w (by omega))] at E2
      exact no (-4) E1 E2
  · refine no (-1) ?_ ?_
    · rw [E1, if_neg hne, d1, bn1S, if_pos rfl]
    · rw [fX7_box, a2, bn1S, if_neg (by decide), b2, bn1S, if_neg (by decide), c2, bn1S, if_neg (by decide), d2, bn1S, if_pos rfl]
  · have hne : ¬ nI l = -1 := fun z => nlt0 l (by omega) (by rw [z]; decide)
    obtain ⟨-, wr, hwr, q1, q2⟩ := hLs l (by omega)
    have ew : fX6_wasRead (nI l) (E 13) (F 7) = some (nI wr) := by
      unfold fX6_wasRead
      rw [e13, show fX4_cell (nI l) 16 17 (nI 3) 51 (F 7) = some (F 7 (17 * l + 16)) from cell_at (c := 16) (cols := 17) (by omega) (by decide) (by omega) (by decide) (by decide) (by decide), bn1S, q1]
      rcases (show wr = 0 ∨ wr = 1 by omega) with rfl | rfl <;> rfl
    have E2 : fX7_box (nI mk) (nI kd) (nI ln) (nI l) (N 0) (N 1) (N 7) = (bn1 (fX7_boxOf (nI mk) (N 0) (N 1)) fun r121 => if (0 : Int32) ≤ r121 then (some ((-4 : Int32), N 0, N 1)) else (if nI wr = 0 then some ((-4 : Int32), N 0, N 1) else fX7_box_71 (nI mk) (nI kd) (nI ln) (nI l) (N 0) (N 1))) := by
      rw [fX7_box, a2, bn1S, if_neg (by decide), b2, bn1S, if_neg (by decide), c2, bn1S, if_neg (by decide), d2, bn1S, if_neg (by decide), if_neg (nlt0 l (by omega)), show (17 : Int32) * nI l + 16 = nI (17 * l + 16) from ax 17 l 16, ixN (by omega) (by decide), gdT, cl _ (by omega), q2]
    rw [if_neg hne, d1, bn1S, if_neg (by decide), D6, if_neg (nlt0 l (by omega)), ew, bn1S] at E1
    rcases mark_at hBox (by omega) e6 n1 (nI mk) with ⟨m1, m2⟩ | ⟨w, hw, -, m1, m2⟩
    · rw [m1, bn1S, if_neg (by decide)] at E1
      rw [m2, bn1S, if_neg (by decide)] at E2
      by_cases cw : nI wr = 0
      · rw [if_pos cw] at E1 E2
        exact no (-4) E1 E2
      · rw [if_neg cw] at E1 E2
        by_cases hB : nB < 24
        · exact ⟨_, _, _, _, _, by rw [E1, G6 _ hB], by rw [E2, G7 _ hB], fin (nI l) (Or.inr ⟨l, hl, if_neg (nlt0 l (by omega)), rfl⟩) hB⟩
        · exact no (-2) (by rw [E1, H6 _ hB]) (by rw [E2, H7 _ hB])
    · rw [m1, bn1S, if_pos (ge0N w (by omega))] at E1
      rw [m2, bn1S, if_pos (ge0N w (by omega))] at E2
      exact no (-4) E1 E2
