/-! FIND -/
/-- two loops side by side, with what fuel is left -/
theorem pair_loopF {σ σ' R R' : Type} (g : Nat → Int32 → σ → Option R) (g' : Nat → Int32 → σ' → Option R') (n : Nat) (Rel : Nat → σ → σ' → Prop) (Post : R → R' → Prop)
    (hx : ∀ m m' a a', Rel n a a' → ∃ r r', g (m + 1) (nI n) a = some r ∧ g' (m' + 1) (nI n) a' = some r' ∧ Post r r')
    (hs : ∀ m m' i a a', i < n → n ≤ i + m → n ≤ i + m' → Rel i a a' → (∃ r r', g (m + 1) (nI i) a = some r ∧ g' (m' + 1) (nI i) a' = some r' ∧ Post r r') ∨ ∃ b b', g (m + 1) (nI i) a = g m (nI (i + 1)) b ∧ g' (m' + 1) (nI i) a' = g' m' (nI (i + 1)) b' ∧ Rel (i + 1) b b') :
    ∀ (k i m m' : Nat) (a : σ) (a' : σ'), i + k = n → Rel i a a' → k < m → k < m' → ∃ r r', g m (nI i) a = some r ∧ g' m' (nI i) a' = some r' ∧ Post r r' := by
  intro k
  induction k with
  | zero =>
    intro i m m' a a' h1 h2 h3 h4
    obtain ⟨m, rfl⟩ : ∃ x, m = x + 1 := ⟨m - 1, by omega⟩
    obtain ⟨m', rfl⟩ : ∃ x, m' = x + 1 := ⟨m' - 1, by omega⟩
    obtain rfl : i = n := by omega
    exact hx m m' a a' h2
  | succ k ih =>
    intro i m m' a a' h1 h2 h3 h4
    obtain ⟨m, rfl⟩ : ∃ x, m = x + 1 := ⟨m - 1, by omega⟩
    obtain ⟨m', rfl⟩ : ∃ x, m' = x + 1 := ⟨m' - 1, by omega⟩
    rcases hs m m' i a a' (by omega) (by omega) (by omega) h2 with h | ⟨b, b', q1, q2, q3⟩
    · exact h
    · rw [q1, q2]
      exact ih (i + 1) m m' b b' (by omega) q3 (by omega) (by omega)
/-- the check digit -/
def chk (k : Nat) : Nat := (k / 1000 + 2 * (k / 100 % 10) + 4 * (k / 10 % 10) + 8 * (k % 10)) % 11 % 10
theorem chk_at {k : Nat} (hk : k ≤ 9999) : fX6_checkDigit (nI k) = some (nI (chk k)) := by
  unfold fX6_checkDigit
  have d1 : nI k / 1000 = nI (k / 1000) := pk_div (d := 1000) (by omega) (by decide) (by decide)
  have d2 : nI k / 100 = nI (k / 100) := pk_div (d := 100) (by omega) (by decide) (by decide)
  have d3 : nI k / 10 = nI (k / 10) := pk_div (d := 10) (by omega) (by decide) (by decide)
  have r2 : irem (nI (k / 100)) 10 = nI (k / 100 % 10) := remN (d := 10) (by omega) (by decide) (by decide)
  have r3 : irem (nI (k / 10)) 10 = nI (k / 10 % 10) := remN (d := 10) (by omega) (by decide) (by decide)
  have r4 : irem (nI k) 10 = nI (k % 10) := remN (d := 10) (by omega) (by decide) (by decide)
  have m2 : (2 : Int32) * nI (k / 100 % 10) = nI (2 * (k / 100 % 10)) := pk_mul 2 _
  have m3 : (4 : Int32) * nI (k / 10 % 10) = nI (4 * (k / 10 % 10)) := pk_mul 4 _
  have m4 : (8 : Int32) * nI (k % 10) = nI (8 * (k % 10)) := pk_mul 8 _
  rw [d1, d2, d3, r2, r3, r4, m2, m3, m4, nI_add, nI_add, nI_add, show irem (nI (k / 1000 + 2 * (k / 100 % 10) + 4 * (k / 10 % 10) + 8 * (k % 10))) 11 = _ from remN (d := 11) (by omega) (by decide) (by decide), show irem (nI ((k / 1000 + 2 * (k / 100 % 10) + 4 * (k / 10 % 10) + 8 * (k % 10)) % 11)) 10 = _ from remN (d := 10) (by omega) (by decide) (by decide)]
  rfl
theorem chk_lt (k : Nat) : chk k < 10 := Nat.mod_lt _ (by decide)
def dg (a b p : Int32) : Int32 := if irem (a / p) 10 = irem (b / p) 10 then 0 else 1
def unl (a b : Int32) : Int32 := 0 + dg a b 1 + dg a b 10 + dg a b 100 + dg a b 1000 + dg a b 10000
theorem unl_step (a b : Int32) (n : Nat) (c p : Int32) (hp : nz p = true) (h : ¬ 10000 < p) : fX6_unlikeDigits_4 a b (n + 1) c p = fX6_unlikeDigits_4 a b n (c + dg a b p) (p * 10) := by
  rw [fX6_unlikeDigits_4, if_neg h, gdt hp, gdt hp]
  simp only [fX6_unlikeDigits_29]
  unfold dg
  by_cases q : irem (a / p) 10 = irem (b / p) 10
  · rw [if_pos q, if_pos q, Int32.add_zero]
  · rw [if_neg q, if_neg q]
theorem unl_at (a b : Int32) : fX6_unlikeDigits a b = some (unl a b) := by
  unfold fX6_unlikeDigits
  rw [show FU = 999994 + 1 + 1 + 1 + 1 + 1 + 1 from rfl, unl_step _ _ _ _ _ (by decide) (by decide), unl_step _ _ _ _ _ (by decide) (by decide), unl_step _ _ _ _ _ (by decide) (by decide), unl_step _ _ _ _ _ (by decide) (by decide), unl_step _ _ _ _ _ (by decide) (by decide), fX6_unlikeDigits_4, if_pos (by decide)]
  rfl
theorem unl7_step (a b : Int32) (K : Int32 → Option Int32) (n : Nat) (c p j : Int32) (hp : nz p = true) (h : ¬ 5 ≤ j) : fX7_find_97 b a K (n + 1) c p j = fX7_find_97 b a K n (c + dg a b p) (p * 10) (j + 1) := by
  rw [fX7_find_97, if_neg h, gdt hp, gdt hp]
  simp only [fX7_find_128]
  unfold dg
  by_cases q : irem (a / p) 10 = irem (b / p) 10
  · rw [if_pos q, if_pos q]
  · rw [if_neg q, if_neg q]
theorem unl7_at (a b : Int32) (K : Int32 → Option Int32) : fX7_find_97 b a K FU 0 1 0 = K (unl a b) := by
  rw [show FU = 999994 + 1 + 1 + 1 + 1 + 1 + 1 from rfl, unl7_step _ _ _ _ _ _ _ (by decide) (by decide), unl7_step _ _ _ _ _ _ _ (by decide) (by decide), unl7_step _ _ _ _ _ _ _ (by decide) (by decide), unl7_step _ _ _ _ _ _ _ (by decide) (by decide), unl7_step _ _ _ _ _ _ _ (by decide) (by decide), fX7_find_97, if_pos (by decide)]
  rfl
theorem five_at {nB b : Nat} {f m : Nat → Int32} {E6 : Int32} (hBox : RBox nB f m) (hb : b < nB) (h24 : nB ≤ 24) (e6 : E6 = nI nB) : ∃ mk : Nat, mk ≤ 9999 ∧ f (9 * b) = nI mk ∧ fX6_fiveDigits (nI b) E6 f = some (nI (10 * mk + chk mk)) ∧ fX7_get (nI b) 0 m = some (nI mk) := by
  obtain ⟨mk, kd, ln, cm, ft, hh, x0, -⟩ := hBox b hb
  refine ⟨mk, hh.1, x0.1, ?_, ?_⟩
  · rw [fX6_fiveDigits, e6, show fX4_cell (nI b) 0 9 (nI nB) 216 f = some (f (9 * b + 0)) from cell_at (c := 0) (cols := 9) hb (by decide) (by omega) (by omega) (by decide) (by decide), Nat.add_zero, x0.1, bn1S, chk_at hh.1, bn1S, show nI mk * 10 = nI (mk * 10) from pk_mul mk 10, nI_add, Nat.mul_comm]
  · rw [show fX7_get (nI b) 0 m = some (m (9 * b + 0)) from get_at (k := 0) (by omega), Nat.add_zero, x0.2]
theorem find7_step {nB b mk : Nat} {m : Nat → Int32} {nm : Nat → Int32} (n1 : nm 1 = nI nB) (hb : b < nB) (h24 : nB ≤ 24) (hmk : mk ≤ 9999) (g : fX7_get (nI b) 0 m = some (nI mk)) (v : Int32) (K : Int32 → Int32 → Option Int32) (n : Nat) (a c : Int32) : fX7_find_54 v nm m K (n + 1) a c (nI b) = if unl (nI (10 * mk + chk mk)) v = 1 then fX7_find_54 v nm m K n (nI b) (c + 1) (nI (b + 1)) else fX7_find_54 v nm m K n a c (nI (b + 1)) := by
  have ck : fX7_checkOf (nI mk) = some (nI (chk mk)) := chk_at hmk
  rw [fX7_find_54, gdt (show ix (1 : Int32) 10 = true by decide), show (1 : Int32).toNatClampNeg = 1 from rfl, n1, if_neg (nI_ge hb (by omega)), g, bn1S, bn1S, ck, bn1S, show (10 : Int32) * nI mk = nI (10 * mk) from pk_mul 10 mk, nI_add, unl7_at]
  simp only [fX7_find_144, fX7_find_156, nI_1]
theorem find7_end {nB : Nat} {m : Nat → Int32} {nm : Nat → Int32} (n1 : nm 1 = nI nB) (h24 : nB ≤ 24) (v : Int32) (K : Int32 → Int32 → Option Int32) (n : Nat) (a c : Int32) : fX7_find_54 v nm m K (n + 1) a c (nI nB) = K a c := by
  rw [fX7_find_54, gdt (show ix (1 : Int32) 10 = true by decide), show (1 : Int32).toNatClampNeg = 1 from rfl, n1, if_pos (nI_le (Nat.le_refl _) (by omega))]
theorem find7_two {nB : Nat} {f m : Nat → Int32} {nm : Nat → Int32} (hBox : RBox nB f m) (n1 : nm 1 = nI nB) (h24 : nB ≤ 24) (v : Int32) : ∀ (k i n : Nat) (a : Int32) (c : Nat), i + k = nB → k < n → 2 ≤ c → c + k ≤ 100 → fX7_find_54 v nm m (fun a c => fX7_find_162 a c) n a (nI c) (nI i) = some (-3) := by
  intro k
  induction k with
  | zero =>
    intro i n a c h1 h2 h3 h4
    obtain ⟨n, rfl⟩ : ∃ x, n = x + 1 := ⟨n - 1, by omega⟩
    obtain rfl : i = nB := by omega
    rw [find7_end n1 h24]
    show (if nI c = 1 then some a else some (-3)) = some (-3)
    rw [if_neg (show ¬ nI c = 1 from nI_neq (b := 1) (by omega) (by omega) (by decide))]
  | succ k ih =>
    intro i n a c h1 h2 h3 h4
    obtain ⟨n, rfl⟩ : ∃ x, n = x + 1 := ⟨n - 1, by omega⟩
    obtain ⟨mk, hmk, -, -, g⟩ := five_at hBox (show i < nB by omega) h24 rfl
    rw [find7_step n1 (by omega) h24 hmk g, nI_1, ih (i + 1) n (nI i) (c + 1) (by omega) (by omega) (by omega) (by omega), ih (i + 1) n a c (by omega) (by omega) (by omega) (by omega)]
    split <;> rfl
theorem near_at {nB : Nat} {f m : Nat → Int32} {E6 : Int32} {nm : Nat → Int32} (hBox : RBox nB f m) (h24 : nB ≤ 24) (e6 : E6 = nI nB) (n1 : nm 1 = nI nB) (v : Int32) : ∃ r, fX6_find_36 v E6 f = some r ∧ fX7_find_46 v nm m = some r := by
  have main := pair_loopF (σ := Int32) (σ' := Int32 × Int32) (fun n i a => fX6_onlyBoxNear_5 v E6 f n a i) (fun n i a => fX7_find_54 v nm m (fun a c => fX7_find_162 a c) n a.1 a.2 i) nB (fun _ a a' => (a = -3 ∧ a' = (-3, 0)) ∨ ∃ w, w < nB ∧ a = nI w ∧ a' = (nI w, 1)) (fun r r' => r = r') ?_ ?_ nB 0 FU FU (-3) (-3, 0) (by omega) (Or.inl ⟨rfl, rfl⟩) (by rw [FU_eq]; omega) (by rw [FU_eq]; omega)
  · obtain ⟨r, r', h1, h2, rfl⟩ := main
    have h1' : fX6_onlyBoxNear v E6 f = some r := h1
    exact ⟨r, by rw [fX6_find_36, h1', bn1S], h2⟩
  · intro n n' a a' hr
    have e1 : fX6_onlyBoxNear_5 v E6 f (n + 1) a (nI nB) = some a := by
      rw [fX6_onlyBoxNear_5, sz_at, bn1S, e6, if_pos (nI_le (Nat.le_refl _) (by omega))]
    refine ⟨a, a, e1, ?_, rfl⟩
    show fX7_find_54 v nm m _ (n' + 1) a'.1 a'.2 (nI nB) = some a
    rw [find7_end n1 h24]
    show (if a'.2 = 1 then some a'.1 else some (-3)) = some a
    rcases hr with ⟨rfl, rfl⟩ | ⟨w, hw, rfl, rfl⟩
    · rfl
    · rfl
  · intro n n' i a a' hi hm hm' hr
    obtain ⟨mk, hmk, -, q, g⟩ := five_at hBox hi h24 e6
    have eE : fX6_onlyBoxNear_5 v E6 f (n + 1) a (nI i) = if unl (nI (10 * mk + chk mk)) v = 1 then (if a < 0 then fX6_onlyBoxNear_5 v E6 f n (nI i) (nI (i + 1)) else some (-3)) else fX6_onlyBoxNear_5 v E6 f n a (nI (i + 1)) := by
      rw [fX6_onlyBoxNear_5, sz_at, bn1S, e6, if_neg (nI_ge hi (by omega)), ← e6, q, bn1S, unl_at, bn1S]
      simp only [fX6_onlyBoxNear_41, nI_1]
    by_cases c : unl (nI (10 * mk + chk mk)) v = 1
    · rcases hr with ⟨rfl, rfl⟩ | ⟨w, hw, rfl, rfl⟩
      · right
        refine ⟨nI i, (nI i, 1), ?_, ?_, Or.inr ⟨i, hi, rfl, rfl⟩⟩
        · rw [eE, if_pos c, if_pos (by decide)]
        · show fX7_find_54 v nm m _ (n' + 1) (-3) 0 (nI i) = _
          rw [find7_step n1 hi h24 hmk g, if_pos c]; rfl
      · left
        refine ⟨-3, -3, ?_, ?_, rfl⟩
        · rw [eE, if_pos c, if_neg (nlt0 w (by omega))]
        · show fX7_find_54 v nm m _ (n' + 1) (nI w) 1 (nI i) = _
          rw [find7_step n1 hi h24 hmk g, if_pos c, show (1 : Int32) + 1 = nI 2 from rfl]
          rcases Nat.lt_or_ge (nB - (i + 1)) n' with z | z
          · exact find7_two hBox n1 h24 v (nB - (i + 1)) (i + 1) n' (nI i) 2 (by omega) z (by omega) (by omega)
          · omega
    · right
      refine ⟨a, a', ?_, ?_, hr⟩
      · rw [eE, if_neg c]
      · show fX7_find_54 v nm m _ (n' + 1) a'.1 a'.2 (nI i) = _
        rw [find7_step n1 hi h24 hmk g, if_neg c]
theorem op_find : Op_find Inv := by
  intro E F M N v h
  obtain ⟨⟨td, lk, rt, fr, nB, nW, nR, nO, nA, nU, ⟨hd, hn, hb⟩, hBox, hWo, hR⟩, hK, hT, hP⟩ := id h
  have e6 : E 6 = nI nB := hd.2.2.2.2.1
  have n1 : N 0 1 = nI nB := hn.2.1
  rcases tW v (hi := 99999) 99999 rfl (by decide) with ⟨a1, a2⟩ | ⟨n, hnn, rfl, a1, a2⟩
  · exact ⟨-1, by simp [fX6_find, a1, bn1S], by simp [fX7_find, a2, bn1S], h⟩
  have d3 : nI n / 10 = nI (n / 10) := pk_div (d := 10) (by omega) (by decide) (by decide)
  have r4 : irem (nI n) 10 = nI (n % 10) := remN (d := 10) (by omega) (by decide) (by decide)
  have ck : fX7_checkOf (nI (n / 10)) = some (nI (chk (n / 10))) := chk_at (by omega)
  have hc := chk_lt (n / 10)
  obtain ⟨r, r1, r2⟩ := near_at hBox (by omega) e6 n1 (nI n)
  rcases mark_at hBox (by omega) e6 n1 (nI (n / 10)) with ⟨m1, m2⟩ | ⟨w, hw, mv, m1, m2⟩
  · refine ⟨r, ?_, ?_, h⟩
    · rw [fX6_find, a1, bn1S, if_neg (by decide), d3, m1, bn1S, if_pos (by decide), r1]
    · rw [fX7_find, a2, bn1S, if_neg (by decide), d3, ck, bn1S, m2, bn1S, r2, r4]
      split
      · rw [if_pos (by decide)]
      · rfl
  · obtain ⟨mk, hmk, mv', q, g⟩ := five_at hBox hw (by omega) e6
    have : mk = n / 10 := by
      rw [mv] at mv'
      exact ((nI_eq (by omega) (by omega)).1 mv').symm
    subst this
    by_cases c : chk (n / 10) = n % 10
    · refine ⟨nI w, ?_, ?_, h⟩
      · rw [fX6_find, a1, bn1S, if_neg (by decide), d3, m1, bn1S, if_neg (nlt0 w (by omega)), q, bn1S, if_pos (by congr 1; omega)]
      · rw [fX7_find, a2, bn1S, if_neg (by decide), d3, ck, bn1S, r4, if_pos (by rw [c]), m2, bn1S, if_neg (nlt0 w (by omega)), bn1S]
    · refine ⟨r, ?_, ?_, h⟩
      · rw [fX6_find, a1, bn1S, if_neg (by decide), d3, m1, bn1S, if_neg (nlt0 w (by omega)), q, bn1S, if_neg (nI_neq (by omega) (by omega) (by omega)), r1]
      · rw [fX7_find, a2, bn1S, if_neg (by decide), d3, ck, bn1S, r4, if_neg (nI_neq c (by omega) (by omega)), r2]
