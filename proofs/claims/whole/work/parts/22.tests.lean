/-! TESTS, both sides at once -/
theorem tW (v : Int32) {hi : Int32} (k : Nat) (hk : hi = nI k) (hb : k < 2 ^ 31) : (fX6_isWithin v 0 hi = some 0 ∧ fX7_in v 0 hi = some 0) ∨ ∃ n : Nat, n ≤ k ∧ v = nI n ∧ fX6_isWithin v 0 hi = some 1 ∧ fX7_in v 0 hi = some 1 := by
  rcases rng v k hk hb with c | ⟨n, hn, rfl⟩
  · exact Or.inl ⟨by rw [wi, if_pos c], by rw [wi7, if_pos c]⟩
  · have c : ¬ (nI n < 0 ∨ hi < nI n) := by rw [hk]; exact rngN hn hb
    exact Or.inr ⟨n, hn, rfl, by rw [wi, if_neg c], by rw [wi7, if_neg c]⟩
theorem zb0 : zb 0 = true := by decide
theorem zb1 : zb 1 = true := by decide
theorem tPlace (v : Int32) : (fX6_isPlace v = some 0 ∧ fX7_isPlace v = some 0) ∨ ∃ n : Nat, n ≤ 5 ∧ v = nI n ∧ fX6_isPlace v = some 1 ∧ fX7_isPlace v = some 1 := by
  unfold fX6_isPlace fX7_isPlace
  rcases tW v (hi := 5) 5 rfl (by decide) with ⟨a, b⟩ | ⟨n, hn, e, a, b⟩
  · exact Or.inl ⟨by rw [a, bn1S, gdt zb0], by rw [b, bn1S, gdt zb0]⟩
  · exact Or.inr ⟨n, hn, e, by rw [a, bn1S, gdt zb1], by rw [b, bn1S, gdt zb1]⟩
theorem tLine (v : Int32) : (fX6_isLine v = some 0 ∧ fX7_isLine v = some 0) ∨ ∃ n : Nat, n ≤ 3 ∧ v = nI n ∧ fX6_isLine v = some 1 ∧ fX7_isLine v = some 1 := by
  unfold fX6_isLine fX7_isLine
  rcases tW v (hi := 3) 3 rfl (by decide) with ⟨a, b⟩ | ⟨n, hn, e, a, b⟩
  · exact Or.inl ⟨by rw [a, bn1S, gdt zb0], by rw [b, bn1S, gdt zb0]⟩
  · exact Or.inr ⟨n, hn, e, by rw [a, bn1S, gdt zb1], by rw [b, bn1S, gdt zb1]⟩
theorem tDay (v : Int32) : (fX6_isDay v = some 0 ∧ fX7_isDay v = some 0) ∨ ∃ n : Nat, n ≤ 200 ∧ v = nI n ∧ fX6_isDay v = some 1 ∧ fX7_isDay v = some 1 := by
  unfold fX6_isDay fX7_isDay
  rcases tW v (hi := 200) 200 rfl (by decide) with ⟨a, b⟩ | ⟨n, hn, e, a, b⟩
  · exact Or.inl ⟨by rw [a, bn1S, gdt zb0], by rw [b, bn1S, gdt zb0]⟩
  · exact Or.inr ⟨n, hn, e, by rw [a, bn1S, gdt zb1], by rw [b, bn1S, gdt zb1]⟩
theorem tPast (v : Int32) {td : Nat} {E2 : Int32} {nm : Nat → Int32} (h1 : E2 = nI td) (h2 : nm 0 = nI td) (hb : td < 2 ^ 31) : (fX6_isPastDay v E2 = some 0 ∧ fX7_isPast v nm = some 0) ∨ ∃ n : Nat, n ≤ td ∧ v = nI n ∧ fX6_isPastDay v E2 = some 1 ∧ fX7_isPast v nm = some 1 := by
  unfold fX6_isPastDay fX7_isPast
  rw [gdt (show ix (0 : Int32) 10 = true by decide), clL0, h1, h2]
  rcases tW v (hi := nI td) td rfl hb with ⟨a, b⟩ | ⟨n, hn, e, a, b⟩
  · exact Or.inl ⟨by rw [a, bn1S, gdt zb0], by rw [b, bn1S, gdt zb0]⟩
  · exact Or.inr ⟨n, hn, e, by rw [a, bn1S, gdt zb1], by rw [b, bn1S, gdt zb1]⟩
/-- a test of the class alone against one of the reference's plain ones -/
theorem tKind (v : Int32) : (fX6_isKind v = some 0 ∧ fX7_in v 0 2 = some 0) ∨ ∃ n : Nat, n ≤ 2 ∧ v = nI n ∧ fX6_isKind v = some 1 ∧ fX7_in v 0 2 = some 1 := by
  unfold fX6_isKind
  rcases tW v (hi := 2) 2 rfl (by decide) with ⟨a, b⟩ | ⟨n, hn, e, a, b⟩
  · exact Or.inl ⟨by rw [a, bn1S, gdt zb0], b⟩
  · exact Or.inr ⟨n, hn, e, by rw [a, bn1S, gdt zb1], b⟩
theorem tLease (v : Int32) : (fX6_isLease v = some 0 ∧ fX7_in v 0 2 = some 0) ∨ ∃ n : Nat, n ≤ 2 ∧ v = nI n ∧ fX6_isLease v = some 1 ∧ fX7_in v 0 2 = some 1 := by
  unfold fX6_isLease
  rcases tW v (hi := 2) 2 rfl (by decide) with ⟨a, b⟩ | ⟨n, hn, e, a, b⟩
  · exact Or.inl ⟨by rw [a, bn1S, gdt zb0], b⟩
  · exact Or.inr ⟨n, hn, e, by rw [a, bn1S, gdt zb1], b⟩
theorem tMark (v : Int32) : (fX6_isMark v = some 0 ∧ fX7_in v 0 9999 = some 0) ∨ ∃ n : Nat, n ≤ 9999 ∧ v = nI n ∧ fX6_isMark v = some 1 ∧ fX7_in v 0 9999 = some 1 := by
  unfold fX6_isMark
  rcases tW v (hi := 9999) 9999 rfl (by decide) with ⟨a, b⟩ | ⟨n, hn, e, a, b⟩
  · exact Or.inl ⟨by rw [a, bn1S, gdt zb0], b⟩
  · exact Or.inr ⟨n, hn, e, by rw [a, bn1S, gdt zb1], b⟩
theorem tWeek (v : Int32) : (fX6_isWeek v = some 0 ∧ fX7_in v 0 4 = some 0) ∨ ∃ n : Nat, n ≤ 4 ∧ v = nI n ∧ fX6_isWeek v = some 1 ∧ fX7_in v 0 4 = some 1 := by
  unfold fX6_isWeek
  rcases tW v (hi := 4) 4 rfl (by decide) with ⟨a, b⟩ | ⟨n, hn, e, a, b⟩
  · exact Or.inl ⟨by rw [a, bn1S, gdt zb0], b⟩
  · exact Or.inr ⟨n, hn, e, by rw [a, bn1S, gdt zb1], b⟩
/-- a row of a table of n rows, against the reference's test up to n - 1 -/
theorem tRow (v : Int32) (n : Nat) (hb : n < 2 ^ 30) : (fX4_has v (nI n) = some 0 ∧ fX7_in v 0 (nI n - 1) = some 0) ∨ ∃ b : Nat, b < n ∧ v = nI b ∧ fX4_has v (nI n) = some 1 ∧ fX7_in v 0 (nI n - 1) = some 1 := by
  rw [has_at v (by omega), wi7]
  have key : nI n - 1 < v ↔ nI n ≤ v := by
    rw [fa_lt, fa_le, show (nI n - 1).toInt = (n : Int) - 1 from pk_sub_toInt (a := n) (b := 1) hb (by decide), nI_toInt (by omega)]
    omega
  simp only [key]
  by_cases c : v < 0 ∨ nI n ≤ v
  · exact Or.inl ⟨by rw [if_pos c], by rw [if_pos c]⟩
  · obtain ⟨j, hj, rfl⟩ := nI_of (x := v) (fun q => c (Or.inl q))
    refine Or.inr ⟨j, ?_, rfl, by rw [if_neg c], by rw [if_neg c]⟩
    rcases Nat.lt_or_ge j n with q | q
    · exact q
    · exact absurd (Or.inr (nI_le q hj)) c
theorem tBox (v : Int32) {nB : Nat} {E6 : Int32} {nm : Nat → Int32} (h1 : E6 = nI nB) (h2 : nm 1 = nI nB) (hb : nB ≤ 24) : (fX4_has v E6 = some 0 ∧ fX7_isBox v nm = some 0) ∨ ∃ b : Nat, b < nB ∧ v = nI b ∧ fX4_has v E6 = some 1 ∧ fX7_isBox v nm = some 1 := by
  unfold fX7_isBox
  rw [gdt (show ix (1 : Int32) 10 = true by decide), show (1 : Int32).toNatClampNeg = 1 from rfl, h1, h2]
  rcases tRow v nB (by omega) with ⟨a, b⟩ | ⟨n, hn, e, a, b⟩
  · exact Or.inl ⟨a, by rw [b, bn1S, gdt zb0]⟩
  · exact Or.inr ⟨n, hn, e, a, by rw [b, bn1S, gdt zb1]⟩
theorem get_at {b k : Nat} {f : Nat → Int32} (h : 9 * b + k < 216) : fX7_get (nI b) (nI k) f = some (f (9 * b + k)) := by
  unfold fX7_get
  rw [show (9 : Int32) * nI b + nI k = nI (9 * b + k) by rw [show (9 : Int32) = nI 9 from rfl, pk_mul, nI_add], ixN h (by decide), gdT, cl _ (by omega)]
/-- an access of the reference: an index k * v + j -/
theorem ax (k v j : Nat) : (nI k * nI v) + nI j = nI (k * v + j) := by rw [pk_mul, nI_add]
theorem ge0N (n : Nat) (h : n < 2 ^ 31) : (0 : Int32) ≤ nI n := nI_pos' h
theorem nge0 : ¬ (0 : Int32) ≤ -1 := by decide
theorem nge03 : ¬ (0 : Int32) ≤ -3 := by decide
theorem lt0 : (-1 : Int32) < 0 := by decide
theorem lt03 : (-3 : Int32) < 0 := by decide
theorem nlt0 (n : Nat) (h : n < 2 ^ 31) : ¬ nI n < (0 : Int32) := nI_pos h
