/-! MATCH: the best pairing -/
theorem loopK {σ R : Type} (g : Nat → Int32 → σ → Option R) (n : Nat) (J : Nat → σ → Prop) (K : σ → Option R)
    (hx : ∀ m s, J n s → g (m + 1) (nI n) s = K s)
    (hs : ∀ m i s, i < n → J i s → ∃ s', g (m + 1) (nI i) s = g m (nI (i + 1)) s' ∧ J (i + 1) s') :
    ∀ (k i m : Nat) (s : σ), i + k = n → J i s → k < m → ∃ s', J n s' ∧ g m (nI i) s = K s' := by
  intro k
  induction k with
  | zero =>
    intro i m s h1 h2 h3
    obtain ⟨m, rfl⟩ : ∃ x, m = x + 1 := ⟨m - 1, by omega⟩
    obtain rfl : i = n := by omega
    exact ⟨s, h2, hx m s h2⟩
  | succ k ih =>
    intro i m s h1 h2 h3
    obtain ⟨m, rfl⟩ : ∃ x, m = x + 1 := ⟨m - 1, by omega⟩
    obtain ⟨s', q1, q2⟩ := hs m i s (by omega) h2
    obtain ⟨s'', q3, q4⟩ := ih (i + 1) m s' (by omega) q2 (by omega)
    exact ⟨s'', q3, by rw [q1, q4]⟩
theorem addm1 (x : Int32) : x + (-1) = x - 1 := by
  rw [Int32.sub_eq_add_neg]
/-- a loop that counts down: j rounds are left -/
theorem loopD {σ R : Type} (g : Nat → Int32 → σ → Option R) (J : Nat → σ → Prop) (K : σ → Option R)
    (hx : ∀ m s, J 0 s → g (m + 1) (-1) s = K s) (n : Nat)
    (hs : ∀ m j s, j < n → J (j + 1) s → ∃ s', g (m + 1) (nI j) s = g m (nI j + (-1)) s' ∧ J j s') :
    ∀ (j m : Nat) (s : σ), j ≤ n → J j s → j < m → ∃ s', J 0 s' ∧ g m (nI j - 1) s = K s' := by
  intro j
  induction j with
  | zero =>
    intro m s h1 h2 h3
    obtain ⟨m, rfl⟩ : ∃ x, m = x + 1 := ⟨m - 1, by omega⟩
    exact ⟨s, h2, hx m s h2⟩
  | succ j ih =>
    intro m s h1 h2 h3
    obtain ⟨m, rfl⟩ : ∃ x, m = x + 1 := ⟨m - 1, by omega⟩
    obtain ⟨s', q1, q2⟩ := hs m j s (by omega) h2
    obtain ⟨s'', q3, q4⟩ := ih m s' (by omega) q2 (by omega)
    refine ⟨s'', q3, ?_⟩
    rw [show nI (j + 1) - 1 = nI j from nI_pred j, q1, addm1, q4]
theorem shl_at {w : Nat} (h : w ≤ 7) : ishl 1 (nI w) = nI (2 ^ w) := by
  rcases (show w = 0 ∨ w = 1 ∨ w = 2 ∨ w = 3 ∨ w = 4 ∨ w = 5 ∨ w = 6 ∨ w = 7 by omega) with rfl | rfl | rfl | rfl | rfl | rfl | rfl | rfl <;> decide
theorem shr_at {k w : Nat} (hk : k < 128) (h : w < 7) : ((ishr (nI k) (nI w)) &&& 1 = 1) ↔ ¬ k.testBit w = false := by
  have e : ishr (nI k) (nI w) = nI (k / 2 ^ w) := by
    unfold ishr
    refine pk_shrN (by omega) _ w ?_
    rcases (show w = 0 ∨ w = 1 ∨ w = 2 ∨ w = 3 ∨ w = 4 ∨ w = 5 ∨ w = 6 by omega) with rfl | rfl | rfl | rfl | rfl | rfl | rfl <;> decide
  rw [e, show nI (k / 2 ^ w) &&& 1 = nI (k / 2 ^ w % 2 ^ 1) from fa_mask (k / 2 ^ w) 1]
  have e2 : nI (k / 2 ^ w % 2 ^ 1) = 1 ↔ k / 2 ^ w % 2 ^ 1 = 1 := nI_eq (b := 1) (by omega) (by decide)
  rw [e2, Nat.testBit_eq_decide_div_mod_eq]
  simp
def mxF : Nat → (Nat → Nat) → Nat → Nat
  | 0, _, a => a
  | n + 1, f, a => max (mxF n f a) (f n)
def Bv (sc : Nat → Nat → Nat) (nO nA : Nat) : Nat → Nat → Nat
  | 0, _ => 0
  | j + 1, k => mxF nA (fun w => if k.testBit w = false ∧ ¬ sc (nO - (j + 1)) w = 0 then sc (nO - (j + 1)) w + Bv sc nO nA j (k ||| 2 ^ w) else 0) (Bv sc nO nA j k)
def Vv (sc : Nat → Nat → Nat) (nO nA o k : Nat) : Nat := Bv sc nO nA (nO - o) k
def cand (sc : Nat → Nat → Nat) (nO nA o k w : Nat) : Nat := if k.testBit w = false ∧ ¬ sc o w = 0 then sc o w + Vv sc nO nA (o + 1) (k ||| 2 ^ w) else 0
theorem Vv_top (sc : Nat → Nat → Nat) (nO nA k : Nat) : Vv sc nO nA nO k = 0 := by
  unfold Vv
  rw [Nat.sub_self]; rfl
theorem Vv_step (sc : Nat → Nat → Nat) {nO nA o k : Nat} (h : o < nO) : Vv sc nO nA o k = mxF nA (cand sc nO nA o k) (Vv sc nO nA (o + 1) k) := by
  unfold Vv cand
  rw [show nO - o = (nO - (o + 1)) + 1 by omega, Bv, show nO - (nO - (o + 1) + 1) = o by omega]
  rfl
theorem mxF_le {f : Nat → Nat} {B : Nat} : ∀ {n a : Nat}, a ≤ B → (∀ w, w < n → f w ≤ B) → mxF n f a ≤ B := by
  intro n
  induction n with
  | zero => intro a h1 h2; exact h1
  | succ n ih =>
    intro a h1 h2
    exact Nat.max_le.2 ⟨ih h1 (fun w hw => h2 w (by omega)), h2 n (by omega)⟩
theorem Vv_le (sc : Nat → Nat → Nat) (nO nA : Nat) (hsc : ∀ o w, sc o w ≤ 10000) : ∀ (d o k : Nat), nO - o = d → Vv sc nO nA o k ≤ 10000 * d := by
  intro d
  induction d with
  | zero =>
    intro o k h
    unfold Vv
    rw [h]
    exact Nat.le_refl 0
  | succ d ih =>
    intro o k h
    rw [Vv_step sc (by omega)]
    refine mxF_le (Nat.le_trans (ih (o + 1) k (by omega)) (by omega)) (fun w hw => ?_)
    unfold cand
    split
    · have := ih (o + 1) (k ||| 2 ^ w) (by omega)
      have := hsc o w
      omega
    · omega
theorem imax_at {a b : Nat} (ha : a < 2 ^ 31) (hb : b < 2 ^ 31) : imax (nI a) (nI b) = nI (max a b) := by
  unfold imax
  by_cases c : a < b
  · rw [if_pos (nI_lt c hb), Nat.max_eq_right (by omega)]
  · rw [if_neg (nI_nlt (by omega) (by omega)), Nat.max_eq_left (by omega)]
theorem bit_or {k w n : Nat} (hk : k < 2 ^ n) (hw : w < n) : k ||| 2 ^ w < 2 ^ n := Nat.or_lt_two_pow hk (Nat.pow_lt_pow_right (by decide) hw)
/-- what the class's scores say -/
def RSc (nO nA : Nat) (sc : Nat → Nat → Nat) (s : Nat → Int32) : Prop := ∀ o w, o < nO → w < nA → (sc o w = 0 ∧ s (7 * o + w) = -3) ∨ (0 < sc o w ∧ s (7 * o + w) = nI (sc o w))
theorem open_at {nO nA o w k : Nat} {sc : Nat → Nat → Nat} {s : Nat → Int32} (hS : RSc nO nA sc s) (hsc : ∀ o w, sc o w ≤ 10000) (ho : o < nO) (hw : w < nA) (h7 : nO ≤ 7) (h7' : nA ≤ 7) : fX2_isOpen (nI o) (nI w) (nI k) s = some (if k.testBit w = false ∧ ¬ sc o w = 0 then 1 else 0) := by
  have hb := hsc o w
  rw [fX2_isOpen, shl_at (by omega), show nI o * 7 + nI w = nI (o * 7 + w) by rw [show nI o * 7 = nI (o * 7) from pk_mul o 7, nI_add], ixN (by omega) (by decide), gdT, cl _ (by omega), Nat.mul_comm o 7]
  by_cases c1 : k.testBit w = false
  · rw [if_pos ((fa_bit (by omega)).2 c1)]
    rcases hS o w ho hw with ⟨q1, q2⟩ | ⟨q1, q2⟩
    · rw [q2, if_pos (by decide), if_neg (fun z => z.2 q1)]
    · rw [q2, if_neg (nlt0 _ (by omega)), if_pos ⟨c1, by omega⟩]
  · rw [if_neg (fun z => c1 ((fa_bit (by omega)).1 z)), if_neg (fun z => c1 z.1)]
theorem with_at {nO nA o w k n : Nat} {sc : Nat → Nat → Nat} {s bt : Nat → Int32} (hS : RSc nO nA sc s) (ho : o < nO) (hw : w < nA) (h7 : nO ≤ 7) (h7' : nA ≤ 7) (hk : k < 2 ^ n) (hn : n ≤ 7) (hwn : w < n) (hB : ∀ k, k < 2 ^ n → bt (128 * (o + 1) + k) = nI (Vv sc nO nA (o + 1) k)) (hp : ¬ sc o w = 0) : fX2_scoreWith (nI o) (nI w) (nI k) s bt = some (nI (sc o w + Vv sc nO nA (o + 1) (k ||| 2 ^ w))) := by
  have hor := bit_or hk hwn
  have h128 : 2 ^ n ≤ 2 ^ 7 := Nat.pow_le_pow_right (by decide) hn
  have h128' : k ||| 2 ^ w < 128 := by omega
  rw [fX2_scoreWith, shl_at (by omega), fa_or, show nI o * 7 + nI w = nI (o * 7 + w) by rw [show nI o * 7 = nI (o * 7) from pk_mul o 7, nI_add], ixN (by omega) (by decide), gdT, cl _ (by omega), Nat.mul_comm o 7, nI_1, show nI (o + 1) * 128 = nI ((o + 1) * 128) from pk_mul _ 128, nI_add, ixN (by omega) (by decide), gdT, cl _ (by omega), Nat.mul_comm (o + 1) 128, hB _ hor]
  rcases hS o w ho hw with ⟨q1, q2⟩ | ⟨q1, q2⟩
  · exact absurd q1 hp
  · rw [q2, nI_add]
theorem bestFrom_at {nO nA o k : Nat} {sc : Nat → Nat → Nat} {s bt : Nat → Int32} (hS : RSc nO nA sc s) (hsc : ∀ o w, sc o w ≤ 10000) (ho : o < nO) (h7 : nO ≤ 7) (h7' : nA ≤ 7) (hk : k < 2 ^ nA) (hB : ∀ k, k < 2 ^ nA → bt (128 * (o + 1) + k) = nI (Vv sc nO nA (o + 1) k)) : fX2_bestFrom (nI o) (nI k) (nI nA) s bt = some (nI (Vv sc nO nA o k)) := by
  have h128 : 2 ^ nA ≤ 2 ^ 7 := Nat.pow_le_pow_right (by decide) h7'
  have bV : ∀ o k, Vv sc nO nA o k ≤ 70000 := fun o k => Nat.le_trans (Vv_le sc nO nA hsc (nO - o) o k rfl) (by omega)
  rw [fX2_bestFrom, nI_1, show nI (o + 1) * 128 = nI ((o + 1) * 128) from pk_mul _ 128, nI_add, ixN (by omega) (by decide), gdT, cl _ (by omega), Nat.mul_comm (o + 1) 128, hB k hk]
  have main := loopK (σ := Int32) (fun n i a => fX2_bestFrom_18 (nI o) (nI k) (nI nA) s bt n a i) nA (fun w a => a = nI (mxF w (cand sc nO nA o k) (Vv sc nO nA (o + 1) k))) (fun a => some a) ?_ ?_ nA 0 FU (nI (Vv sc nO nA (o + 1) k)) (by omega) rfl (by rw [FU_eq]; omega)
  · obtain ⟨s', q1, q2⟩ := main
    rw [show fX2_bestFrom_18 (nI o) (nI k) (nI nA) s bt FU (nI (Vv sc nO nA (o + 1) k)) 0 = _ from q2, q1, Vv_step sc ho]
  · intro m a ha
    show fX2_bestFrom_18 _ _ _ _ _ (m + 1) a (nI nA) = some a
    rw [fX2_bestFrom_18, if_pos (nI_le (Nat.le_refl _) (by omega))]
  · intro m w a hw ha
    refine ⟨_, ?_, rfl⟩
    show fX2_bestFrom_18 _ _ _ _ _ (m + 1) a (nI w) = fX2_bestFrom_18 _ _ _ _ _ m _ (nI (w + 1))
    have mb : mxF w (cand sc nO nA o k) (Vv sc nO nA (o + 1) k) ≤ 80000 := mxF_le (Nat.le_trans (bV _ _) (by omega)) (fun w' hw' => by
      unfold cand
      split
      · have := bV (o + 1) (k ||| 2 ^ w')
        have := hsc o w'
        omega
      · omega)
    rw [fX2_bestFrom_18, if_neg (nI_ge hw (by omega)), open_at hS hsc ho hw h7 h7', bn1S]
    simp only [fX2_bestFrom_51, nI_1]
    rw [mxF, ha]
    by_cases c : k.testBit w = false ∧ ¬ sc o w = 0
    · have e : cand sc nO nA o k w = sc o w + Vv sc nO nA (o + 1) (k ||| 2 ^ w) := if_pos c
      have := bV (o + 1) (k ||| 2 ^ w)
      have := hsc o w
      rw [if_pos c, if_neg (by decide), with_at hS ho hw h7 h7' hk h7' hw hB c.2, bn1S, imax_at (by omega) (by omega), e]
    · have e : cand sc nO nA o k w = 0 := if_neg c
      rw [if_neg c, if_pos rfl, e, Nat.max_eq_left (by omega)]
