/-! KEEP AND BACK -/
theorem RBox_cg {nB : Nat} {f m f' m' : Nat → Int32} (h : RBox nB f m) (hb : nB ≤ 24) (hf : ∀ i, i < 216 → f' i = f i) (hm : ∀ i, i < 216 → m' i = m i) : RBox nB f' m' := by
  intro b hb'
  have := h b hb'
  simp only [hf (9 * b) (by omega), hf (9 * b + 1) (by omega), hf (9 * b + 2) (by omega), hf (9 * b + 3) (by omega), hf (9 * b + 4) (by omega), hf (9 * b + 5) (by omega), hf (9 * b + 6) (by omega), hf (9 * b + 7) (by omega), hf (9 * b + 8) (by omega), hm (9 * b) (by omega), hm (9 * b + 1) (by omega), hm (9 * b + 2) (by omega), hm (9 * b + 3) (by omega), hm (9 * b + 4) (by omega), hm (9 * b + 5) (by omega), hm (9 * b + 6) (by omega), hm (9 * b + 7) (by omega), hm (9 * b + 8) (by omega)]
  exact this
theorem RWord_cg {n : Nat} {f m f' m' : Nat → Int32} (h : RWord n f m) (hn : n ≤ 60) (hf : ∀ i, i < 300 → f' i = f i) (hm : ∀ i, i < 300 → m' i = m i) : RWord n f' m' := by
  intro b hb
  have := h b hb
  simp only [hf (5 * b) (by omega), hf (5 * b + 1) (by omega), hf (5 * b + 2) (by omega), hf (5 * b + 3) (by omega), hf (5 * b + 4) (by omega), hm (5 * b) (by omega), hm (5 * b + 1) (by omega), hm (5 * b + 2) (by omega), hm (5 * b + 3) (by omega), hm (5 * b + 4) (by omega)]
  exact this
theorem RRoute_cg {n : Nat} {f m f' m' : Nat → Int32} (h : RRoute n f m) (hn : n ≤ 10) (hf : ∀ i, i < 50 → f' i = f i) (hm : ∀ i, i < 50 → m' i = m i) : RRoute n f' m' := by
  intro b hb
  have := h b hb
  simp only [hf (5 * b) (by omega), hf (5 * b + 1) (by omega), hf (5 * b + 2) (by omega), hf (5 * b + 3) (by omega), hf (5 * b + 4) (by omega), hm (5 * b) (by omega), hm (5 * b + 1) (by omega), hm (5 * b + 2) (by omega), hm (5 * b + 3) (by omega), hm (5 * b + 4) (by omega)]
  exact this
theorem RTurn_cg {n off : Nat} {f m f' m' : Nat → Int32} (h : RTurn n off f m) (hn : n ≤ 7) (ho : off ≤ 35) (hf : ∀ i, i < 35 → f' i = f i) (hm : ∀ i, i < 70 → m' i = m i) : RTurn n off f' m' := by
  intro b hb
  have := h b hb
  simp only [hf (5 * b) (by omega), hf (5 * b + 1) (by omega), hf (5 * b + 2) (by omega), hf (5 * b + 3) (by omega), hf (5 * b + 4) (by omega), hm (off + 5 * b) (by omega), hm (off + 5 * b + 1) (by omega), hm (off + 5 * b + 2) (by omega), hm (off + 5 * b + 3) (by omega), hm (off + 5 * b + 4) (by omega)]
  exact this
theorem RWeek_cg {f m f' m' : Nat → Int32} (h : RWeek f m) (hf : ∀ i, i < 60 → f' i = f i) (hm : ∀ i, i < 60 → m' i = m i) : RWeek f' m' := by
  intro p w hp hw
  have := h p w hp hw
  simp only [hf (2 * (6 * w + p)) (by omega), hf (2 * (6 * w + p) + 1) (by omega), hm (5 * p + w) (by omega), hm (30 + (5 * p + w)) (by omega)]
  exact this
theorem RLeave_cg {f m f' m' : Nat → Int32} (h : RLeave f m) (hf : ∀ i, i < 16 → f' i = f i) (hm : ∀ i, i < 16 → m' i = m i) : RLeave f' m' := by
  intro i j hi hj
  have := h i j hi hj
  simp only [hf (4 * i + j) (by omega), hf (4 * j + i) (by omega), hm (4 * i + j) (by omega)]
  exact this
theorem RLease_cg {f m f' m' : Nat → Int32} (h : RLease f m) (hf : ∀ i, i < 51 → f' i = f i) (hm : ∀ i, i < 68 → m' i = m i) : RLease f' m' := by
  intro l hl
  obtain ⟨h1, h2⟩ := h l hl
  refine ⟨fun k hk => ?_, ?_⟩
  · rw [hf _ (by omega), hm _ (by omega)]
    exact h1 k hk
  · rw [hf _ (by omega), hm _ (by omega)]
    exact h2
theorem RUse_cg {nU nB : Nat} {f m f' m' : Nat → Int32} (h : RUse nU nB f m) (hn : nU ≤ 40) (hf : ∀ i, i < 240 → f' i = f i) (hm : ∀ i, i < 240 → m' i = m i) : RUse nU nB f' m' := by
  intro b hb
  have := h b hb
  simp only [hf (6 * b) (by omega), hf (6 * b + 1) (by omega), hf (6 * b + 2) (by omega), hf (6 * b + 3) (by omega), hf (6 * b + 4) (by omega), hf (6 * b + 5) (by omega), hm (6 * b) (by omega), hm (6 * b + 1) (by omega), hm (6 * b + 2) (by omega), hm (6 * b + 3) (by omega), hm (6 * b + 4) (by omega), hm (6 * b + 5) (by omega)]
  exact this
/-- how long the class's tables and the reference's rows are -/
def tsz (j : Nat) : Nat := [216, 300, 60, 50, 35, 35, 16, 51, 240].getD j 0
def nsz (k : Nat) : Nat := [10, 216, 300, 60, 50, 70, 16, 68, 240].getD k 0
theorem RAt_cg {d d' : Nat → Int32} {t t' n n' : Nat → Nat → Int32} {td lk rt fr nB nW nR nO nA nU : Nat} (h : RAt d t n td lk rt fr nB nW nR nO nA nU) (hd : ∀ i, i < 13 → d' i = d i) (ht : ∀ j, j < 9 → ∀ i, i < tsz j → t' j i = t j i) (hn : ∀ k, k < 9 → ∀ i, i < nsz k → n' k i = n k i) : RAt d' t' n' td lk rt fr nB nW nR nO nA nU := by
  obtain ⟨⟨h1, h2, h3⟩, hBox, hWo, hWe, hRo, hOf, hWa, hLv, hLs, hUs⟩ := h
  refine ⟨⟨?_, ?_, h3⟩, ?_, ?_, ?_, ?_, ?_, ?_, ?_, ?_, ?_⟩
  · simp only [hd 0 (by decide), hd 1 (by decide), hd 2 (by decide), hd 3 (by decide), hd 4 (by decide), hd 5 (by decide), hd 6 (by decide), hd 7 (by decide), hd 8 (by decide), hd 9 (by decide), hd 10 (by decide), hd 11 (by decide), hd 12 (by decide)]
    exact h1
  · have q := hn 0 (by decide)
    simp only [q 0 (by decide), q 1 (by decide), q 2 (by decide), q 3 (by decide), q 4 (by decide), q 5 (by decide), q 6 (by decide), q 7 (by decide), q 8 (by decide), q 9 (by decide)]
    exact h2
  · exact RBox_cg hBox (by omega) (ht 0 (by decide)) (hn 1 (by decide))
  · exact RWord_cg hWo (by omega) (ht 1 (by decide)) (hn 2 (by decide))
  · exact RWeek_cg hWe (ht 2 (by decide)) (hn 3 (by decide))
  · exact RRoute_cg hRo (by omega) (ht 3 (by decide)) (hn 4 (by decide))
  · exact RTurn_cg hOf (by omega) (by decide) (ht 4 (by decide)) (hn 5 (by decide))
  · exact RTurn_cg hWa (by omega) (by decide) (ht 5 (by decide)) (hn 5 (by decide))
  · exact RLeave_cg hLv (ht 6 (by decide)) (hn 6 (by decide))
  · exact RLease_cg hLs (ht 7 (by decide)) (hn 7 (by decide))
  · exact RUse_cg hUs (by omega) (ht 8 (by decide)) (hn 8 (by decide))
theorem become_at {mx r n : Nat} {x : Int32} {f g : Nat → Int32} (hr : r ≤ mx) (hm : mx < 2 ^ 31) (hn : n < 2 ^ 31) : fX4_become (nI mx) x n f (nI r) n g = some (nI r, va_cpy g f 0 0 n) := by
  have e : imin (nI n) (nI n) = nI n := by unfold imin; split <;> rfl
  have c : cpk 0 0 (nI n) n n = true := by
    unfold cpk
    apply decide_eq_true
    rw [cl n hn]
    exact ⟨by decide, by decide, nlt0 n hn, by rw [clL0]; omega, by rw [clL0]; omega⟩
  rw [fX4_become, e, gdt c, cl n hn, clL0]
  congr 2
  unfold imin
  split
  · rename_i z
    exact absurd z (nI_nlt hr hm)
  · rfl
theorem cpy_at {f g : Nat → Int32} {n i : Nat} (h : i < n) : va_cpy f g 0 0 n i = f i := by
  show (if 0 ≤ i ∧ i < 0 + n then f (0 + (i - 0)) else g i) = f i
  rw [if_pos (by omega)]
  congr 1
  omega
/-- the reference's rows to the kept row and back -/
def mvK (kept : Nat → Int32) (p len : Nat) (row : Nat → Int32) : Nat → Int32 := fun j => if p ≤ j ∧ j < p + len then row (j - p) else kept j
def mvR (kept : Nat → Int32) (p len : Nat) (row : Nat → Int32) : Nat → Int32 := fun j => if j < len then kept (p + j) else row j
theorem move_out {len p : Nat} {kept row : Nat → Int32} (h : p + len ≤ 1030) : fX7_move (nI len) 1 (nI p) kept len row = some (nI (p + len), mvK kept p len row, row) := by
  have main : ∀ (k i n : Nat), i + k = len → k < n → fX7_move_3 (nI len) 1 len n (nI i) (nI (p + i)) (mvK kept p i row) row = some (nI (p + len), mvK kept p len row, row) := by
    intro k
    induction k with
    | zero =>
      intro i n h1 h2
      obtain ⟨n, rfl⟩ : ∃ x, n = x + 1 := ⟨n - 1, by omega⟩
      obtain rfl : i = len := by omega
      rw [fX7_move_3, if_pos (nI_le (Nat.le_refl _) (by omega))]
    | succ k ih =>
      intro i n h1 h2
      obtain ⟨n, rfl⟩ : ∃ x, n = x + 1 := ⟨n - 1, by omega⟩
      have e : upd (mvK kept p i row) (p + i) (row i) = mvK kept p (i + 1) row := by
        funext j
        unfold upd mvK
        by_cases c : j = p + i
        · subst c
          rw [if_pos rfl, if_pos (by omega)]
          congr 1
          omega
        · rw [if_neg c]
          by_cases c2 : p ≤ j ∧ j < p + i
          · rw [if_pos c2, if_pos (by omega)]
          · rw [if_neg c2, if_neg (by omega)]
      rw [fX7_move_3, if_neg (nI_ge (by omega) (by omega)), if_neg (by decide), ixN (by omega) (by omega), gdT, ixN (by omega) (by decide), gdT, cl _ (by omega), cl _ (by omega), e]
      simp only [fX7_move_42, nI_1]
      exact ih (i + 1) n (by omega) (by omega)
  have e0 : mvK kept p 0 row = kept := by
    funext j
    unfold mvK
    rw [if_neg (by omega)]
  have := main len 0 FU (by omega) (by rw [FU_eq]; omega)
  rw [e0] at this
  exact this
theorem move_in {len p : Nat} {kept row : Nat → Int32} (h : p + len ≤ 1030) : fX7_move (nI len) 0 (nI p) kept len row = some (nI (p + len), kept, mvR kept p len row) := by
  have main : ∀ (k i n : Nat), i + k = len → k < n → fX7_move_3 (nI len) 0 len n (nI i) (nI (p + i)) kept (mvR kept p i row) = some (nI (p + len), kept, mvR kept p len row) := by
    intro k
    induction k with
    | zero =>
      intro i n h1 h2
      obtain ⟨n, rfl⟩ : ∃ x, n = x + 1 := ⟨n - 1, by omega⟩
      obtain rfl : i = len := by omega
      rw [fX7_move_3, if_pos (nI_le (Nat.le_refl _) (by omega))]
    | succ k ih =>
      intro i n h1 h2
      obtain ⟨n, rfl⟩ : ∃ x, n = x + 1 := ⟨n - 1, by omega⟩
      have e : upd (mvR kept p i row) i (kept (p + i)) = mvR kept p (i + 1) row := by
        funext j
        unfold upd mvR
        by_cases c : j = i
        · subst c
          rw [if_pos rfl, if_pos (by omega)]
        · rw [if_neg c]
          by_cases c2 : j < i
          · rw [if_pos c2, if_pos (by omega)]
          · rw [if_neg c2, if_neg (by omega)]
      rw [fX7_move_3, if_neg (nI_ge (by omega) (by omega)), if_pos rfl, ixN (by omega) (by decide), gdT, ixN (by omega) (by omega), gdT, cl _ (by omega), cl _ (by omega), e]
      simp only [fX7_move_42, nI_1]
      exact ih (i + 1) n (by omega) (by omega)
  have e0 : mvR kept p 0 row = row := by
    funext j
    unfold mvR
    rw [if_neg (by omega)]
  have := main len 0 FU (by omega) (by rw [FU_eq]; omega)
  rw [e0] at this
  exact this
theorem mvK_in {kept : Nat → Int32} {p len : Nat} {row : Nat → Int32} {i : Nat} (h : i < len) : mvK kept p len row (p + i) = row i := by
  unfold mvK
  rw [if_pos (by omega)]
  congr 1
  omega
theorem mvK_out {kept : Nat → Int32} {p len : Nat} {row : Nat → Int32} {j : Nat} (h : j < p ∨ p + len ≤ j) : mvK kept p len row j = kept j := by
  unfold mvK
  rw [if_neg (by omega)]
theorem mvR_in {kept : Nat → Int32} {p len : Nat} {row : Nat → Int32} {i : Nat} (h : i < len) : mvR kept p len row i = kept (p + i) := if_pos h
theorem bn3S {α β γ δ : Type} (a : α) (b : β) (c : γ) (k : α → β → γ → Option δ) : bn3 (some (a, b, c)) k = k a b c := rfl
def mvAll (k : Nat → Int32) (N : Nat → Nat → Int32) : Nat → Int32 := mvK (mvK (mvK (mvK (mvK (mvK (mvK (mvK (mvK k 0 10 (N 0)) 10 216 (N 1)) 226 300 (N 2)) 526 60 (N 3)) 586 50 (N 4)) 636 70 (N 5)) 706 16 (N 6)) 722 68 (N 7)) 790 240 (N 8)
theorem all_out (pl : Int32) (N : Nat → Nat → Int32) (k : Nat → Int32) : fX7_moveAll 1 pl (N 0) (N 1) (N 2) (N 3) (N 4) (N 5) (N 6) (N 7) (N 8) k = some (nI 1030, N 0, N 1, N 2, N 3, N 4, N 5, N 6, N 7, N 8, mvAll k N) := by
  rw [fX7_moveAll, show (0 : Int32) = nI 0 from rfl, fa_lit, show fX7_move (nI 10) 1 (nI 0) k 10 (N 0) = _ from move_out (by decide), bn3S]
  rw [show fX7_move (216 : Int32) 1 (nI (0 + 10)) _ 216 (N 1) = _ from move_out (by decide), bn3S, show fX7_move (300 : Int32) 1 (nI (0 + 10 + 216)) _ 300 (N 2) = _ from move_out (by decide), bn3S, show fX7_move (60 : Int32) 1 (nI (0 + 10 + 216 + 300)) _ 60 (N 3) = _ from move_out (by decide), bn3S, show fX7_move (50 : Int32) 1 (nI (0 + 10 + 216 + 300 + 60)) _ 50 (N 4) = _ from move_out (by decide), bn3S, show fX7_move (70 : Int32) 1 (nI (0 + 10 + 216 + 300 + 60 + 50)) _ 70 (N 5) = _ from move_out (by decide), bn3S, show fX7_move (16 : Int32) 1 (nI (0 + 10 + 216 + 300 + 60 + 50 + 70)) _ 16 (N 6) = _ from move_out (by decide), bn3S, show fX7_move (68 : Int32) 1 (nI (0 + 10 + 216 + 300 + 60 + 50 + 70 + 16)) _ 68 (N 7) = _ from move_out (by decide), bn3S, show fX7_move (240 : Int32) 1 (nI (0 + 10 + 216 + 300 + 60 + 50 + 70 + 16 + 68)) _ 240 (N 8) = _ from move_out (by decide), bn3S]
  rfl
theorem all_in (pl : Int32) (N : Nat → Nat → Int32) (k : Nat → Int32) : fX7_moveAll 0 pl (N 0) (N 1) (N 2) (N 3) (N 4) (N 5) (N 6) (N 7) (N 8) k = some (nI 1030, mvR k 0 10 (N 0), mvR k 10 216 (N 1), mvR k 226 300 (N 2), mvR k 526 60 (N 3), mvR k 586 50 (N 4), mvR k 636 70 (N 5), mvR k 706 16 (N 6), mvR k 722 68 (N 7), mvR k 790 240 (N 8), k) := by
  rw [fX7_moveAll]
  rw [show fX7_move (10 : Int32) 0 0 k 10 (N 0) = _ from move_in (p := 0) (by decide), bn3S, show fX7_move (216 : Int32) 0 (nI (0 + 10)) _ 216 (N 1) = _ from move_in (by decide), bn3S, show fX7_move (300 : Int32) 0 (nI (0 + 10 + 216)) _ 300 (N 2) = _ from move_in (by decide), bn3S, show fX7_move (60 : Int32) 0 (nI (0 + 10 + 216 + 300)) _ 60 (N 3) = _ from move_in (by decide), bn3S, show fX7_move (50 : Int32) 0 (nI (0 + 10 + 216 + 300 + 60)) _ 50 (N 4) = _ from move_in (by decide), bn3S, show fX7_move (70 : Int32) 0 (nI (0 + 10 + 216 + 300 + 60 + 50)) _ 70 (N 5) = _ from move_in (by decide), bn3S, show fX7_move (16 : Int32) 0 (nI (0 + 10 + 216 + 300 + 60 + 50 + 70)) _ 16 (N 6) = _ from move_in (by decide), bn3S, show fX7_move (68 : Int32) 0 (nI (0 + 10 + 216 + 300 + 60 + 50 + 70 + 16)) _ 68 (N 7) = _ from move_in (by decide), bn3S, show fX7_move (240 : Int32) 0 (nI (0 + 10 + 216 + 300 + 60 + 50 + 70 + 16 + 68)) _ 240 (N 8) = _ from move_in (by decide), bn3S]
theorem mvAll_at (kp : Nat → Int32) (N : Nat → Nat → Int32) : ∀ k, k < 9 → ∀ i, i < nsz k → mvAll kp N (koff k + i) = N k i := by
  intro k hk i hi
  unfold mvAll
  rcases (show k = 0 ∨ k = 1 ∨ k = 2 ∨ k = 3 ∨ k = 4 ∨ k = 5 ∨ k = 6 ∨ k = 7 ∨ k = 8 by omega) with rfl | rfl | rfl | rfl | rfl | rfl | rfl | rfl | rfl
  · have hi : i < 10 := hi
    show mvK _ _ _ _ (0 + i) = _
    rw [mvK_out (by omega), mvK_out (by omega), mvK_out (by omega), mvK_out (by omega), mvK_out (by omega), mvK_out (by omega), mvK_out (by omega), mvK_out (by omega), mvK_in hi]
  · have hi : i < 216 := hi
    show mvK _ _ _ _ (10 + i) = _
    rw [mvK_out (by omega), mvK_out (by omega), mvK_out (by omega), mvK_out (by omega), mvK_out (by omega), mvK_out (by omega), mvK_out (by omega), mvK_in hi]
  · have hi : i < 300 := hi
    show mvK _ _ _ _ (226 + i) = _
    rw [mvK_out (by omega), mvK_out (by omega), mvK_out (by omega), mvK_out (by omega), mvK_out (by omega), mvK_out (by omega), mvK_in hi]
  · have hi : i < 60 := hi
    show mvK _ _ _ _ (526 + i) = _
    rw [mvK_out (by omega), mvK_out (by omega), mvK_out (by omega), mvK_out (by omega), mvK_out (by omega), mvK_in hi]
  · have hi : i < 50 := hi
    show mvK _ _ _ _ (586 + i) = _
    rw [mvK_out (by omega), mvK_out (by omega), mvK_out (by omega), mvK_out (by omega), mvK_in hi]
  · have hi : i < 70 := hi
    show mvK _ _ _ _ (636 + i) = _
    rw [mvK_out (by omega), mvK_out (by omega), mvK_out (by omega), mvK_in hi]
  · have hi : i < 16 := hi
    show mvK _ _ _ _ (706 + i) = _
    rw [mvK_out (by omega), mvK_out (by omega), mvK_in hi]
  · have hi : i < 68 := hi
    show mvK _ _ _ _ (722 + i) = _
    rw [mvK_out (by omega), mvK_in hi]
  · have hi : i < 240 := hi
    show mvK _ _ _ _ (790 + i) = _
    rw [mvK_in hi]
