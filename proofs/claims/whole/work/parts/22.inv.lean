/-! WHAT THE STATES OF THE CLASS AND OF THE REFERENCE HAVE IN COMMON -/
def RBox (nB : Nat) (f m : Nat → Int32) : Prop := ∀ b, b < nB → ∃ mk kd ln cm ft : Nat, (mk ≤ 9999 ∧ kd ≤ 2 ∧ ln ≤ 3 ∧ cm ≤ 200 ∧ ft ≤ 2) ∧ (f (9 * b) = nI mk ∧ m (9 * b) = nI mk) ∧ (f (9 * b + 1) = nI kd ∧ m (9 * b + 1) = nI kd) ∧ (f (9 * b + 2) = nI ln ∧ m (9 * b + 2) = nI ln) ∧ ((f (9 * b + 3) = -3 ∧ m (9 * b + 3) = -1) ∨ ∃ ls : Nat, ls ≤ 2 ∧ f (9 * b + 3) = nI ls ∧ m (9 * b + 3) = nI ls) ∧ (f (9 * b + 4) = nI cm ∧ m (9 * b + 4) = nI cm) ∧ (f (9 * b + 5) = nI ft ∧ m (9 * b + 5) = nI ft) ∧ ((f (9 * b + 6) = -3 ∧ m (9 * b + 6) = -1) ∨ ∃ bl : Nat, bl ≤ 1000000 ∧ f (9 * b + 6) = nI bl ∧ m (9 * b + 6) = nI bl) ∧ (ft = 1 → ∃ bd bp : Nat, bd ≤ 200 ∧ bp ≤ 5 ∧ (f (9 * b + 7) = nI bd ∧ m (9 * b + 7) = nI bd) ∧ (f (9 * b + 8) = nI bp ∧ m (9 * b + 8) = nI bp))
def RWord (nW : Nat) (f m : Nat → Int32) : Prop := ∀ w, w < nW → ∃ bx dy pl wt kn : Nat, (bx ≤ 23 ∧ dy ≤ 200 ∧ pl ≤ 5 ∧ wt ≤ 1 ∧ kn ≤ 200) ∧ (f (5 * w) = nI bx ∧ m (5 * w) = nI bx) ∧ (f (5 * w + 1) = nI dy ∧ m (5 * w + 1) = nI dy) ∧ (f (5 * w + 2) = nI pl ∧ m (5 * w + 2) = nI pl) ∧ (f (5 * w + 3) = nI wt ∧ m (5 * w + 3) = nI wt) ∧ (f (5 * w + 4) = nI kn ∧ m (5 * w + 4) = nI kn)
def RWeek (f m : Nat → Int32) : Prop := ∀ p w, p < 6 → w < 5 → ∃ st nd : Nat, (st ≤ 9 ∧ nd ≤ 9) ∧ (f (2 * (6 * w + p)) = nI st ∧ m (5 * p + w) = nI st) ∧ (f (2 * (6 * w + p) + 1) = nI nd ∧ m (30 + (5 * p + w)) = nI nd)
def RRoute (nR : Nat) (f m : Nat → Int32) : Prop := ∀ r, r < nR → ∃ fr to wk co rm : Nat, (fr ≤ 5 ∧ to ≤ 5 ∧ fr ≠ to ∧ wk ≤ 2 ∧ co ≤ 99 ∧ rm ≤ 9) ∧ (f (5 * r) = nI fr ∧ m (5 * r) = nI fr) ∧ (f (5 * r + 1) = nI to ∧ m (5 * r + 1) = nI to) ∧ (f (5 * r + 2) = nI wk ∧ m (5 * r + 2) = nI wk) ∧ (f (5 * r + 3) = nI co ∧ m (5 * r + 3) = nI co) ∧ (f (5 * r + 4) = nI rm ∧ m (5 * r + 4) = nI rm)
def RTurn (n off : Nat) (f m : Nat → Int32) : Prop := ∀ o, o < n → ∃ pl ln kd fi la : Nat, (pl ≤ 5 ∧ ln ≤ 3 ∧ kd ≤ 2 ∧ fi ≤ la ∧ la ≤ 200) ∧ (f (5 * o) = nI pl ∧ m (off + 5 * o) = nI pl) ∧ (f (5 * o + 1) = nI ln ∧ m (off + 5 * o + 1) = nI ln) ∧ (f (5 * o + 2) = nI kd ∧ m (off + 5 * o + 2) = nI kd) ∧ (f (5 * o + 3) = nI fi ∧ m (off + 5 * o + 3) = nI fi) ∧ (f (5 * o + 4) = nI la ∧ m (off + 5 * o + 4) = nI la)
def RLeave (f m : Nat → Int32) : Prop := ∀ i j, i < 4 → j < 4 → ∃ v : Nat, v ≤ 1 ∧ f (4 * i + j) = nI v ∧ m (4 * i + j) = nI v ∧ f (4 * j + i) = nI v
def RLease (f m : Nat → Int32) : Prop := ∀ l, l < 3 → (∀ k, k < 16 → ∃ v : Nat, v ≤ 999 ∧ f (17 * l + k) = nI v ∧ m (17 * l + k) = nI v) ∧ ∃ v : Nat, v ≤ 1 ∧ f (17 * l + 16) = nI v ∧ m (17 * l + 16) = nI v
def RUse (nU nB : Nat) (f m : Nat → Int32) : Prop := ∀ u, u < nU → ∃ bx ln fr to kn : Nat, (bx < nB ∧ ln ≤ 3 ∧ fr ≤ to ∧ to ≤ 200 ∧ kn ≤ 200) ∧ (f (6 * u) = nI bx ∧ m (6 * u) = nI bx) ∧ (f (6 * u + 1) = nI ln ∧ m (6 * u + 1) = nI ln) ∧ (f (6 * u + 2) = nI fr ∧ m (6 * u + 2) = nI fr) ∧ (f (6 * u + 3) = nI to ∧ m (6 * u + 3) = nI to) ∧ (f (6 * u + 4) = nI kn ∧ m (6 * u + 4) = nI kn) ∧ ((f (6 * u + 5) = 201 ∧ m (6 * u + 5) = -1) ∨ ∃ sd : Nat, sd ≤ 200 ∧ f (6 * u + 5) = nI sd ∧ m (6 * u + 5) = nI sd)
/-- the counts of a desk and of the reference's numbers -/
def RNum (d : Nat → Int32) (n : Nat → Int32) (td lk rt fr nB nW nR nO nA nU : Nat) : Prop :=
  (d 0 = nI td ∧ d 1 = nI lk ∧ d 2 = nI rt ∧ d 3 = nI fr ∧ d 4 = nI nB ∧ d 5 = nI nW ∧ d 6 = nI 30 ∧ d 7 = nI nR ∧ d 8 = nI nO ∧ d 9 = nI nA ∧ d 10 = nI 4 ∧ d 11 = nI 3 ∧ d 12 = nI nU) ∧
  (n 0 = nI td ∧ n 1 = nI nB ∧ n 2 = nI nW ∧ n 3 = nI nR ∧ n 4 = nI nO ∧ n 5 = nI nA ∧ n 6 = nI nU ∧ n 7 = nI rt ∧ n 8 = nI fr ∧ n 9 = nI lk) ∧
  (td ≤ 200 ∧ lk ≤ 500 ∧ rt ≤ 50 ∧ fr ≤ 10 ∧ nB ≤ 24 ∧ nW ≤ 60 ∧ nR ≤ 10 ∧ nO ≤ 7 ∧ nA ≤ 7 ∧ nU ≤ 40)
/-- a desk d, its tables t, and the reference's arrays n, at these counts -/
def RAt (d : Nat → Int32) (t n : Nat → Nat → Int32) (td lk rt fr nB nW nR nO nA nU : Nat) : Prop :=
  RNum d (n 0) td lk rt fr nB nW nR nO nA nU ∧ RBox nB (t 0) (n 1) ∧ RWord nW (t 1) (n 2) ∧ RWeek (t 2) (n 3) ∧ RRoute nR (t 3) (n 4) ∧ RTurn nO 0 (t 4) (n 5) ∧ RTurn nA 35 (t 5) (n 5) ∧ RLeave (t 6) (n 6) ∧ RLease (t 7) (n 7) ∧ RUse nU nB (t 8) (n 8)
def RD (d : Nat → Int32) (t n : Nat → Nat → Int32) : Prop := ∃ td lk rt fr nB nW nR nO nA nU : Nat, RAt d t n td lk rt fr nB nW nR nO nA nU
def koff (k : Nat) : Nat := [0, 10, 226, 526, 586, 636, 706, 722, 790].getD k 0
def RK (E : Nat → Int32) (F : Nat → Nat → Int32) (M : Nat → Int32) (N : Nat → Nat → Int32) : Prop :=
  (E 0 = 0 ∧ M 8 = 0) ∨ (E 0 = 1 ∧ M 8 = 1 ∧ RD (fun i => E (15 + i)) (fun j => F (9 + j)) (fun k i => N 17 (koff k + i)))
def RT (E : Nat → Int32) (F : Nat → Nat → Int32) (M : Nat → Int32) (N : Nat → Nat → Int32) : Prop :=
  ∃ mn : Nat, mn ≤ 120 ∧ E 28 = nI mn ∧ M 1 = nI mn ∧ ∀ i, i < mn → ∃ v : Nat, v ≤ 255 ∧ F 18 i = nI v ∧ N 16 i = nI v
def RP (E : Nat → Int32) (F : Nat → Nat → Int32) : Prop := E 1 = 0 ∨ (E 1 = 1 ∧ planOK (F 2) (F 3) (E 9) (E 3) (E 35) (F 26))
def Inv (E : Nat → Int32) (F : Nat → Nat → Int32) (M : Nat → Int32) (N : Nat → Nat → Int32) : Prop :=
  RD (fun i => E (2 + i)) F N ∧ RK E F M N ∧ RT E F M N ∧ RP E F
theorem up_self {α : Type} (f : Nat → α) (k : Nat) : va_up f k (f k) = f := by
  funext j
  unfold va_up
  split
  · rename_i h; rw [h]
  · rfl
/-! range tests -/
theorem wi (v lo hi : Int32) : fX6_isWithin v lo hi = some (if v < lo ∨ hi < v then 0 else 1) := by
  unfold fX6_isWithin
  by_cases h1 : v < lo
  · simp [h1]
  · by_cases h2 : hi < v <;> simp [h1, h2]
theorem wi7 (v lo hi : Int32) : fX7_in v lo hi = some (if v < lo ∨ hi < v then 0 else 1) := wi v lo hi
theorem zb01 (P : Prop) [Decidable P] : zb (if P then 0 else 1) = true := by by_cases h : P <;> simp [h, zb]
theorem zb10 (P : Prop) [Decidable P] : zb (if P then 1 else 0) = true := by by_cases h : P <;> simp [h, zb]
theorem gdT {α : Type} (x : Option α) : gd true x = x := rfl
theorem gdt {α : Type} {b : Bool} (h : b = true) (x : Option α) : gd b x = x := by rw [h]; rfl
theorem bn1S {α γ : Type} (a : α) (k : α → Option γ) : bn1 (some a) k = k a := rfl
theorem bn2S {α β γ : Type} (a : α) (b : β) (k : α → β → Option γ) : bn2 (some (a, b)) k = k a b := rfl
theorem i0 (P : Prop) [Decidable P] {α : Type} (x y : α) : (if (if P then (0 : Int32) else 1) = 0 then x else y) = if P then x else y := by by_cases h : P <;> simp [h]
theorem i1 (P : Prop) [Decidable P] {α : Type} (x y : α) : (if (if P then (1 : Int32) else 0) = 0 then x else y) = if P then y else x := by by_cases h : P <;> simp [h]
theorem rng (v : Int32) {hi : Int32} (k : Nat) (hk : hi = nI k) (hb : k < 2 ^ 31) : (v < 0 ∨ hi < v) ∨ ∃ n : Nat, n ≤ k ∧ v = nI n := by
  by_cases h : v < 0
  · exact Or.inl (Or.inl h)
  · obtain ⟨j, hj, rfl⟩ := nI_of h
    by_cases h2 : hi < nI j
    · exact Or.inl (Or.inr h2)
    · refine Or.inr ⟨j, ?_, rfl⟩
      rw [hk, nI_ltI hb hj] at h2
      omega
theorem rngN {n k : Nat} (hn : n ≤ k) (hb : k < 2 ^ 31) : ¬ (nI n < 0 ∨ nI k < nI n) := by
  rintro (h | h)
  · exact nI_pos (by omega) h
  · rw [nI_ltI hb (by omega)] at h; omega
theorem ixN {i n : Nat} (h : i < n) (hn : n < 2 ^ 31) : ix (nI i) n = true := by
  have h1 : vp_in (nI i) n := vp_in_nI h hn
  exact decide_eq_true h1
theorem cl (n : Nat) (h : n < 2 ^ 31) : (nI n).toNatClampNeg = n := nI_clamp h
theorem clL0 : (0 : Int32).toNatClampNeg = 0 := rfl
/-! the desk's tables -/
theorem holds_at {r c cols rows : Nat} (hr : r < rows) (hc : c < cols) (hb : rows < 2 ^ 31) (hb2 : cols < 2 ^ 31) : fX4_holds (nI r) (nI c) (nI cols) (nI rows) = some 1 := by
  unfold fX4_holds
  rw [if_neg (nI_pos (by omega)), if_neg (nI_ge hr hb), if_neg (nI_pos (by omega)), if_neg (nI_ge hc hb2)]
theorem cell_at {r c cols rows n : Nat} {f : Nat → Int32} (hr : r < rows) (hc : c < cols) (hn : r * cols + c < n) (hb : rows < 2 ^ 31) (hb2 : cols < 2 ^ 31) (hb3 : n < 2 ^ 31) : fX4_cell (nI r) (nI c) (nI cols) (nI rows) n f = some (f (cols * r + c)) := by
  unfold fX4_cell
  rw [holds_at hr hc hb hb2, bn1S, if_neg (by decide), pk_mul, nI_add, ixN hn hb3, gdT, cl _ (by omega), Nat.mul_comm]
theorem put_at {r c cols rows n : Nat} {f : Nat → Int32} {v : Int32} (hr : r < rows) (hc : c < cols) (hn : r * cols + c < n) (hb : rows < 2 ^ 31) (hb2 : cols < 2 ^ 31) (hb3 : n < 2 ^ 31) : fX4_put (nI r) (nI c) v (nI cols) (nI rows) n f = some (upd f (cols * r + c) v) := by
  unfold fX4_put
  rw [holds_at hr hc hb hb2, bn1S, if_neg (by decide), pk_mul, nI_add, ixN hn hb3, gdT, cl _ (by omega), Nat.mul_comm]
theorem has_at (v : Int32) {rows : Nat} (hb : rows < 2 ^ 31) : fX4_has v (nI rows) = some (if v < 0 ∨ nI rows ≤ v then 0 else 1) := by
  unfold fX4_has
  by_cases h1 : v < 0
  · simp [h1]
  · by_cases h2 : nI rows ≤ v <;> simp [h1, h2]
theorem full_at {most rows : Nat} (hb : rows < 2 ^ 31) (hb2 : most < 2 ^ 31) : fX4_isFull (nI most) (nI rows) = some (if rows < most then 0 else 1) := by
  unfold fX4_isFull
  by_cases h : rows < most
  · rw [if_pos (nI_lt h hb2), if_pos h]
  · rw [if_neg (nI_nlt (by omega) hb), if_neg h]
theorem grow_at {most rows : Nat} (h : rows < most) (hb2 : most < 2 ^ 31) : fX4_grow (nI most) (nI rows) = some (nI rows, nI (rows + 1)) := by
  unfold fX4_grow
  rw [full_at (by omega) hb2, bn1S, if_pos h, if_pos rfl]
  show some ((nI rows + 1) - 1, nI rows + 1) = _
  rw [nI_1, nI_pred]
theorem upd_same (f : Nat → Int32) (k : Nat) (x : Int32) : upd f k x k = x := if_pos rfl
theorem upd_ne (f : Nat → Int32) {k j : Nat} (x : Int32) (h : j ≠ k) : upd f k x j = f j := if_neg h
theorem RD_congr {d d' : Nat → Int32} {t t' n n' : Nat → Nat → Int32} (h : RD d t n) (hd : ∀ i, i < 13 → d' i = d i) (ht : ∀ j, j < 9 → t' j = t j) (hn : ∀ k, k < 9 → n' k = n k) : RD d' t' n' := by
  obtain ⟨td, lk, rt, fr, nB, nW, nR, nO, nA, nU, h⟩ := h
  refine ⟨td, lk, rt, fr, nB, nW, nR, nO, nA, nU, ?_⟩
  unfold RAt RNum at h ⊢
  rw [hd 0 (by decide), hd 1 (by decide), hd 2 (by decide), hd 3 (by decide), hd 4 (by decide), hd 5 (by decide), hd 6 (by decide), hd 7 (by decide), hd 8 (by decide), hd 9 (by decide), hd 10 (by decide), hd 11 (by decide), hd 12 (by decide), ht 0 (by decide), ht 1 (by decide), ht 2 (by decide), ht 3 (by decide), ht 4 (by decide), ht 5 (by decide), ht 6 (by decide), ht 7 (by decide), ht 8 (by decide), hn 0 (by decide), hn 1 (by decide), hn 2 (by decide), hn 3 (by decide), hn 4 (by decide), hn 5 (by decide), hn 6 (by decide), hn 7 (by decide), hn 8 (by decide)]
  exact h
theorem up_ge {α : Type} {f : Nat → α} {k i b : Nat} {v : α} (hk : k < b) (hi : b ≤ i) : va_up f k v i = f i := va_up_ne _ _ (by omega)
/-- a call that changes the desk's part alone -/
theorem Inv_desk {E F M N} {E' : Nat → Int32} {F' : Nat → Nat → Int32} {M' : Nat → Int32} {N' : Nat → Nat → Int32} (h : Inv E F M N) (hD : RD (fun i => E' (2 + i)) F' N') (hE0 : E' 0 = E 0) (hE : ∀ i, 15 ≤ i → E' i = E i) (hF : ∀ j, 9 ≤ j → F' j = F j) (hM8 : M' 8 = M 8) (hM1 : M' 1 = M 1) (hN : N' 16 = N 16) (hN2 : N' 17 = N 17) (hP : RP E' F') : Inv E' F' M' N' := by
  obtain ⟨-, hK, hT, -⟩ := h
  refine ⟨hD, ?_, ?_, hP⟩
  · rcases hK with ⟨h1, h2⟩ | ⟨h1, h2, h3⟩
    · exact Or.inl ⟨by rw [hE0]; exact h1, by rw [hM8]; exact h2⟩
    · refine Or.inr ⟨by rw [hE0]; exact h1, by rw [hM8]; exact h2, RD_congr h3 (fun i hi => hE _ (by omega)) (fun j hj => hF _ (by omega)) (fun k hk => ?_)⟩
      show (fun i => N' 17 (koff k + i)) = _
      rw [hN2]
  · obtain ⟨mn, h1, h2, h3, h4⟩ := hT
    exact ⟨mn, h1, by rw [hE 28 (by decide)]; exact h2, by rw [hM1]; exact h3, fun i hi => by rw [hF 18 (by decide), hN]; exact h4 i hi⟩
theorem RP_same {E E' : Nat → Int32} {F F' : Nat → Nat → Int32} (h : RP E F) (h1 : E' 1 = E 1) (h2 : F' 2 = F 2) (h3 : F' 3 = F 3) (h4 : E' 9 = E 9) (h5 : E' 3 = E 3) (h6 : E' 35 = E 35) (h7 : F' 26 = F 26) : RP E' F' := by
  unfold RP at h ⊢
  rw [h1, h2, h3, h4, h5, h6, h7]
  exact h
/-- a call that changes scratch alone (plan's and matching's own rows, the reference's own) -/
theorem Inv_same {E F M N} {E' : Nat → Int32} {F' : Nat → Nat → Int32} {M' : Nat → Int32} {N' : Nat → Nat → Int32} (h : Inv E F M N) (hE : ∀ i, i < 31 → E' i = E i) (hF : ∀ j, j < 19 → F' j = F j) (hM8 : M' 8 = M 8) (hM1 : M' 1 = M 1) (hN : ∀ k, k < 9 → N' k = N k) (hN2 : N' 16 = N 16) (hN3 : N' 17 = N 17) (hP : RP E' F') : Inv E' F' M' N' := by
  obtain ⟨hD, hK, hT, -⟩ := h
  refine ⟨RD_congr hD (fun i hi => hE _ (by omega)) (fun j hj => hF _ (by omega)) hN, ?_, ?_, hP⟩
  · rcases hK with ⟨h1, h2⟩ | ⟨h1, h2, h3⟩
    · exact Or.inl ⟨by rw [hE 0 (by decide)]; exact h1, by rw [hM8]; exact h2⟩
    · refine Or.inr ⟨by rw [hE 0 (by decide)]; exact h1, by rw [hM8]; exact h2, RD_congr h3 (fun i hi => hE _ (by omega)) (fun j hj => hF _ (by omega)) (fun k hk => ?_)⟩
      show (fun i => N' 17 (koff k + i)) = _
      rw [hN3]
  · obtain ⟨mn, h1, h2, h3, h4⟩ := hT
    exact ⟨mn, h1, by rw [hE 28 (by decide)]; exact h2, by rw [hM1]; exact h3, fun i hi => by rw [hF 18 (by decide), hN2]; exact h4 i hi⟩
/-- numbers from a to b, out of a range test -/
theorem rng2 (v : Int32) {lo hi : Int32} (a b : Nat) (ha : lo = nI a) (hb : hi = nI b) (hab : b < 2 ^ 31) (hl : a < 2 ^ 31) : (v < lo ∨ hi < v) ∨ ∃ n : Nat, a ≤ n ∧ n ≤ b ∧ v = nI n := by
  by_cases h : v < lo
  · exact Or.inl (Or.inl h)
  · by_cases h2 : hi < v
    · exact Or.inl (Or.inr h2)
    · have h0 : ¬ v < 0 := fun q => h (by
        rw [fa_lt] at q ⊢
        have := nI_toInt hl
        rw [ha]
        exact Int.lt_of_lt_of_le q (by rw [this]; exact Int.natCast_nonneg a))
      obtain ⟨j, hj, rfl⟩ := nI_of h0
      refine Or.inr ⟨j, ?_, ?_, rfl⟩
      · rw [ha, nI_ltI hj hl] at h; omega
      · rw [hb, nI_ltI hab hj] at h2; omega
theorem rngN2 {n a b : Nat} (ha : a ≤ n) (hn : n ≤ b) (hb : b < 2 ^ 31) : ¬ (nI n < nI a ∨ nI b < nI n) := by
  rintro (h | h)
  · rw [nI_ltI (by omega) (by omega)] at h; omega
  · rw [nI_ltI (by omega) (by omega)] at h; omega
