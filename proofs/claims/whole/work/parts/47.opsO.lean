/-! READ: the tokens -/
/-- both tapes hold the same bytes -/
def RTape (mn : Nat) (tv : Nat → Nat) (f m : Nat → Int32) : Prop := ∀ i, i < mn → tv i ≤ 255 ∧ f i = nI (tv i) ∧ m i = nI (tv i)
abbrev ltr (c : Nat) : Prop := 97 ≤ c ∧ c ≤ 122
abbrev dgt (c : Nat) : Prop := 48 ≤ c ∧ c ≤ 57
theorem letter_at {c : Nat} (h : c ≤ 255) : fX5_isLetter (nI c) = some (if ltr c then 1 else 0) := by
  unfold fX5_isLetter ltr
  by_cases c1 : c < 97
  · rw [if_pos (show nI c < 97 from nI_lt (b := 97) c1 (by decide)), if_neg (by omega)]
  · rw [if_neg (show ¬ nI c < 97 from nI_nlt (b := 97) (by omega) (by omega))]
    by_cases c2 : 122 < c
    · rw [if_pos (show (122 : Int32) < nI c from nI_lt (a := 122) c2 (by omega)), if_neg (by omega)]
    · rw [if_neg (show ¬ (122 : Int32) < nI c from nI_nlt (a := 122) (by omega) (by omega)), if_pos (by omega)]
theorem digit_at {c : Nat} (h : c ≤ 255) : fX5_isDigit (nI c) = some (if dgt c then 1 else 0) := by
  unfold fX5_isDigit dgt
  by_cases c1 : c < 48
  · rw [if_pos (show nI c < 48 from nI_lt (b := 48) c1 (by decide)), if_neg (by omega)]
  · rw [if_neg (show ¬ nI c < 48 from nI_nlt (b := 48) (by omega) (by omega))]
    by_cases c2 : 57 < c
    · rw [if_pos (show (57 : Int32) < nI c from nI_lt (a := 57) c2 (by omega)), if_neg (by omega)]
    · rw [if_neg (show ¬ (57 : Int32) < nI c from nI_nlt (a := 57) (by omega) (by omega)), if_pos (by omega)]
theorem skip_at {mn : Nat} {tv : Nat → Nat} {f m : Nat → Int32} (hT : RTape mn tv f m) (h120 : mn ≤ 120) : ∀ (j p : Nat), p + j = mn → ∃ q, p ≤ q ∧ q ≤ mn ∧ (q < mn → tv q ≠ 32) ∧ (∀ K n, j < n → fX5_advance_0 (nI mn) f K n (nI p) = K (nI q)) ∧ (∀ K n, j < n → fX7_advance_5 (nI mn) m K n (nI p) = K (nI q)) := by
  intro j
  induction j with
  | zero =>
    intro p h
    obtain rfl : p = mn := by omega
    refine ⟨p, by omega, by omega, fun z => absurd z (by omega), fun K n hn => ?_, fun K n hn => ?_⟩
    · obtain ⟨n, rfl⟩ : ∃ x, n = x + 1 := ⟨n - 1, by omega⟩
      rw [fX5_advance_0, if_pos (nI_le (Nat.le_refl _) (by omega))]
    · obtain ⟨n, rfl⟩ : ∃ x, n = x + 1 := ⟨n - 1, by omega⟩
      rw [fX7_advance_5, if_pos (nI_le (Nat.le_refl _) (by omega))]
  | succ j ih =>
    intro p h
    have hp : p < mn := by omega
    obtain ⟨t0, t1, t2⟩ := hT p hp
    by_cases c : tv p = 32
    · obtain ⟨q, q1, q2, q3, q4, q5⟩ := ih (p + 1) (by omega)
      refine ⟨q, by omega, q2, q3, fun K n hn => ?_, fun K n hn => ?_⟩
      · obtain ⟨n, rfl⟩ : ∃ x, n = x + 1 := ⟨n - 1, by omega⟩
        rw [fX5_advance_0, if_neg (nI_ge hp (by omega)), ixN (by omega) (by decide), gdT, cl _ (by omega), t1, if_pos (show nI (tv p) = 32 by rw [c]; rfl), nI_1]
        exact q4 K n (by omega)
      · obtain ⟨n, rfl⟩ : ∃ x, n = x + 1 := ⟨n - 1, by omega⟩
        rw [fX7_advance_5, if_neg (nI_ge hp (by omega)), ixN (by omega) (by decide), gdT, cl _ (by omega), t2, if_pos (show nI (tv p) = 32 by rw [c]; rfl), nI_1]
        exact q5 K n (by omega)
    · have c' : ¬ nI (tv p) = 32 := nI_neq (b := 32) c (by omega) (by omega)
      refine ⟨p, by omega, by omega, fun _ => c, fun K n hn => ?_, fun K n hn => ?_⟩
      · obtain ⟨n, rfl⟩ : ∃ x, n = x + 1 := ⟨n - 1, by omega⟩
        rw [fX5_advance_0, if_neg (nI_ge hp (by omega)), ixN (by omega) (by decide), gdT, cl _ (by omega), t1, if_neg c']
      · obtain ⟨n, rfl⟩ : ∃ x, n = x + 1 := ⟨n - 1, by omega⟩
        rw [fX7_advance_5, if_neg (nI_ge hp (by omega)), ixN (by omega) (by decide), gdT, cl _ (by omega), t2, if_neg c']
def WV (tv : Nat → Nat) (q : Nat) : Nat → Nat
  | 0 => 0
  | L + 1 => if 5 ≤ L then 0 else 27 * WV tv q L + tv (q + L) - 96
def DV (tv : Nat → Nat) (q : Nat) : Nat → Nat
  | 0 => 0
  | L + 1 => if 3 ≤ L then DV tv q L else 10 * DV tv q L + tv (q + L) - 48
theorem run_l {mn : Nat} {tv : Nat → Nat} {f m : Nat → Int32} (hT : RTape mn tv f m) (h120 : mn ≤ 120) (q : Nat) : ∀ (j b : Nat), b + j = mn → q ≤ b → ∃ e, b ≤ e ∧ e ≤ mn ∧ (∀ i, b ≤ i → i < e → ltr (tv i)) ∧ (∀ K n, j < n → fX5_advance_72 (nI mn) f K n (nI b) = K (nI e)) ∧ (∀ K n, j < n → fX7_advance_73 (nI mn) (nI q) m K n (nI b) (nI (WV tv q (b - q))) = K (nI e) (nI (WV tv q (e - q)))) := by
  intro j
  induction j with
  | zero =>
    intro b h hq
    obtain rfl : b = mn := by omega
    refine ⟨b, by omega, by omega, fun i h1 h2 => absurd h1 (by omega), fun K n hn => ?_, fun K n hn => ?_⟩
    · obtain ⟨n, rfl⟩ : ∃ x, n = x + 1 := ⟨n - 1, by omega⟩
      rw [fX5_advance_72, if_pos (nI_le (Nat.le_refl _) (by omega))]
    · obtain ⟨n, rfl⟩ : ∃ x, n = x + 1 := ⟨n - 1, by omega⟩
      rw [fX7_advance_73, if_pos (nI_le (Nat.le_refl _) (by omega))]
  | succ j ih =>
    intro b h hq
    have hb : b < mn := by omega
    obtain ⟨t0, t1, t2⟩ := hT b hb
    have lt7 : fX7_isLetter (nI (tv b)) = some (if ltr (tv b) then 1 else 0) := letter_at t0
    by_cases c : ltr (tv b)
    · obtain ⟨e, q1, q2, q3, q4, q5⟩ := ih (b + 1) (by omega) (by omega)
      refine ⟨e, by omega, q2, fun i h1 h2 => ?_, fun K n hn => ?_, fun K n hn => ?_⟩
      · by_cases z : i = b
        · rw [z]; exact c
        · exact q3 i (by omega) h2
      · obtain ⟨n, rfl⟩ : ∃ x, n = x + 1 := ⟨n - 1, by omega⟩
        rw [fX5_advance_72, if_neg (nI_ge hb (by omega)), ixN (by omega) (by decide), gdT, cl _ (by omega), t1, letter_at t0, bn1S, if_pos c, if_neg (by decide), nI_1]
        exact q4 K n (by omega)
      · obtain ⟨n, rfl⟩ : ∃ x, n = x + 1 := ⟨n - 1, by omega⟩
        have hc : 97 ≤ tv b := c.1
        rw [fX7_advance_73, if_neg (nI_ge hb (by omega)), ixN (by omega) (by decide), gdT, gdT, cl _ (by omega), t2, lt7, bn1S, if_pos c, if_neg (by decide), pk_sub hq]
        simp only [fX7_advance_125, nI_1]
        rw [← q5 K n (by omega), show b + 1 - q = (b - q) + 1 by omega, WV, show q + (b - q) = b by omega]
        by_cases c5 : 5 ≤ b - q
        · rw [if_pos (show (5 : Int32) ≤ nI (b - q) from nI_le (a := 5) c5 (by omega)), if_pos c5]; rfl
        · rw [if_neg (show ¬ (5 : Int32) ≤ nI (b - q) from nI_ge (b := 5) (by omega) (by omega)), if_neg c5, show (27 : Int32) * nI (WV tv q (b - q)) = nI (27 * WV tv q (b - q)) from pk_mul 27 _, nI_add, show nI (27 * WV tv q (b - q) + tv b) - 96 = nI (27 * WV tv q (b - q) + tv b - 96) from pk_sub (b := 96) (by omega)]
    · refine ⟨b, by omega, by omega, fun i h1 h2 => absurd h1 (by omega), fun K n hn => ?_, fun K n hn => ?_⟩
      · obtain ⟨n, rfl⟩ : ∃ x, n = x + 1 := ⟨n - 1, by omega⟩
        rw [fX5_advance_72, if_neg (nI_ge hb (by omega)), ixN (by omega) (by decide), gdT, cl _ (by omega), t1, letter_at t0, bn1S, if_neg c, if_pos rfl]
      · obtain ⟨n, rfl⟩ : ∃ x, n = x + 1 := ⟨n - 1, by omega⟩
        rw [fX7_advance_73, if_neg (nI_ge hb (by omega)), ixN (by omega) (by decide), gdT, cl _ (by omega), t2, lt7, bn1S, if_neg c, if_pos rfl]
theorem run_d {mn : Nat} {tv : Nat → Nat} {f m : Nat → Int32} (hT : RTape mn tv f m) (h120 : mn ≤ 120) (q : Nat) : ∀ (j b : Nat), b + j = mn → q ≤ b → ∃ e, b ≤ e ∧ e ≤ mn ∧ (∀ i, b ≤ i → i < e → dgt (tv i)) ∧ (∀ K n, j < n → fX5_advance_137 (nI mn) f K n (nI b) = K (nI e)) ∧ (∀ K n, j < n → fX7_advance_176 (nI mn) (nI q) m K n (nI b) (nI (DV tv q (b - q))) = K (nI e) (nI (DV tv q (e - q)))) := by
  intro j
  induction j with
  | zero =>
    intro b h hq
    obtain rfl : b = mn := by omega
    refine ⟨b, by omega, by omega, fun i h1 h2 => absurd h1 (by omega), fun K n hn => ?_, fun K n hn => ?_⟩
    · obtain ⟨n, rfl⟩ : ∃ x, n = x + 1 := ⟨n - 1, by omega⟩
      rw [fX5_advance_137, if_pos (nI_le (Nat.le_refl _) (by omega))]
    · obtain ⟨n, rfl⟩ : ∃ x, n = x + 1 := ⟨n - 1, by omega⟩
      rw [fX7_advance_176, if_pos (nI_le (Nat.le_refl _) (by omega))]
  | succ j ih =>
    intro b h hq
    have hb : b < mn := by omega
    obtain ⟨t0, t1, t2⟩ := hT b hb
    have lt7 : fX7_isDigit (nI (tv b)) = some (if dgt (tv b) then 1 else 0) := digit_at t0
    by_cases c : dgt (tv b)
    · obtain ⟨e, q1, q2, q3, q4, q5⟩ := ih (b + 1) (by omega) (by omega)
      refine ⟨e, by omega, q2, fun i h1 h2 => ?_, fun K n hn => ?_, fun K n hn => ?_⟩
      · by_cases z : i = b
        · rw [z]; exact c
        · exact q3 i (by omega) h2
      · obtain ⟨n, rfl⟩ : ∃ x, n = x + 1 := ⟨n - 1, by omega⟩
        rw [fX5_advance_137, if_neg (nI_ge hb (by omega)), ixN (by omega) (by decide), gdT, cl _ (by omega), t1, digit_at t0, bn1S, if_pos c, if_neg (by decide), nI_1]
        exact q4 K n (by omega)
      · obtain ⟨n, rfl⟩ : ∃ x, n = x + 1 := ⟨n - 1, by omega⟩
        have hc : 48 ≤ tv b := c.1
        rw [fX7_advance_176, if_neg (nI_ge hb (by omega)), ixN (by omega) (by decide), gdT, gdT, cl _ (by omega), t2, lt7, bn1S, if_pos c, if_neg (by decide), pk_sub hq]
        simp only [fX7_advance_231, nI_1]
        rw [← q5 K n (by omega), show b + 1 - q = (b - q) + 1 by omega, DV, show q + (b - q) = b by omega]
        by_cases c5 : 3 ≤ b - q
        · rw [if_pos (show (3 : Int32) ≤ nI (b - q) from nI_le (a := 3) c5 (by omega)), if_pos c5]
        · rw [if_neg (show ¬ (3 : Int32) ≤ nI (b - q) from nI_ge (b := 3) (by omega) (by omega)), if_neg c5, show (10 : Int32) * nI (DV tv q (b - q)) = nI (10 * DV tv q (b - q)) from pk_mul 10 _, nI_add, show nI (10 * DV tv q (b - q) + tv b) - 48 = nI (10 * DV tv q (b - q) + tv b - 48) from pk_sub (b := 48) (by omega)]
    · refine ⟨b, by omega, by omega, fun i h1 h2 => absurd h1 (by omega), fun K n hn => ?_, fun K n hn => ?_⟩
      · obtain ⟨n, rfl⟩ : ∃ x, n = x + 1 := ⟨n - 1, by omega⟩
        rw [fX5_advance_137, if_neg (nI_ge hb (by omega)), ixN (by omega) (by decide), gdT, cl _ (by omega), t1, digit_at t0, bn1S, if_neg c, if_pos rfl]
      · obtain ⟨n, rfl⟩ : ∃ x, n = x + 1 := ⟨n - 1, by omega⟩
        rw [fX7_advance_176, if_neg (nI_ge hb (by omega)), ixN (by omega) (by decide), gdT, cl _ (by omega), t2, lt7, bn1S, if_neg c, if_pos rfl]
/-- a token: where it stands, where it ends, its kind and its value -/
def Tok (mn : Nat) (tv : Nat → Nat) (q e k v : Nat) : Prop := (q = mn ∧ e = mn ∧ k = 0 ∧ v = 0) ∨ (q < mn ∧ q < e ∧ e ≤ mn ∧ k = 1 ∧ (∀ i, q ≤ i → i < e → ltr (tv i)) ∧ v = (if e - q ≤ 5 then WV tv q (e - q) else 0)) ∨ (q < mn ∧ q < e ∧ e ≤ mn ∧ k = 2 ∧ (∀ i, q ≤ i → i < e → dgt (tv i)) ∧ v = DV tv q (e - q)) ∨ (q < mn ∧ e = q + 1 ∧ k = 3 ∧ ¬ ltr (tv q) ∧ ¬ dgt (tv q) ∧ v = tv q)
theorem tok_at {mn : Nat} {tv : Nat → Nat} {f m : Nat → Int32} (hT : RTape mn tv f m) (h120 : mn ≤ 120) {p : Nat} (hp : p ≤ mn) : ∃ q e k v, p ≤ q ∧ Tok mn tv q e k v ∧ (∀ x, fX5_advance (nI mn) x (nI p) f = some (if q < mn then 1 else 0, nI q, nI e)) ∧ (∀ x y z, fX7_advance (nI mn) x y (nI p) z m = some (nI k, nI q, nI e, nI v)) := by
  obtain ⟨q, q1, q2, q3, q4, q5⟩ := skip_at hT h120 (mn - p) p (by omega)
  have hF : mn - p < FU := by rw [FU_eq]; omega
  have A : ∀ x K, fX5_advance (nI mn) x (nI p) f = K → fX5_advance (nI mn) x (nI p) f = K := fun _ _ z => z
  have e197 : ∀ e, fX5_advance_197 (nI mn) (nI q) (nI e) = some (if q < mn then 1 else 0, nI q, nI e) := by
    intro e
    unfold fX5_advance_197 fX5_isAtEnd
    by_cases c : q < mn
    · rw [if_pos (nI_lt c (by omega)), bn1S, if_pos rfl, if_pos c]
    · rw [if_neg (nI_nlt (by omega) (by omega)), bn1S, if_neg (by decide), if_neg c]
  have s6 : ∀ x, fX5_advance (nI mn) x (nI p) f = fX5_advance_38 (nI mn) (nI q) f := fun x => by rw [fX5_advance, q4 _ _ hF]
  have s7 : ∀ x y z, fX7_advance (nI mn) x y (nI p) z m = fX7_advance_30 (nI q) (nI mn) m := fun x y z => by rw [fX7_advance, q5 _ _ hF]
  by_cases c : q < mn
  · obtain ⟨t0, t1, t2⟩ := hT q c
    have hF2 : mn - q < FU := by rw [FU_eq]; omega
    have l7 : fX7_isLetter (nI (tv q)) = some (if ltr (tv q) then 1 else 0) := letter_at t0
    have d7 : fX7_isDigit (nI (tv q)) = some (if dgt (tv q) then 1 else 0) := digit_at t0
    have ne : ¬ nI q = nI mn := nI_neq (by omega) (by omega) (by omega)
    by_cases cl1 : ltr (tv q)
    · obtain ⟨e, r1, r2, r3, r4, r5⟩ := run_l hT h120 q (mn - q) q (by omega) (Nat.le_refl _)
      have he : q < e := by
        rcases Nat.lt_or_ge q e with z | z
        · exact z
        · exfalso
          obtain rfl : e = q := by omega
          have := r4 (fun b => if b = nI e then none else some (0, 0, 0)) (mn - e + 1 + 1) (by omega)
          rw [fX5_advance_72, if_neg (nI_ge c (by omega)), ixN (by omega) (by decide), gdT, cl _ (by omega), t1, letter_at t0, bn1S, if_pos cl1, if_neg (by decide), nI_1] at this
          obtain ⟨e', w1, w2, w3, w4, w5⟩ := run_l hT h120 e (mn - (e + 1)) (e + 1) (by omega) (by omega)
          rw [w4 _ _ (by omega)] at this
          simp only [if_true] at this
          rw [if_neg (nI_neq (by omega) (by omega) (by omega))] at this
          exact absurd this (by simp)
      refine ⟨q, e, 1, if e - q ≤ 5 then WV tv q (e - q) else 0, q1, Or.inr (Or.inl ⟨c, he, r2, rfl, r3, rfl⟩), fun x => ?_, fun x y z => ?_⟩
      · rw [s6, fX5_advance_38, if_neg (nI_ge c (by omega)), ixN (by omega) (by decide), gdT, cl _ (by omega), t1, letter_at t0, bn1S, if_pos cl1, if_neg (by decide), r4 _ _ hF2, e197]
      · rw [s7, fX7_advance_30, if_neg ne, ixN (by omega) (by decide), gdT, cl _ (by omega), t2, l7, bn1S, if_pos cl1, if_neg (by decide)]
        have := r5 (fun v1 v => fX7_advance_134 v1 1 (nI q) v) FU hF2
        rw [Nat.sub_self] at this
        refine Eq.trans this ?_
        simp only [fX7_advance_134, fX7_advance_153, fX7_advance_258]
        rw [pk_sub (by omega)]
        by_cases c5 : e - q ≤ 5
        · rw [if_pos (show nI (e - q) ≤ 5 from nI_le (b := 5) c5 (by decide)), if_pos c5]; rfl
        · rw [if_neg (show ¬ nI (e - q) ≤ 5 from nI_ge (a := 5) (by omega) (by omega)), if_neg c5]; rfl
    · by_cases cd1 : dgt (tv q)
      · obtain ⟨e, r1, r2, r3, r4, r5⟩ := run_d hT h120 q (mn - q) q (by omega) (Nat.le_refl _)
        have he : q < e := by
          rcases Nat.lt_or_ge q e with z | z
          · exact z
          · exfalso
            obtain rfl : e = q := by omega
            have := r4 (fun b => if b = nI e then none else some (0, 0, 0)) (mn - e + 1 + 1) (by omega)
            rw [fX5_advance_137, if_neg (nI_ge c (by omega)), ixN (by omega) (by decide), gdT, cl _ (by omega), t1, digit_at t0, bn1S, if_pos cd1, if_neg (by decide), nI_1] at this
            obtain ⟨e', w1, w2, w3, w4, w5⟩ := run_d hT h120 e (mn - (e + 1)) (e + 1) (by omega) (by omega)
            rw [w4 _ _ (by omega)] at this
            simp only [if_true] at this
            rw [if_neg (nI_neq (by omega) (by omega) (by omega))] at this
            exact absurd this (by simp)
        refine ⟨q, e, 2, DV tv q (e - q), q1, Or.inr (Or.inr (Or.inl ⟨c, he, r2, rfl, r3, rfl⟩)), fun x => ?_, fun x y z => ?_⟩
        · rw [s6, fX5_advance_38, if_neg (nI_ge c (by omega)), ixN (by omega) (by decide), gdT, cl _ (by omega), t1, letter_at t0, bn1S, if_neg cl1, if_pos rfl, fX5_advance_111, if_neg (nI_ge c (by omega)), ixN (by omega) (by decide), gdT, cl _ (by omega), t1, digit_at t0, bn1S, if_pos cd1, if_neg (by decide), r4 _ _ hF2, e197]
        · rw [s7, fX7_advance_30, if_neg ne, ixN (by omega) (by decide), gdT, cl _ (by omega), t2, l7, bn1S, if_neg cl1, if_pos rfl, gdT, d7, bn1S, if_pos cd1, if_neg (by decide)]
          have := r5 (fun v1 v => fX7_advance_258 v1 2 (nI q) v) FU hF2
          rw [Nat.sub_self] at this
          refine Eq.trans this ?_
          rfl
      · refine ⟨q, q + 1, 3, tv q, q1, Or.inr (Or.inr (Or.inr ⟨c, rfl, rfl, cl1, cd1, rfl⟩)), fun x => ?_, fun x y z => ?_⟩
        · rw [s6, fX5_advance_38, if_neg (nI_ge c (by omega)), ixN (by omega) (by decide), gdT, cl _ (by omega), t1, letter_at t0, bn1S, if_neg cl1, if_pos rfl, fX5_advance_111, if_neg (nI_ge c (by omega)), ixN (by omega) (by decide), gdT, cl _ (by omega), t1, digit_at t0, bn1S, if_neg cd1, if_pos rfl, fX5_advance_176, if_neg (nI_ge c (by omega)), nI_1, e197]
        · rw [s7, fX7_advance_30, if_neg ne, ixN (by omega) (by decide), gdT, cl _ (by omega), t2, l7, bn1S, if_neg cl1, if_pos rfl, gdT, d7, bn1S, if_neg cd1, if_pos rfl, gdT, nI_1]
          rfl
  · obtain rfl : q = mn := by omega
    refine ⟨q, q, 0, 0, q1, Or.inl ⟨rfl, rfl, rfl, rfl⟩, fun x => ?_, fun x y z => ?_⟩
    · rw [s6, fX5_advance_38, if_pos (nI_le (Nat.le_refl _) (by omega)), fX5_advance_111, if_pos (nI_le (Nat.le_refl _) (by omega)), fX5_advance_176, if_pos (nI_le (Nat.le_refl _) (by omega)), e197]
    · rw [s7, fX7_advance_30, if_pos rfl]
      rfl
