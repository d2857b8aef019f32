theorem DV_le {tv : Nat → Nat} {q : Nat} : ∀ L, (∀ i, i < L → dgt (tv (q + i))) → (L = 0 → DV tv q L = 0) ∧ (L = 1 → DV tv q L ≤ 9) ∧ (L = 2 → DV tv q L ≤ 99) ∧ DV tv q L ≤ 999 := by
  intro L
  induction L with
  | zero => intro h; exact ⟨fun _ => rfl, fun z => absurd z (by omega), fun z => absurd z (by omega), by show 0 ≤ 999; omega⟩
  | succ L ih =>
    intro h
    obtain ⟨a, b, c, d⟩ := ih (fun i hi => h i (by omega))
    have hL := h L (by omega)
    have h1 : 48 ≤ tv (q + L) := hL.1
    have h2 : tv (q + L) ≤ 57 := hL.2
    rw [DV]
    by_cases c3 : 3 ≤ L
    · rw [if_pos c3]
      exact ⟨fun z => absurd z (by omega), fun z => absurd z (by omega), fun z => absurd z (by omega), d⟩
    · rw [if_neg c3]
      rcases (show L = 0 ∨ L = 1 ∨ L = 2 by omega) with z | z | z
      · have := a z
        exact ⟨by omega, by omega, by omega, by omega⟩
      · have := b z
        exact ⟨by omega, by omega, by omega, by omega⟩
      · have := c z
        exact ⟨by omega, by omega, by omega, by omega⟩
theorem Tok_e {mn q e k v : Nat} {tv : Nat → Nat} (h : Tok mn tv q e k v) : q ≤ e ∧ e ≤ mn ∧ q ≤ mn ∧ (k = 0 ↔ q = mn) := by
  rcases h with ⟨a, b, c, d⟩ | ⟨a, b, c, d, -⟩ | ⟨a, b, c, d, -⟩ | ⟨a, b, c, -⟩
  · omega
  · omega
  · omega
  · omega
theorem number_at {mn q e k v : Nat} {tv : Nat → Nat} {f m : Nat → Int32} (hT : RTape mn tv f m) (h120 : mn ≤ 120) (h : Tok mn tv q e k v) : fX5_number (nI mn) (nI q) (nI e) f = some (if k = 2 ∧ e - q ≤ 3 then nI v else -3) := by
  obtain ⟨z1, z2, z3, z4⟩ := Tok_e h
  unfold fX5_number fX5_isAtEnd
  by_cases c : q < mn
  · obtain ⟨t0, t1, t2⟩ := hT q c
    rw [if_pos (nI_lt c (by omega)), bn1S, if_pos rfl, ixN (by omega) (by decide), gdT, cl _ (by omega), t1, digit_at t0, bn1S]
    rcases h with ⟨a, -⟩ | ⟨-, b1, -, b2, b3, -⟩ | ⟨-, b1, b4, b2, b3, b5⟩ | ⟨-, -, b2, -, b3, -⟩
    · omega
    · have hq := b3 q (Nat.le_refl _) b1
      rw [if_neg (show ¬ dgt (tv q) from fun z => by have := hq.1; have := z.2; omega), if_pos rfl, if_neg (by omega)]
    · rw [if_pos (b3 q (Nat.le_refl _) b1), if_neg (by decide), pk_sub z1]
      by_cases c3 : e - q ≤ 3
      · rw [if_pos (show nI (e - q) ≤ 3 from nI_le (b := 3) c3 (by decide)), if_pos ⟨b2, c3⟩]
        have main := loopK (σ := Int32) (fun n i a => fX5_number_45 (nI mn) (nI e) f n a i) e (fun b a => q ≤ b ∧ a = nI (DV tv q (b - q))) (fun a => some a) ?_ ?_ (e - q) q FU 0 (by omega) ⟨Nat.le_refl _, by rw [Nat.sub_self]; rfl⟩ (by rw [FU_eq]; omega)
        · obtain ⟨a, q1, q2⟩ := main
          rw [show fX5_number_45 (nI mn) (nI e) f FU 0 (nI q) = some a from q2, q1.2, b5]
        · intro n a ha
          show fX5_number_45 _ _ _ (n + 1) a (nI e) = _
          rw [fX5_number_45, if_pos (nI_le (Nat.le_refl _) (by omega))]
        · intro n b a hb ha
          obtain ⟨cq, ha⟩ := ha
          obtain ⟨u0, u1, u2⟩ := hT b (by omega)
          have hd := b3 b cq hb
          have hd1 : 48 ≤ tv b := hd.1
          refine ⟨nI (DV tv q (b + 1 - q)), ?_, by omega, rfl⟩
          show fX5_number_45 _ _ _ (n + 1) a (nI b) = _
          rw [fX5_number_45, if_neg (nI_ge hb (by omega)), if_neg (nI_ge (show b < mn by omega) (by omega)), ixN (by omega) (by decide), gdT, cl _ (by omega), u1, ha, show nI (tv b) - 48 = nI (tv b - 48) from pk_sub (b := 48) (by omega), show nI (DV tv q (b - q)) * 10 = nI (DV tv q (b - q) * 10) from pk_mul _ 10, nI_add, nI_1, show b + 1 - q = (b - q) + 1 by omega, DV, if_neg (by omega), show q + (b - q) = b by omega]
          congr 2
          omega
      · rw [if_neg (show ¬ nI (e - q) ≤ 3 from nI_ge (a := 3) (by omega) (by omega)), if_neg (fun z => c3 z.2)]
    · rw [if_neg b3, if_pos rfl, if_neg (by omega)]
  · rw [if_neg (nI_nlt (by omega) (by omega)), bn1S, if_neg (by decide), if_neg]
    have : k = 0 := z4.2 (by omega)
    omega
def chN (k i : Nat) : Nat := (((sByt.getD k []).getD i 0) &&& 255).toNatClampNeg
def lnN (k : Nat) : Nat := sLen.getD k 0
def Says (tv : Nat → Nat) (q e k : Nat) : Prop := e - q = lnN k ∧ ∀ j, j < lnN k → tv (q + j) = chN k j
theorem ch_at (k i : Nat) (hi : i < 2 ^ 31) : sch k (nI i) = nI (chN k i) ∧ chN k i ≤ 255 := by
  unfold sch chN
  rw [cl i hi]
  obtain ⟨v, hv, e⟩ := and255 ((sByt.getD k []).getD i 0)
  rw [e, cl v (by omega)]
  exact ⟨rfl, hv⟩
theorem says_at {mn q e : Nat} {tv : Nat → Nat} {f m : Nat → Int32} (hT : RTape mn tv f m) (h120 : mn ≤ 120) (h1 : q ≤ e) (h2 : e ≤ mn) (k : Nat) (hk : k < 7) : fX5_says k (nI mn) (nI q) (nI e) f = some (@ite Int32 (Says tv q e k) (Classical.propDecidable _) 1 0) := by
  have hs : sok k = true := decide_eq_true hk
  have hl : lnN k ≤ 4 := by
    rcases (show k = 0 ∨ k = 1 ∨ k = 2 ∨ k = 3 ∨ k = 4 ∨ k = 5 ∨ k = 6 by omega) with rfl | rfl | rfl | rfl | rfl | rfl | rfl <;> decide
  have sl : slen k = nI (lnN k) := rfl
  unfold fX5_says
  rw [gdt hs, pk_sub h1, sl]
  by_cases c : e - q = lnN k
  · rw [if_pos (by rw [c])]
    have main : ∀ (r j n : Nat), j + r = lnN k → r < n → fX5_says_20 k (nI mn) (nI q) f n (nI j) = some (@ite Int32 (∀ i, j ≤ i → i < lnN k → tv (q + i) = chN k i) (Classical.propDecidable _) 1 0) := by
      intro r
      induction r with
      | zero =>
        intro j n a1 a2
        obtain ⟨n, rfl⟩ : ∃ x, n = x + 1 := ⟨n - 1, by omega⟩
        rw [fX5_says_20, gdt hs, sl, if_pos (nI_le (by omega) (by omega)), if_pos (fun i x y => absurd y (by omega))]
      | succ r ih =>
        intro j n a1 a2
        obtain ⟨n, rfl⟩ : ∃ x, n = x + 1 := ⟨n - 1, by omega⟩
        obtain ⟨t0, t1, t2⟩ := hT (q + j) (by omega)
        obtain ⟨u1, u2⟩ := ch_at k j (by omega)
        have sc : sck k (nI j) = true := by
          unfold sck
          rw [Bool.and_eq_true]
          exact ⟨decide_eq_true hk, ixN (show j < lnN k by omega) (by show lnN k < 2 ^ 31; omega)⟩
        rw [fX5_says_20, gdt hs, sl, if_neg (nI_ge (by omega) (by omega)), nI_add, if_neg (nI_ge (show q + j < mn by omega) (by omega)), ixN (by omega) (by decide), gdT, gdt sc, cl _ (by omega), t1, u1, nI_1, ih (j + 1) n (by omega) (by omega)]
        by_cases d : tv (q + j) = chN k j
        · rw [if_pos (by rw [d])]
          by_cases d2 : ∀ i, j + 1 ≤ i → i < lnN k → tv (q + i) = chN k i
          · rw [if_pos d2, if_pos]
            intro i x y
            by_cases z : i = j
            · rw [z]; exact d
            · exact d2 i (by omega) y
          · rw [if_neg d2, if_neg (fun z => d2 (fun i x y => z i (by omega) y))]
        · rw [if_neg (nI_neq d (by omega) (by omega)), if_neg (fun z => d (z j (Nat.le_refl _) (by omega)))]
    rw [show fX5_says_20 k (nI mn) (nI q) f FU 0 = _ from main (lnN k) 0 FU (by omega) (by rw [FU_eq]; omega)]
    by_cases d : ∀ i, 0 ≤ i → i < lnN k → tv (q + i) = chN k i
    · rw [if_pos d, if_pos ⟨c, fun j hj => d j (by omega) hj⟩]
    · rw [if_neg d, if_neg (fun z => d (fun i _ y => z.2 i y))]
  · rw [if_neg (nI_neq c (by omega) (by omega)), if_neg (fun z => c z.1)]
