/-! THE PLAN: a send of the class -/
theorem nI_subN {a b : Nat} (h : b ≤ a) : nI a - nI b = nI (a - b) := by
  rw [zI_nI a, zI_nI b, zI_sub, zI_nI (a - b)]
  congr 1
  omega
theorem mate_at : ∀ a, a < 148 → nI a ^^^ 1 = nI (mate a) := by
  have h : ∀ a : Fin 148, nI a.1 ^^^ 1 = nI (mate a.1) := by decide +kernel
  exact fun a ha => h ⟨a, ha⟩
theorem imin_at {a b : Nat} (ha : a < 2 ^ 31) (hb : b < 2 ^ 31) : imin (nI a) (nI b) = nI (min a b) := by
  unfold imin
  by_cases c : b < a
  · rw [if_pos (nI_lt c ha), Nat.min_eq_right (by omega)]
  · rw [if_neg (nI_nlt (by omega) (by omega)), Nat.min_eq_left (by omega)]
theorem woI_neg : woI none < 0 := by decide
theorem woI_pos {a : Nat} (h : a < 2 ^ 31) : ¬ woI (some a) < 0 := nI_nlt (b := 0) (by omega) (by omega)
/-- how many boxes can go -/
theorem boxes_at {P : Nat} {fr to c rm um : Nat → Nat} {g : Nat → Int} {wy : Nat → Option Nat} {fe fm fw fu : Nat → Int32} (hP : P ≤ 74) (hft : ∀ a, a < 2 * P → dS to fr a < 30 ∧ rm a ≤ 1000 ∧ fe a = nI (dS to fr a) ∧ fm a = nI (rm a)) (hk : ∀ k, k < 30 → um k ≤ 1000 ∧ fu k = nI (um k) ∧ fw k = woI (wy k)) (hw : ∀ x a, x < 30 → wy x = some a → a < 2 * P ∧ 0 < rm a ∧ g x = g (dS to fr a) - dC c a) : ∀ (n v bb step m : Nat), chn (dS to fr) wy n v → v < 30 → step + n ≤ 29 → n < m → 0 < bb → bb ≤ 1000 → ∃ r, fX3_boxesThatGo_12 fe fm fw (fun a b => fX3_boxesThatGo_62 a b fu) m (nI bb) (nI v) (nI step) = some (nI r) ∧ 0 < r ∧ r ≤ bb ∧ Thr 30 P fr to c r g wy rm (fun e => um e = 0 ∨ r ≤ um e) n v := by
  intro n
  induction n with
  | zero =>
    intro v bb step m hc hv hs hm hb0 hb1
    obtain ⟨m, rfl⟩ : ∃ x, m = x + 1 := ⟨m - 1, by omega⟩
    obtain ⟨k1, k2, k3⟩ := hk v hv
    have hc : wy v = none := hc
    have body : fX3_boxesThatGo_12 fe fm fw (fun a b => fX3_boxesThatGo_62 a b fu) (m + 1) (nI bb) (nI v) (nI step) = fX3_boxesThatGo_62 (nI bb) (nI v) fu := by
      rw [fX3_boxesThatGo_12, if_neg (show ¬ (30 : Int32) ≤ nI step from nI_ge (b := 30) (by omega) (by omega)), ixN hv (by decide), gdT, cl v (by omega), k3, hc, if_pos woI_neg]
    rw [body, fX3_boxesThatGo_62, ixN hv (by decide)]
    simp only [gdT, cl v (show v < 2 ^ 31 by omega), k2]
    by_cases e : um v = 0
    · rw [if_pos (show nI (um v) ≤ 0 from nI_le (b := 0) (by omega) (by decide))]
      exact ⟨bb, rfl, hb0, Nat.le_refl _, hc, Or.inl e⟩
    · rw [if_neg (show ¬ nI (um v) ≤ 0 from nI_ge (a := 0) (by omega) (by omega)), imin_at (by omega) (by omega)]
      exact ⟨min bb (um v), rfl, by omega, by omega, hc, Or.inr (by omega)⟩
  | succ n ih =>
    intro v bb step m hc hv hs hm hb0 hb1
    obtain ⟨m, rfl⟩ : ∃ x, m = x + 1 := ⟨m - 1, by omega⟩
    obtain ⟨k1, k2, k3⟩ := hk v hv
    obtain ⟨a, ha, hc'⟩ := hc
    obtain ⟨w1, w2, w3⟩ := hw v a hv ha
    obtain ⟨f1, f2, f3, f4⟩ := hft a w1
    obtain ⟨r, r1, r2, r3, r4⟩ := ih (dS to fr a) (min bb (rm a)) (step + 1) m hc' f1 (by omega) (by omega) (by omega) (by omega)
    refine ⟨r, ?_, r2, by omega, a, ha, by omega, w3, f1, r4⟩
    rw [fX3_boxesThatGo_12, if_neg (show ¬ (30 : Int32) ≤ nI step from nI_ge (b := 30) (by omega) (by omega)), ixN hv (by decide), gdT, cl v (by omega), k3, ha, if_neg (woI_pos (by omega)), show woI (some a) = nI a from rfl, ixN (show a < 148 by omega) (by decide)]
    simp only [gdT, cl a (show a < 2 ^ 31 by omega), f3, f4, nI_1]
    rw [imin_at (by omega) (by omega)]
    exact r1
/-- the boxes go -/
theorem walk_at {P b k0 : Nat} {fr to c u rm0 : Nat → Nat} {g : Nat → Int} {wy : Nat → Option Nat} {Q : Nat → Prop} {fe fw : Nat → Int32} (K : Int32 → (Nat → Int32) → Option (Int32 × (Nat → Int32) × (Nat → Int32) × (Nat → Int32))) (hP : P ≤ 74) (hb : b ≤ 1000) (hu : ∀ i, i < P → u i ≤ 1000) (hft : ∀ a, a < 2 * P → fe a = nI (dS to fr a)) (hk : ∀ k, k < 30 → fw k = woI (wy k)) (hw : ∀ x a, x < 30 → wy x = some a → a < 2 * P ∧ dS fr to a = x) : ∀ (n v step m : Nat) (rm : Nat → Nat) (fm : Nat → Int32), Thr 30 P fr to c b g wy rm0 Q n v → v < 30 → step + n ≤ 29 → n < m → WK 30 P fr to c u b g wy k0 rm0 n v rm → (∀ a, a < 2 * P → fm a = nI (rm a)) → ∃ e rm' fm', fX3_sendFrom_11 (nI b) fe fw K m (nI v) (nI step) fm = K (nI e) fm' ∧ e < 30 ∧ wy e = none ∧ Q e ∧ WK 30 P fr to c u b g wy k0 rm0 0 e rm' ∧ ∀ a, a < 2 * P → fm' a = nI (rm' a) := by
  intro n
  induction n with
  | zero =>
    intro v step m rm fm hT hv hs hm hK hf
    obtain ⟨m, rfl⟩ : ∃ x, m = x + 1 := ⟨m - 1, by omega⟩
    obtain ⟨t1, t2⟩ := hT
    refine ⟨v, rm, fm, ?_, hv, t1, t2, hK, hf⟩
    rw [fX3_sendFrom_11, if_neg (show ¬ (30 : Int32) ≤ nI step from nI_ge (b := 30) (by omega) (by omega)), ixN hv (by decide), gdT, cl v (by omega), hk v hv, t1, if_pos woI_neg]
  | succ n ih =>
    intro v step m rm fm hT hv hs hm hK hf
    obtain ⟨m, rfl⟩ : ∃ x, m = x + 1 := ⟨m - 1, by omega⟩
    have hch := Thr_chn _ _ hT
    obtain ⟨a, t1, t2, t3, t4, t5⟩ := hT
    obtain ⟨w1, w2⟩ := hw v a hv t1
    obtain ⟨s1, s2⟩ := WK_step hw hK hv hch t1 t2 t3
    have ml := mate_lt w1
    have up : ∀ j, j < 2 * P → upd (upd fm a (nI (rm a - b))) (mate a) (nI (rm (mate a) + b)) j = nI (psh rm a b j) := by
      intro j hj
      by_cases e1 : j = mate a
      · rw [e1, upd_same, psh_m]
      · rw [upd_ne _ _ e1]
        by_cases e2 : j = a
        · rw [e2, upd_same, psh_a]
        · rw [upd_ne _ _ e2, psh_o rm e2 e1, hf j hj]
    obtain ⟨e, rm', fm', q1, q2⟩ := ih (dS to fr a) (step + 1) m (psh rm a b) (upd (upd fm a (nI (rm a - b))) (mate a) (nI (rm (mate a) + b))) t5 t4 (by omega) (by omega) s2 up
    refine ⟨e, rm', fm', ?_, q2⟩
    rw [fX3_sendFrom_11, if_neg (show ¬ (30 : Int32) ≤ nI step from nI_ge (b := 30) (by omega) (by omega)), ixN hv (by decide), gdT, cl v (by omega), hk v hv, t1, if_neg (woI_pos (by omega)), show woI (some a) = nI a from rfl, mate_at a (by omega), ixN (show a < 148 by omega) (by decide), ixN (show mate a < 148 by omega) (by decide)]
    simp only [gdT, cl a (show a < 2 ^ 31 by omega), cl (mate a) (show mate a < 2 ^ 31 by omega), hft a w1, nI_1]
    rw [upd_ne _ _ (mate_ne a), hf a w1, hf (mate a) ml, nI_subN s1, nI_add]
    exact q1
