/-! THE PLAN: the arcs that the class lays -/
def stN (f : Nat → Nat) (k v : Nat) : Nat → Nat := fun j => if j = k then v else f j
theorem stN_same (f : Nat → Nat) (k v : Nat) : stN f k v k = v := if_pos rfl
theorem stN_ne (f : Nat → Nat) {k j : Nat} (v : Nat) (h : j ≠ k) : stN f k v j = f j := if_neg h
/-- P pairs are laid: from, to, cost and room -/
def Laid (P : Nat) (fr to c u : Nat → Nat) (fs fe fc fm : Nat → Int32) : Prop := ∀ i, i < P → (fr i < 30 ∧ to i < 30 ∧ c i ≤ 99 ∧ u i ≤ 1000) ∧ (fs (2 * i) = nI (fr i) ∧ fe (2 * i) = nI (to i) ∧ fc (2 * i) = nI (c i) ∧ fm (2 * i) = nI (u i)) ∧ (fs (2 * i + 1) = nI (to i) ∧ fe (2 * i + 1) = nI (fr i) ∧ fc (2 * i + 1) = zI (-(c i : Int)) ∧ fm (2 * i + 1) = nI 0)
theorem isKnot_at {k : Nat} (hk : k < 30) : fX3_isKnot (nI k) = some 1 := by
  rw [fX3_isKnot, fX6_isWithin, if_neg (show ¬ nI k < 0 from nI_nlt (b := 0) (by omega) (by omega)), if_neg (show ¬ (29 : Int32) < nI k from nI_nlt (a := 29) (by omega) (by omega))]
  rfl
theorem lay_at {P a b co ro : Nat} {fr to c u : Nat → Nat} {fs fe fc fm : Nat → Int32} (h : Laid P fr to c u fs fe fc fm) (hP : P < 74) (ha : a < 30) (hb : b < 30) (hco : co ≤ 99) (hro : ro ≤ 1000) : ∃ fs' fe' fc' fm', fX3_layArc (nI a) (nI b) (nI co) (nI ro) (nI (2 * P)) fs fe fc fm = some (nI (2 * (P + 1)), fs', fe', fc', fm') ∧ Laid (P + 1) (stN fr P a) (stN to P b) (stN c P co) (stN u P ro) fs' fe' fc' fm' := by
  have neg : -nI co = zI (-(co : Int)) := by
    rw [← Int32.zero_sub, zI_nI, show (0 : Int32) = zI 0 from rfl, zI_sub, Int.zero_sub]
  refine ⟨upd (upd fs (2 * P) (nI a)) (2 * P + 1) (nI b), upd (upd fe (2 * P) (nI b)) (2 * P + 1) (nI a), upd (upd fc (2 * P) (nI co)) (2 * P + 1) (zI (-(co : Int))), upd (upd fm (2 * P) (nI ro)) (2 * P + 1) (nI 0), ?_, ?_⟩
  · rw [fX3_layArc, nI_1, if_neg (show ¬ (148 : Int32) ≤ nI (2 * P + 1) from nI_ge (b := 148) (by omega) (by omega)), isKnot_at ha, bn1S, if_neg (by decide), isKnot_at hb, bn1S, if_neg (by decide), fX3_putArc, ixN (show 2 * P < 148 by omega) (by decide)]
    simp only [gdT]
    rw [cl _ (by omega), bn4S, fX3_putArc, ixN (show 2 * P + 1 < 148 by omega) (by decide)]
    simp only [gdT]
    rw [cl _ (by omega), bn4S, neg, show nI (2 * P) + 2 = nI (2 * P + 2) from nI_add _ 2]
    rfl
  · intro i hi
    by_cases e : i = P
    · subst e
      rw [stN_same, stN_same, stN_same, stN_same]
      refine ⟨⟨ha, hb, hco, hro⟩, ⟨?_, ?_, ?_, ?_⟩, ⟨upd_same _ _ _, upd_same _ _ _, upd_same _ _ _, upd_same _ _ _⟩⟩
      · rw [upd_ne _ _ (by omega), upd_same]
      · rw [upd_ne _ _ (by omega), upd_same]
      · rw [upd_ne _ _ (by omega), upd_same]
      · rw [upd_ne _ _ (by omega), upd_same]
    · rw [stN_ne _ _ e, stN_ne _ _ e, stN_ne _ _ e, stN_ne _ _ e]
      have k : ∀ (f : Nat → Int32) (v w : Int32) (j : Nat), j < 2 * P → upd (upd f (2 * P) v) (2 * P + 1) w j = f j := fun f v w j hj => by rw [upd_ne _ _ (by omega), upd_ne _ _ (by omega)]
      rw [k _ _ _ (2 * i) (by omega), k _ _ _ (2 * i) (by omega), k _ _ _ (2 * i) (by omega), k _ _ _ (2 * i) (by omega), k _ _ _ (2 * i + 1) (by omega), k _ _ _ (2 * i + 1) (by omega), k _ _ _ (2 * i + 1) (by omega), k _ _ _ (2 * i + 1) (by omega)]
      exact h i (by omega)
theorem isum_lay {P : Nat} {fr to c u : Nat → Nat} {a b co ro : Nat} (F : Nat → Nat → Nat → Nat → Int) : isum (P + 1) (fun i => F (stN fr P a i) (stN to P b i) (stN c P co i) (stN u P ro i)) = isum P (fun i => F (fr i) (to i) (c i) (u i)) + F a b co ro := by
  rw [isum, stN_same, stN_same, stN_same, stN_same]
  congr 1
  apply isum_eq
  intro i hi
  rw [stN_ne _ _ (by omega), stN_ne _ _ (by omega), stN_ne _ _ (by omega), stN_ne _ _ (by omega)]
