/-! READ: a clause -/
theorem shl16 {w : Nat} (h : w < 16) : ishl 1 (nI w) = nI (2 ^ w) := by
  rcases (show w = 0 ∨ w = 1 ∨ w = 2 ∨ w = 3 ∨ w = 4 ∨ w = 5 ∨ w = 6 ∨ w = 7 ∨ w = 8 ∨ w = 9 ∨ w = 10 ∨ w = 11 ∨ w = 12 ∨ w = 13 ∨ w = 14 ∨ w = 15 by omega) with rfl | rfl | rfl | rfl | rfl | rfl | rfl | rfl | rfl | rfl | rfl | rfl | rfl | rfl | rfl | rfl <;> decide
theorem shr16 {k w : Nat} (hk : k < 2 ^ 16) (h : w < 16) : ((ishr (nI k) (nI w)) &&& 1 = 1) ↔ k.testBit w = true := by
  have e : ishr (nI k) (nI w) = nI (k / 2 ^ w) := by
    unfold ishr
    refine pk_shrN (by omega) _ w ?_
    rcases (show w = 0 ∨ w = 1 ∨ w = 2 ∨ w = 3 ∨ w = 4 ∨ w = 5 ∨ w = 6 ∨ w = 7 ∨ w = 8 ∨ w = 9 ∨ w = 10 ∨ w = 11 ∨ w = 12 ∨ w = 13 ∨ w = 14 ∨ w = 15 by omega) with rfl | rfl | rfl | rfl | rfl | rfl | rfl | rfl | rfl | rfl | rfl | rfl | rfl | rfl | rfl | rfl <;> decide
  rw [e, show nI (k / 2 ^ w) &&& 1 = nI (k / 2 ^ w % 2 ^ 1) from fa_mask (k / 2 ^ w) 1]
  have e2 : nI (k / 2 ^ w % 2 ^ 1) = 1 ↔ k / 2 ^ w % 2 ^ 1 = 1 := nI_eq (b := 1) (by omega) (by decide)
  rw [e2, Nat.testBit_eq_decide_div_mod_eq]
  simp
def OutF (mn : Nat) (lm : Nat → Int32) (C : Option (Int32 × (Nat → Int32) × Int32 × Int32)) (R : Option (Int32 × Int32 × Int32 × Int32 × Int32 × Int32 × (Nat → Int32))) : Prop := ∃ (fq : Nat) (told' : Nat → Int32) (b' k' a' e' v' s' : Int32) (lm' : Nat → Int32), fq ≤ mn ∧ C = some (0, told', nI fq, b') ∧ R = some (k', a', e', v', nI fq, s', lm') ∧ ∀ j, j < 51 → lm' j = lm j
def OutS (mn : Nat) (tv : Nat → Nat) (f : Nat → Int32) (told lm : Nat → Int32) (seen : Nat) (C : Option (Int32 × (Nat → Int32) × Int32 × Int32)) (R : Option (Int32 × Int32 × Int32 × Int32 × Int32 × Int32 × (Nat → Int32))) : Prop := ∃ (t x p q e k v : Nat) (a' : Int32), t < 16 ∧ x ≤ 999 ∧ told t < 0 ∧ p ≤ mn ∧ Tok mn tv q e k v ∧ (∀ y, fX5_advance (nI mn) y (nI p) f = some (if q < mn then 1 else 0, nI q, nI e)) ∧ C = some (1, upd told t (nI x), a', nI p) ∧ R = some (nI k, nI q, nI e, nI v, -1, nI (seen ||| 2 ^ t), upd lm (51 + t) (nI x))
theorem good_n {n : Nat} (h : n < 2 ^ 31) : fX7_isGood (nI n) = some 0 := by rw [fX7_isGood, if_pos (ge0N n h)]
theorem good_m : fX7_isGood (-1) = some 1 := by decide
theorem wrong_m (x : Int32) : fX7_wrong x (-1) = some x := by rw [fX7_wrong, if_neg (by decide)]; rfl
theorem wrong_n (x : Int32) {n : Nat} (h : n < 2 ^ 31) : fX7_wrong x (nI n) = some (nI n) := by rw [fX7_wrong, if_pos (ge0N n h)]; rfl
theorem bn4S {α0 α1 α2 α3 γ : Type} (a0 : α0) (a1 : α1) (a2 : α2) (a3 : α3) (k : α0 → α1 → α2 → α3 → Option γ) : bn4 (some (a0, a1, a2, a3)) k = k a0 a1 a2 a3 := rfl
theorem bn6S {α0 α1 α2 α3 α4 α5 γ : Type} (a0 : α0) (a1 : α1) (a2 : α2) (a3 : α3) (a4 : α4) (a5 : α5) (k : α0 → α1 → α2 → α3 → α4 → α5 → Option γ) : bn6 (some (a0, a1, a2, a3, a4, a5)) k = k a0 a1 a2 a3 a4 a5 := rfl
/-- the number, and what ends the clause -/
theorem tail_at {mn t p0 q e k v seen : Nat} {tv : Nat → Nat} {f m told lm : Nat → Int32} (hT : RTape mn tv f m) (h120 : mn ≤ 120) (ht : t < 16) (htold : told t < 0) (hTok : Tok mn tv q e k v) (hadv : ∀ y, fX5_advance (nI mn) y (nI p0) f = some (if q < mn then 1 else 0, nI q, nI e)) (x0 : Int32) : OutF mn lm (fX1_parseClause_42 (nI t) told (nI mn) x0 (nI p0) f) (fX7_wantClause_108 (nI t) (nI mn) (nI k) (nI q) (nI e) (nI v) (-1) (nI seen) lm m) ∨ OutS mn tv f told lm seen (fX1_parseClause_42 (nI t) told (nI mn) x0 (nI p0) f) (fX7_wantClause_108 (nI t) (nI mn) (nI k) (nI q) (nI e) (nI v) (-1) (nI seen) lm m) := by
  obtain ⟨z1, z2, z3, z4⟩ := Tok_e hTok
  obtain ⟨y1, y2, y3⟩ := Tok_v (fun i hi => (hT i hi).1) hTok
  have k2 : nI k = 2 ↔ k = 2 := nI_eq (b := 2) (by omega) (by omega)
  have cls : fX1_parseClause_42 (nI t) told (nI mn) x0 (nI p0) f = (bn1 (fX5_number (nI mn) (nI q) (nI e) f) fun r17 => if (0 : Int32) ≤ r17 then (bn3 (fX5_advance (nI mn) (nI q) (nI e) f) fun r25 o25_tp_first o25_tp_behind => bn1 (fX5_says 6 (nI mn) o25_tp_first o25_tp_behind f) fun r29 => gd (zb r29) <| some (r29, (upd told t r17), o25_tp_first, o25_tp_behind)) else (some ((0 : Int32), (upd told t r17), (nI q), (nI e)))) := by
    rw [fX1_parseClause_42, if_neg (nlt0 t (by omega)), ixN ht (by decide), gdT, cl _ (by omega), if_pos htold, hadv, bn3S]
    simp only [gdT, upd_same]
  rw [cls, number_at hT h120 hTok, bn1S]
  by_cases c : k = 2 ∧ e - q ≤ 3
  · have hv := y3 c.1
    obtain ⟨q', e', k', v', w1, w2, w3, w4⟩ := tok_at hT h120 z2
    obtain ⟨u1, u2, u3, u4⟩ := Tok_e w2
    obtain ⟨x1, x2, x3⟩ := Tok_v (fun i hi => (hT i hi).1) w2
    have se := semi w2
    have wn : fX7_wantNumber 999 (nI mn) (nI k) (nI q) (nI e) (nI v) (-1) m = some (nI v, nI k', nI q', nI e', nI v', -1) := by
      rw [fX7_wantNumber, good_m, bn1S, if_neg (by decide), if_pos (k2.2 c.1), pk_sub z1, if_neg (show ¬ (3 : Int32) < nI (e - q) from nI_nlt (a := 3) c.2 (by decide)), if_neg (show ¬ (999 : Int32) < nI v from nI_nlt (a := 999) hv (by decide)), w4, bn4S]
    have j51 : (51 : Int32) + nI t = nI (51 + t) := nI_add 51 t
    have k3 : nI k' = 3 ↔ k' = 3 := nI_eq (b := 3) (by omega) (by omega)
    have v59 : nI v' = 59 ↔ v' = 59 := nI_eq (b := 59) (by omega) (by omega)
    rw [if_pos c, if_pos (ge0N v (by omega)), w3, bn3S, says_at hT h120 u1 u2 6 (by decide), bn1S, fX7_wantClause_108, wn, bn6S, good_m, bn1S, if_neg (show ¬ (1 : Int32) = 0 by decide), j51, ixN (by omega) (by decide), gdT, cl _ (by omega), shl16 ht, fa_or]
    simp only [k3, v59]
    by_cases c2 : k' = 3 ∧ v' = 59
    · right
      obtain ⟨q'', e'', k'', v'', r1, r2, r3, r4⟩ := tok_at hT h120 u2
      refine ⟨t, v, e', q'', e'', k'', v'', nI q', ht, hv, htold, u2, r2, r3, ?_, ?_⟩
      · rw [if_pos (se.2 c2)]; rfl
      · rw [if_pos c2.1, if_pos c2.2, r4, bn4S]
    · left
      refine ⟨q', upd told t (nI v), nI e', nI k', nI q', nI e', nI v', nI (seen ||| 2 ^ t), upd lm (51 + t) (nI v), u3, ?_, ?_, ?_⟩
      · rw [if_neg (fun z => c2 (se.1 z))]; rfl
      · simp only [fX7_wantClause_169, wrong_m, bn1S]
        by_cases d1 : k' = 3
        · rw [if_pos d1, if_neg (fun z => c2 ⟨d1, z⟩)]
        · rw [if_neg d1]
      · intro j hj
        rw [upd_ne _ _ (by omega)]
  · left
    have wn : fX7_wantNumber 999 (nI mn) (nI k) (nI q) (nI e) (nI v) (-1) m = some (nI v, nI k, nI q, nI e, nI v, nI q) := by
      rw [fX7_wantNumber, good_m, bn1S, if_neg (by decide)]
      simp only [fX7_wantNumber_45, wrong_m, bn1S]
      by_cases d1 : k = 2
      · rw [if_pos (k2.2 d1), pk_sub z1, if_pos (show (3 : Int32) < nI (e - q) from nI_lt (a := 3) (Nat.lt_of_not_le fun z => c ⟨d1, z⟩) (by omega))]
      · rw [if_neg (fun z => d1 (k2.1 z))]
    refine ⟨q, upd told t (-3), nI e, nI k, nI q, nI e, nI v, nI seen, lm, z3, ?_, ?_, fun j hj => rfl⟩
    · rw [if_neg c, if_neg (by decide)]
    · rw [fX7_wantClause_108, wn, bn6S, good_n (by omega), bn1S, if_pos rfl]
theorem clause_at {mn q e k v seen : Nat} {tv : Nat → Nat} {f m told lm : Nat → Int32} (hT : RTape mn tv f m) (h120 : mn ≤ 120) (hTok : Tok mn tv q e k v) (hseen : seen < 2 ^ 16) (hR : ∀ t, t < 16 → (told t < 0 ↔ seen.testBit t = false)) : OutF mn lm (fX1_parseClause told (nI mn) (nI q) (nI e) f) (fX7_wantClause (nI mn) (nI k) (nI q) (nI e) (nI v) (-1) (nI seen) lm m) ∨ OutS mn tv f told lm seen (fX1_parseClause told (nI mn) (nI q) (nI e) f) (fX7_wantClause (nI mn) (nI k) (nI q) (nI e) (nI v) (-1) (nI seen) lm m) := by
  obtain ⟨z1, z2, z3, z4⟩ := Tok_e hTok
  have w26 : fX7_wantClause_26 (nI k) (nI q) (nI e) (nI v) (-1) (nI seen) lm = some (nI k, nI q, nI e, nI v, nI q, nI seen, lm) := by
    rw [fX7_wantClause_26, wrong_m, bn1S]
  rcases term_at hT h120 hTok with ⟨a1, a2⟩ | ⟨t, ht, hk1, a1, a2⟩
  · left
    refine ⟨q, told, nI e, nI k, nI q, nI e, nI v, nI seen, lm, z3, ?_, ?_, fun j hj => rfl⟩
    · rw [fX1_parseClause, a1, bn1S, if_neg (by decide), if_neg (by decide), fX1_parseClause_42, if_pos (by decide)]
    · rw [fX7_wantClause, a2, bn1S, if_pos (by decide), w26]
  obtain ⟨q', e', k', v', w1, w2, w3, w4⟩ := tok_at hT h120 z2
  obtain ⟨u1, u2, u3, u4⟩ := Tok_e w2
  obtain ⟨x1, x2, x3⟩ := Tok_v (fun i hi => (hT i hi).1) w2
  by_cases c4 : t < 4
  · have C : fX1_parseClause told (nI mn) (nI q) (nI e) f = fX1_parseClause_42 (nI t) told (nI mn) (nI q) (nI e) f := by
      rw [fX1_parseClause, a1, bn1S, if_neg (show ¬ nI t = 4 from nI_neq (b := 4) (by omega) (by omega) (by decide)), if_neg (show ¬ nI t = 10 from nI_neq (b := 10) (by omega) (by omega) (by decide))]
    have R : fX7_wantClause (nI mn) (nI k) (nI q) (nI e) (nI v) (-1) (nI seen) lm m = if seen.testBit t = true then fX7_wantClause_26 (nI k) (nI q) (nI e) (nI v) (-1) (nI seen) lm else fX7_wantClause_31 (nI t) (nI mn) (nI k) (nI q) (nI e) (nI v) (-1) (nI seen) lm m := by
      rw [fX7_wantClause, a2, bn1S, if_neg (nlt0 t (by omega)), if_neg (show ¬ (4 : Int32) ≤ nI t from nI_ge (b := 4) c4 (by omega))]
      simp only [shr16 hseen (show t < 16 by omega)]
    by_cases c5 : told t < 0
    · have b : seen.testBit t = false := (hR t (by omega)).1 c5
      rw [C, R, if_neg (by rw [b]; decide), fX7_wantClause_31, w4, bn4S, if_pos (show nI t < 4 from nI_lt (b := 4) c4 (by decide))]
      exact tail_at hT h120 (by omega) c5 w2 w3 _
    · have b : seen.testBit t = true := by
        cases hb : seen.testBit t
        · exact absurd ((hR t (by omega)).2 hb) c5
        · rfl
      left
      refine ⟨q, told, nI e, nI k, nI q, nI e, nI v, nI seen, lm, z3, ?_, ?_, fun j hj => rfl⟩
      · rw [C, fX1_parseClause_42, if_neg (nlt0 t (by omega)), ixN (by omega) (by decide), gdT, cl _ (by omega), if_neg c5]
      · rw [R, if_pos b, w26]
  · have ht' : t = 4 ∨ t = 10 := by omega
    have k2 : nI k' = 2 ↔ k' = 2 := nI_eq (b := 2) (by omega) (by omega)
    have C : fX1_parseClause told (nI mn) (nI q) (nI e) f = (bn1 (fX6_isPlace (if k' = 2 ∧ e' - q' ≤ 3 then nI v' else -3)) fun r43 => if r43 = (0 : Int32) then (fX1_parseClause_42 (-3 : Int32) told (nI mn) (nI q') (nI e') f) else (fX1_parseClause_42 (nI t + (if k' = 2 ∧ e' - q' ≤ 3 then nI v' else -3)) told (nI mn) (nI q') (nI e') f)) := by
      have s : fX1_parseClause told (nI mn) (nI q) (nI e) f = fX1_parseClause_16 (nI t) told (nI mn) (nI q) (nI e) f := by
        rw [fX1_parseClause, a1, bn1S]
        rcases ht' with rfl | rfl
        · rw [if_pos (show nI 4 = 4 from rfl)]
        · rw [if_neg (by decide), if_pos (show nI 10 = 10 from rfl)]
      rw [s, fX1_parseClause_16, w3, bn3S, number_at hT h120 w2, bn1S]
      simp only [fX1_parseClause_41]
    have R : fX7_wantClause (nI mn) (nI k) (nI q) (nI e) (nI v) (-1) (nI seen) lm m = fX7_wantClause_91 (nI t) (if (k' = 2 ∧ e' - q' ≤ 3 ∧ v' ≤ 5) ∧ seen.testBit (t + v') = true then 1 else 0) (nI mn) (nI k') (nI q') (nI e') (nI v') (-1) (nI seen) lm m := by
      rw [fX7_wantClause, a2, bn1S, if_neg (nlt0 t (by omega)), if_pos (show (4 : Int32) ≤ nI t from nI_le (a := 4) (by omega) (by omega)), fX7_wantClause_31, w4, bn4S, if_neg (show ¬ nI t < 4 from nI_nlt (b := 4) (by omega) (by omega)), pk_sub u1, nI_add]
      simp only [fX7_wantClause_90]
      by_cases d1 : k' = 2
      · rw [if_pos (k2.2 d1)]
        by_cases d2 : e' - q' ≤ 3
        · rw [if_neg (show ¬ (3 : Int32) < nI (e' - q') from nI_nlt (a := 3) d2 (by decide))]
          by_cases d3 : v' ≤ 5
          · rw [if_neg (show ¬ (5 : Int32) < nI v' from nI_nlt (a := 5) d3 (by decide))]
            by_cases d4 : seen.testBit (t + v') = true
            · rw [if_pos ((shr16 hseen (by omega)).2 d4), if_pos ⟨⟨d1, d2, d3⟩, d4⟩]
            · rw [if_neg (fun z => d4 ((shr16 hseen (by omega)).1 z)), if_neg (fun z => d4 z.2)]
          · rw [if_pos (show (5 : Int32) < nI v' from nI_lt (a := 5) (by omega) (by omega)), if_neg (fun z => d3 z.1.2.2)]
        · rw [if_pos (show (3 : Int32) < nI (e' - q') from nI_lt (a := 3) (by omega) (by omega)), if_neg (fun z => d2 z.1.2.1)]
      · rw [if_neg (fun z => d1 (k2.1 z)), if_neg (fun z => d1 z.1.1)]
    -- once a fault stands, nothing more is read
    have dead : fX7_wantClause_100 (nI t) (nI mn) (nI k') (nI q') (nI e') (nI v') (nI q') (nI seen) lm m = some (nI k', nI q', nI e', nI v', nI q', nI seen, lm) := by
      rw [fX7_wantClause_100, fX7_wantNumber, good_n (by omega), bn1S, if_pos rfl, bn6S, fX7_wantClause_108, fX7_wantNumber, good_n (by omega), bn1S, if_pos rfl, bn6S, good_n (by omega), bn1S, if_pos rfl]
    by_cases d : k' = 2 ∧ e' - q' ≤ 3 ∧ v' ≤ 5
    · have hp : fX6_isPlace (nI v') = some 1 := by
        rw [fX6_isPlace, wi, if_neg (show ¬ (nI v' < 0 ∨ 5 < nI v') from rngN d.2.2 (by decide)), bn1S]
        rfl
      rw [C, if_pos ⟨d.1, d.2.1⟩, hp, bn1S, if_neg (by decide), nI_add, R]
      by_cases c5 : told (t + v') < 0
      · have b : seen.testBit (t + v') = false := (hR (t + v') (by omega)).1 c5
        rw [if_neg (fun z => by rw [b] at z; exact absurd z.2 (by decide)), fX7_wantClause_91, if_pos rfl]
        obtain ⟨q'', e'', k'', v'', r1, r2, r3, r4⟩ := tok_at hT h120 u2
        have wn : fX7_wantNumber 5 (nI mn) (nI k') (nI q') (nI e') (nI v') (-1) m = some (nI v', nI k'', nI q'', nI e'', nI v'', -1) := by
          rw [fX7_wantNumber, good_m, bn1S, if_neg (by decide), if_pos (k2.2 d.1), pk_sub u1, if_neg (show ¬ (3 : Int32) < nI (e' - q') from nI_nlt (a := 3) d.2.1 (by decide)), if_neg (show ¬ (5 : Int32) < nI v' from nI_nlt (a := 5) d.2.2 (by decide)), r4, bn4S]
        rw [fX7_wantClause_100, wn, bn6S, nI_add]
        exact tail_at hT h120 (by omega) c5 r2 r3 _
      · have b : seen.testBit (t + v') = true := by
          cases hb : seen.testBit (t + v')
          · exact absurd ((hR (t + v') (by omega)).2 hb) c5
          · rfl
        left
        refine ⟨q', told, nI e', nI k', nI q', nI e', nI v', nI seen, lm, u3, ?_, ?_, fun j hj => rfl⟩
        · rw [fX1_parseClause_42, if_neg (nlt0 (t + v') (by omega)), ixN (by omega) (by decide), gdT, cl _ (by omega), if_neg c5]
        · rw [if_pos ⟨d, b⟩, fX7_wantClause_91, if_neg (by decide), wrong_m, bn1S, dead]
    · left
      have hp : fX6_isPlace (if k' = 2 ∧ e' - q' ≤ 3 then nI v' else -3) = some 0 := by
        by_cases d2 : k' = 2 ∧ e' - q' ≤ 3
        · rw [if_pos d2]
          rcases tPlace (nI v') with ⟨b1, -⟩ | ⟨n, hn, b0, b1, -⟩
          · exact b1
          · exfalso
            rw [nI_eq (by omega) (by omega)] at b0
            exact d ⟨d2.1, d2.2, by omega⟩
        · rw [if_neg d2]; decide
      refine ⟨q', told, nI e', nI k', nI q', nI e', nI v', nI seen, lm, u3, ?_, ?_, fun j hj => rfl⟩
      · rw [C, hp, bn1S, if_pos rfl, fX1_parseClause_42, if_pos (by decide)]
      · have wn : fX7_wantNumber 5 (nI mn) (nI k') (nI q') (nI e') (nI v') (-1) m = some (nI v', nI k', nI q', nI e', nI v', nI q') := by
          rw [fX7_wantNumber, good_m, bn1S, if_neg (by decide)]
          simp only [fX7_wantNumber_45, wrong_m, bn1S]
          by_cases d1 : k' = 2
          · rw [if_pos (k2.2 d1), pk_sub u1]
            by_cases d2 : e' - q' ≤ 3
            · rw [if_neg (show ¬ (3 : Int32) < nI (e' - q') from nI_nlt (a := 3) d2 (by decide)), if_pos (show (5 : Int32) < nI v' from nI_lt (a := 5) (Nat.lt_of_not_le fun z => d ⟨d1, d2, z⟩) (by omega))]
            · rw [if_pos (show (3 : Int32) < nI (e' - q') from nI_lt (a := 3) (by omega) (by omega))]
          · rw [if_neg (fun z => d1 (k2.1 z))]
        rw [R, if_neg (fun z => d z.1), fX7_wantClause_91, if_pos rfl, fX7_wantClause_100, wn, bn6S, fX7_wantClause_108, fX7_wantNumber, good_n (by omega), bn1S, if_pos rfl, bn6S, good_n (by omega), bn1S, if_pos rfl]
