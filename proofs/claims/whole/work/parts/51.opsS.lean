/-! READ: the text -/
def dfl (t : Nat) : Nat := if t < 10 then 0 else 999
def RR (told : Nat → Int32) (seen : Nat) (lm lm0 : Nat → Int32) : Prop := seen < 2 ^ 16 ∧ (∀ t, t < 16 → (told t < 0 ∧ seen.testBit t = false ∧ lm (51 + t) = nI (dfl t)) ∨ ∃ x, x ≤ 999 ∧ told t = nI x ∧ seen.testBit t = true ∧ lm (51 + t) = nI x) ∧ lm 67 = 1 ∧ ∀ j, j < 51 → lm j = lm0 j
theorem sum_lt (f : Nat → Nat) (c : Nat) : ∀ n, c < n → (∀ i, i < n → f i ≤ 1) → f c = 0 → sumF n f < n := by
  have le : ∀ n, (∀ i, i < n → f i ≤ 1) → sumF n f ≤ n := by
    intro n
    induction n with
    | zero => intro h; exact Nat.le_refl 0
    | succ n ih =>
      intro h
      have h1 := ih (fun i hi => h i (by omega))
      have h2 := h n (by omega)
      rw [sumF]
      omega
  intro n
  induction n with
  | zero => intro h; omega
  | succ n ih =>
    intro h1 h2 h3
    rw [sumF]
    by_cases e : c = n
    · subst e
      have := le c (fun i hi => h2 i (by omega))
      omega
    · have h4 := ih (by omega) (fun i hi => h2 i (by omega)) h3
      have h5 := h2 n (by omega)
      omega
theorem bn7S' {α0 α1 α2 α3 α4 α5 α6 γ : Type} (a0 : α0) (a1 : α1) (a2 : α2) (a3 : α3) (a4 : α4) (a5 : α5) (a6 : α6) (k : α0 → α1 → α2 → α3 → α4 → α5 → α6 → Option γ) : bn7 (some (a0, a1, a2, a3, a4, a5, a6)) k = k a0 a1 a2 a3 a4 a5 a6 := rfl
def bitN (s t : Nat) : Nat := if s.testBit t = true then 1 else 0
theorem parse_at {mn : Nat} {tv : Nat → Nat} {f m lm0 : Nat → Int32} (hT : RTape mn tv f m) (h120 : mn ≤ 120) (K : Int32 → Int32 → Int32 → Int32 → Int32 → Int32 → Int32 → (Nat → Int32) → Option (Int32 × Int32 × Int32 × Int32 × Int32 × Int32 × Int32 × Int32 × (Nat → Int32))) : ∀ (r i n n' p q e k v seen : Nat) (told lm : Nat → Int32) (x : Int32), i + r = 16 → r + 2 ≤ n → r + 2 ≤ n' → RR told seen lm lm0 → sumF 16 (bitN seen) = i → Tok mn tv q e k v → (∀ y, fX5_advance (nI mn) y (nI p) f = some (if q < mn then 1 else 0, nI q, nI e)) →
    (∃ (fq : Nat) (c' : Int32) (told' : Nat → Int32) (a' b' v3 k' a2 e' v' s' : Int32) (lm' : Nat → Int32), fq ≤ mn ∧ fX1_parse_38 0 (nI mn) f (fun c t a b => fX1_parse_61 c t a b) n (nI i) (nI i) told x (nI p) = some (0, c', nI fq, told', a', b') ∧ fX7_read_85 (nI mn) m K n' (nI i) (nI k) (nI q) (nI e) (nI v) (-1) (nI seen) lm = K v3 k' a2 e' v' (nI fq) s' lm' ∧ ∀ j, j < 51 → lm' j = lm0 j) ∨
    (∃ (c : Int32) (told' : Nat → Int32) (a' b' k' a2 e' v' : Int32) (seen' : Nat) (lm' : Nat → Int32), fX1_parse_38 0 (nI mn) f (fun c t a b => fX1_parse_61 c t a b) n (nI i) (nI i) told x (nI p) = some (1, c, 0, told', a', b') ∧ fX7_read_85 (nI mn) m K n' (nI i) (nI k) (nI q) (nI e) (nI v) (-1) (nI seen) lm = K c k' a2 e' v' (-1) (nI seen') lm' ∧ RR told' seen' lm' lm0) := by
  intro r
  induction r with
  | zero =>
    intro i n n' p q e k v seen told lm x h1 h2 h3 hRR hsum hTok hadv
    obtain ⟨n, rfl⟩ : ∃ x, n = x + 1 := ⟨n - 1, by omega⟩
    obtain ⟨n', rfl⟩ : ∃ x, n' = x + 1 := ⟨n' - 1, by omega⟩
    obtain ⟨z1, z2, z3, z4⟩ := Tok_e hTok
    obtain ⟨y1, -, -⟩ := Tok_v (fun i hi => (hT i hi).1) hTok
    have k0 : nI k = 0 ↔ k = 0 := nI_eq (b := 0) (by omega) (by omega)
    by_cases c : q < mn
    · have ck : ¬ k = 0 := by omega
      have cls : fX1_parse_38 0 (nI mn) f (fun c t a b => fX1_parse_61 c t a b) (n + 1) (nI i) (nI i) told x (nI p) = (bn4 (fX1_parseClause told (nI mn) (nI q) (nI e) f) fun r17 o17_tx_f o17_tp_first o17_tp_behind => if r17 = (0 : Int32) then (fX1_parse_61 (nI i) o17_tx_f o17_tp_first o17_tp_behind) else (fX1_parse_38 0 (nI mn) f (fun c t a b => fX1_parse_61 c t a b) n (nI (i + 1)) (nI (i + 1)) o17_tx_f o17_tp_first o17_tp_behind)) := by
        rw [fX1_parse_38, if_neg (show ¬ (16 : Int32) < nI i from nI_nlt (a := 16) (by omega) (by omega)), hadv, bn3S, if_pos c, if_neg (by decide), nI_1]
      have ref : fX7_read_85 (nI mn) m K (n' + 1) (nI i) (nI k) (nI q) (nI e) (nI v) (-1) (nI seen) lm = (bn7 (fX7_wantClause (nI mn) (nI k) (nI q) (nI e) (nI v) (-1) (nI seen) lm m) fun a b c d e f g => fX7_read_85 (nI mn) m K n' (nI (i + 1)) a b c d e f g) := by
        rw [fX7_read_85, if_neg (fun z => ck (k0.1 z)), good_m, bn1S, if_neg (by decide), nI_1]
      have hR : ∀ t, t < 16 → (told t < 0 ↔ seen.testBit t = false) := by
        intro t ht
        rcases hRR.2.1 t ht with ⟨a, b, -⟩ | ⟨x, a, b, c, -⟩
        · exact ⟨fun _ => b, fun _ => a⟩
        · refine ⟨fun z => ?_, fun z => ?_⟩
          · rw [b] at z
            exact absurd z (nlt0 x (by omega))
          · rw [c] at z
            exact absurd z (by decide)
      rcases clause_at (lm := lm) (m := m) hT h120 hTok hRR.1 hR with ⟨fq, told', b', k', a', e', v', s', lm', f1, f2, f3, f4⟩ | ⟨t, x', p', q', e', k', v', a', s1, s2, s3, s4, s5, s6, s7, s8⟩
      · left
        obtain ⟨n', rfl⟩ : ∃ x, n' = x + 1 := ⟨n' - 1, by omega⟩
        refine ⟨fq, nI i, told', nI fq, b', nI (i + 1), k', a', e', v', s', lm', f1, ?_, ?_, fun j hj => (f4 j hj).trans (hRR.2.2.2 j hj)⟩
        · rw [cls, f2, bn4S, if_pos rfl]
          rfl
        · rw [ref, f3, bn7S', fX7_read_85, good_n (by omega), bn1S, if_pos rfl]
          split <;> rfl
      · exfalso
        have hb : seen.testBit t = false := (hR t s1).1 s3
        have := sum_lt (bitN seen) t 16 s1 (fun i hi => by unfold bitN; split <;> omega) (by unfold bitN; rw [hb]; rfl)
        omega
    · right
      have ck : k = 0 := by omega
      refine ⟨nI i, told, nI q, nI e, nI k, nI q, nI e, nI v, seen, lm, ?_, ?_, hRR⟩
      · rw [fX1_parse_38, if_neg (show ¬ (16 : Int32) < nI i from nI_nlt (a := 16) (by omega) (by omega)), hadv, bn3S, if_neg c, if_pos rfl]
      · rw [fX7_read_85, if_pos (k0.2 ck)]
  | succ r ih =>
    intro i n n' p q e k v seen told lm x h1 h2 h3 hRR hsum hTok hadv
    obtain ⟨n, rfl⟩ : ∃ x, n = x + 1 := ⟨n - 1, by omega⟩
    obtain ⟨n', rfl⟩ : ∃ x, n' = x + 1 := ⟨n' - 1, by omega⟩
    obtain ⟨z1, z2, z3, z4⟩ := Tok_e hTok
    obtain ⟨y1, -, -⟩ := Tok_v (fun i hi => (hT i hi).1) hTok
    have k0 : nI k = 0 ↔ k = 0 := nI_eq (b := 0) (by omega) (by omega)
    by_cases c : q < mn
    · have ck : ¬ k = 0 := by omega
      have cls : fX1_parse_38 0 (nI mn) f (fun c t a b => fX1_parse_61 c t a b) (n + 1) (nI i) (nI i) told x (nI p) = (bn4 (fX1_parseClause told (nI mn) (nI q) (nI e) f) fun r17 o17_tx_f o17_tp_first o17_tp_behind => if r17 = (0 : Int32) then (fX1_parse_61 (nI i) o17_tx_f o17_tp_first o17_tp_behind) else (fX1_parse_38 0 (nI mn) f (fun c t a b => fX1_parse_61 c t a b) n (nI (i + 1)) (nI (i + 1)) o17_tx_f o17_tp_first o17_tp_behind)) := by
        rw [fX1_parse_38, if_neg (show ¬ (16 : Int32) < nI i from nI_nlt (a := 16) (by omega) (by omega)), hadv, bn3S, if_pos c, if_neg (by decide), nI_1]
      have ref : fX7_read_85 (nI mn) m K (n' + 1) (nI i) (nI k) (nI q) (nI e) (nI v) (-1) (nI seen) lm = (bn7 (fX7_wantClause (nI mn) (nI k) (nI q) (nI e) (nI v) (-1) (nI seen) lm m) fun a b c d e f g => fX7_read_85 (nI mn) m K n' (nI (i + 1)) a b c d e f g) := by
        rw [fX7_read_85, if_neg (fun z => ck (k0.1 z)), good_m, bn1S, if_neg (by decide), nI_1]
      have hR : ∀ t, t < 16 → (told t < 0 ↔ seen.testBit t = false) := by
        intro t ht
        rcases hRR.2.1 t ht with ⟨a, b, -⟩ | ⟨x, a, b, c, -⟩
        · exact ⟨fun _ => b, fun _ => a⟩
        · refine ⟨fun z => ?_, fun z => ?_⟩
          · rw [b] at z
            exact absurd z (nlt0 x (by omega))
          · rw [c] at z
            exact absurd z (by decide)
      rcases clause_at (lm := lm) (m := m) hT h120 hTok hRR.1 hR with ⟨fq, told', b', k', a', e', v', s', lm', f1, f2, f3, f4⟩ | ⟨t, x', p', q', e', k', v', a', s1, s2, s3, s4, s5, s6, s7, s8⟩
      · left
        obtain ⟨n', rfl⟩ : ∃ x, n' = x + 1 := ⟨n' - 1, by omega⟩
        refine ⟨fq, nI i, told', nI fq, b', nI (i + 1), k', a', e', v', s', lm', f1, ?_, ?_, fun j hj => (f4 j hj).trans (hRR.2.2.2 j hj)⟩
        · rw [cls, f2, bn4S, if_pos rfl]
          rfl
        · rw [ref, f3, bn7S', fX7_read_85, good_n (by omega), bn1S, if_pos rfl]
          split <;> rfl
      · have hb : seen.testBit t = false := (hR t s1).1 s3
        have tb : ∀ j, (seen ||| 2 ^ t).testBit j = (seen.testBit j || decide (t = j)) := fun j => by rw [Nat.testBit_or, Nat.testBit_two_pow]
        have RR' : RR (upd told t (nI x')) (seen ||| 2 ^ t) (upd lm (51 + t) (nI x')) lm0 := by
          obtain ⟨g1, g2, g3, g4⟩ := hRR
          refine ⟨bit_or g1 s1, fun j hj => ?_, ?_, fun j hj => ?_⟩
          · by_cases z : j = t
            · subst z
              exact Or.inr ⟨x', s2, upd_same _ _ _, by rw [tb]; simp, upd_same _ _ _⟩
            · have e1 : (seen ||| 2 ^ t).testBit j = seen.testBit j := by
                rw [tb, decide_eq_false (fun w => z w.symm), Bool.or_false]
              rw [upd_ne _ _ z, upd_ne _ _ (show 51 + j ≠ 51 + t by omega), e1]
              exact g2 j hj
          · rw [upd_ne _ _ (by omega)]; exact g3
          · rw [upd_ne _ _ (by omega)]; exact g4 j hj
        have hs' : sumF 16 (bitN (seen ||| 2 ^ t)) = i + 1 := by
          rw [sum_split (bitN (seen ||| 2 ^ t)) (bitN seen) t 1 16 s1 ?_ ?_, hsum]
          · intro j hj hne
            unfold bitN
            rw [tb, decide_eq_false (fun w => hne w.symm), Bool.or_false]
          · unfold bitN
            rw [tb, hb]
            simp
        have nx := ih (i + 1) n n' p' q' e' k' v' (seen ||| 2 ^ t) (upd told t (nI x')) (upd lm (51 + t) (nI x')) a' (by omega) (by omega) (by omega) RR' hs' s5 s6
        rw [cls, s7, bn4S, if_neg (by decide), ref, s8, bn7S']
        exact nx
    · right
      have ck : k = 0 := by omega
      refine ⟨nI i, told, nI q, nI e, nI k, nI q, nI e, nI v, seen, lm, ?_, ?_, hRR⟩
      · rw [fX1_parse_38, if_neg (show ¬ (16 : Int32) < nI i from nI_nlt (a := 16) (by omega) (by omega)), hadv, bn3S, if_neg c, if_pos rfl]
      · rw [fX7_read_85, if_pos (k0.2 ck)]
