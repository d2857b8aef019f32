/-! COUNT, WRITE OFF, GIVE BACK -/
/-- an integer as an int -/
def zI (z : Int) : Int32 := Int32.ofInt z
theorem zI_toInt {z : Int} (h1 : -2147483648 ≤ z) (h2 : z < 2147483648) : (zI z).toInt = z := Int32.toInt_ofInt_of_le (by omega) (by omega)
theorem zI_add (a b : Int) : zI a + zI b = zI (a + b) := (Int32.ofInt_add a b).symm
theorem zI_sub (a b : Int) : zI a - zI b = zI (a - b) := (Int32.ofInt_sub a b).symm
theorem zI_mul (a b : Int) : zI a * zI b = zI (a * b) := (Int32.ofInt_mul a b).symm
theorem zI_lt {a b : Int} (h1 : -2147483648 ≤ a) (h2 : a < 2147483648) (h3 : -2147483648 ≤ b) (h4 : b < 2147483648) : zI a < zI b ↔ a < b := by
  rw [Int32.lt_iff_toInt_lt, zI_toInt h1 h2, zI_toInt h3 h4]
theorem zI_le {a b : Int} (h1 : -2147483648 ≤ a) (h2 : a < 2147483648) (h3 : -2147483648 ≤ b) (h4 : b < 2147483648) : zI a ≤ zI b ↔ a ≤ b := by
  rw [Int32.le_iff_toInt_le, zI_toInt h1 h2, zI_toInt h3 h4]
theorem zI_eq {a b : Int} (h1 : -2147483648 ≤ a) (h2 : a < 2147483648) (h3 : -2147483648 ≤ b) (h4 : b < 2147483648) : zI a = zI b ↔ a = b := by
  rw [← Int32.toInt_inj, zI_toInt h1 h2, zI_toInt h3 h4]
theorem zI_nI (n : Nat) : nI n = zI (n : Int) := by
  show Int32.ofNat n = Int32.ofInt n
  exact (Int32.ofInt_eq_ofNat).symm
/-- the days' bill -/
theorem bill_at {nB td b : Nat} {f m lf lm : Nat → Int32} {E6 E13 : Int32} {nm : Nat → Int32} (hBox : RBox nB f m) (hL : RLease lf lm) (hb : b < nB) (h24 : nB ≤ 24) (htd : td ≤ 200) (e6 : E6 = nI nB) (e13 : E13 = nI 3) (n0 : nm 0 = nI td) {ls : Nat} (hls : ls ≤ 2) (c1 : f (9 * b + 3) = nI ls) (c2 : m (9 * b + 3) = nI ls) (m' : Nat → Int32) (hm : ∀ k, k < 7 → m' (9 * b + k) = m (9 * b + k)) : ∃ bl : Nat, bl ≤ 300000 ∧ fX6_dayBill (nI b) (nI td) E6 f E13 lf = some (nI bl) ∧ fX7_daysCost (nI b) nm m' lm = some (nI bl) := by
  obtain ⟨mk, kd, ln, cm, ft, hh, x0, x1, x2, x3, x4, x5, x6, x7⟩ := hBox b hb
  obtain ⟨hl, -⟩ := hL ls (by omega)
  obtain ⟨l0, hl0, a1, a2⟩ := hl 0 (by decide)
  obtain ⟨l1, hl1, b1, b2⟩ := hl 1 (by decide)
  have kb : ∀ (c : Nat) (hc : c < 9), fX4_cell (nI b) (nI c) (nI 9) E6 216 f = some (f (9 * b + c)) := fun c hc => by rw [e6]; exact cell_at hb hc (by omega) (by omega) (by decide) (by decide)
  have kl : ∀ (c : Nat) (hc : c < 17), fX4_cell (nI ls) (nI c) (nI 17) E13 51 lf = some (lf (17 * ls + c)) := fun c hc => by rw [e13]; exact cell_at (by omega) hc (by omega) (by omega) (by decide) (by decide)
  have q3 : fX4_cell (nI b) 3 9 E6 216 f = some (nI ls) := by rw [show fX4_cell (nI b) 3 9 E6 216 f = _ from kb 3 (by decide), c1]
  have q4 : fX4_cell (nI b) 4 9 E6 216 f = some (nI cm) := by rw [show fX4_cell (nI b) 4 9 E6 216 f = _ from kb 4 (by decide), x4.1]
  have r0 : fX4_cell (nI ls) 0 17 E13 51 lf = some (nI l0) := by rw [show fX4_cell (nI ls) 0 17 E13 51 lf = _ from kl 0 (by decide), a1]
  have r1 : fX4_cell (nI ls) 1 17 E13 51 lf = some (nI l1) := by rw [show fX4_cell (nI ls) 1 17 E13 51 lf = _ from kl 1 (by decide), b1]
  have g3 : fX7_get (nI b) 3 m' = some (nI ls) := by rw [show fX7_get (nI b) 3 m' = some (m' (9 * b + 3)) from get_at (k := 3) (by omega), hm 3 (by decide), c2]
  have g4 : fX7_get (nI b) 4 m' = some (nI cm) := by rw [show fX7_get (nI b) 4 m' = some (m' (9 * b + 4)) from get_at (k := 4) (by omega), hm 4 (by decide), x4.2]
  have ex : nI td - nI cm + 1 - nI l0 = zI ((td : Int) - cm + 1 - l0) := by
    rw [zI_nI, zI_nI, zI_nI, zI_sub, show (1 : Int32) = zI 1 from rfl, zI_add, zI_sub]
  have e6' : fX6_dayBill (nI b) (nI td) E6 f E13 lf = some (imax 0 (zI ((td : Int) - cm + 1 - l0)) * nI l1) := by
    rw [fX6_dayBill, q3, bn1S, q4, bn1S, r0, bn1S, r1, bn1S, ex]
  have e7' : fX7_daysCost (nI b) nm m' lm = some (if zI ((td : Int) - cm + 1 - l0) ≤ 0 then 0 else zI ((td : Int) - cm + 1 - l0) * nI l1) := by
    rw [fX7_daysCost, g3, bn1S, gdt (show ix (0 : Int32) 10 = true by decide), g4, bn1S, show (17 : Int32) * nI ls + 1 = nI (17 * ls + 1) from ax 17 ls 1, show (17 : Int32) * nI ls = nI (17 * ls) from pk_mul 17 ls, ixN (by omega) (by decide), gdT, cl _ (by omega), clL0, n0, show lm (17 * ls) = nI l0 from a2, ex, ixN (by omega) (by decide), gdT, cl _ (by omega), b2]
    split <;> rfl
  have z0 : (0 : Int32) = zI 0 := rfl
  by_cases c : (td : Int) - cm + 1 - l0 ≤ 0
  · refine ⟨0, by omega, ?_, ?_⟩
    · rw [e6', imax, if_neg]
      · congr 1
        rw [z0, zI_nI, zI_mul, Int.zero_mul]; rfl
      · rw [z0, zI_lt (by omega) (by omega) (by omega) (by omega)]; omega
    · rw [e7', if_pos]
      · rfl
      · rw [z0, zI_le (by omega) (by omega) (by omega) (by omega)]; omega
  · obtain ⟨n, hn⟩ : ∃ n : Nat, (td : Int) - cm + 1 - l0 = n := ⟨((td : Int) - cm + 1 - l0).toNat, by omega⟩
    refine ⟨n * l1, ?_, ?_, ?_⟩
    · have : n * l1 ≤ 201 * 999 := Nat.mul_le_mul (by omega) hl1
      omega
    · rw [e6', imax, if_pos (by rw [z0, zI_lt (by omega) (by omega) (by omega) (by omega)]; omega), hn, ← zI_nI, pk_mul]
    · rw [e7', if_neg (by rw [z0, zI_le (by omega) (by omega) (by omega) (by omega)]; omega), hn, ← zI_nI, pk_mul]
theorem op_count : Op_count Inv := by
  intro E F M N v h
  obtain ⟨⟨td, lk, rt, fr, nB, nW, nR, nO, nA, nU, ⟨hd, hn, hb⟩, hBox, hWo, hR⟩, hK, hT, hP⟩ := id h
  have e2 : E 2 = nI td := hd.1
  have e6 : E 6 = nI nB := hd.2.2.2.2.1
  have e7 : E 7 = nI nW := hd.2.2.2.2.2.1
  have main : ∃ r, fX6_count_31 v (E 2) (E 6) (F 0) (E 7) (F 1) FU 0 0 = some r ∧ fX7_count_31 v (N 0) (N 1) (N 2) FU 0 0 = some r := by
    have main := pair_loop (fun n i a => fX6_count_31 v (E 2) (E 6) (F 0) (E 7) (F 1) n a i) (fun n i a => fX7_count_31 v (N 0) (N 1) (N 2) n a i) nB (fun _ a a' => a = a') (fun r r' => r = r') ?_ ?_ nB 0 FU FU 0 0 (by omega) rfl (by rw [FU_eq]; omega) (by rw [FU_eq]; omega)
    · obtain ⟨r, r', h1, h2, rfl⟩ := main
      exact ⟨r, h1, h2⟩
    · intro n n' a a' e
      subst e
      refine ⟨a, a, ?_, ?_, rfl⟩
      · show fX6_count_31 _ _ _ _ _ _ (n + 1) a (nI nB) = some a
        rw [fX6_count_31, sz_at, bn1S, e6, if_pos (nI_le (Nat.le_refl _) (by omega))]
      · show fX7_count_31 _ _ _ _ (n' + 1) a (nI nB) = some a
        rw [fX7_count_31, gdt (show ix (1 : Int32) 10 = true by decide), show (1 : Int32).toNatClampNeg = 1 from rfl, hn.2.1, if_pos (nI_le (Nat.le_refl _) (by omega))]
    · intro n n' i a a' hi e
      subst e
      right
      obtain ⟨ft, hft, f1, f2, -⟩ := box_5 hBox hi (by omega) e6
      obtain ⟨r, hr, s1, s2, -⟩ := stand_at hWo (by omega) e7 hn.2.2.1 (b := i) (d := td) (k := td) (by omega) (by omega) (by omega)
      obtain ⟨l, hl, l1, l2⟩ := late_at hWo (by omega) e7 hn.2.2.1 hn.1 (by omega) (b := i) (by omega)
      rw [← e2] at s1 l1
      have A : ∃ c : Nat, c ≤ 1 ∧ fX6_isCountedAs (nI i) v (E 2) (E 7) (F 1) = some (nI c) ∧ ∀ K : Int32 → Int32 → Option Int32, (if v = 30 then (bn1 (some (nI l)) fun r56 => fX7_count_112 K a (nI i) r56) else (if v = 10 then (bn1 (fX7_in (nI r) 10 19) fun r52 => fX7_count_112 K a (nI i) r52) else (if nI r = v then (fX7_count_112 K a (nI i) 1) else (fX7_count_112 K a (nI i) 0)))) = fX7_count_112 K a (nI i) (nI c) := by
        unfold fX6_isCountedAs
        rw [l1, s1]
        by_cases c1 : v = 30
        · refine ⟨l, hl, ?_, fun K => ?_⟩
          · rw [if_pos c1, bn1S, gdt]
            rcases (show l = 0 ∨ l = 1 by omega) with rfl | rfl <;> decide
          · rw [if_pos c1, bn1S]
        · by_cases c2 : v = 10
          · refine ⟨if 10 ≤ r ∧ r ≤ 15 then 1 else 0, by split <;> omega, ?_, fun K => ?_⟩
            · rw [if_neg c1, bn1S, if_pos c2, wi, bn1S]
              by_cases c3 : 10 ≤ r ∧ r ≤ 15
              · rw [if_neg (show ¬ (nI r < 10 ∨ 15 < nI r) from rngN2 (a := 10) (b := 15) c3.1 c3.2 (by decide)), if_pos c3]; rfl
              · rw [if_pos, if_neg c3]
                · rfl
                · by_cases c4 : r < 10
                  · exact Or.inl (show nI r < nI 10 from nI_lt c4 (by omega))
                  · exact Or.inr (show nI 15 < nI r from nI_lt (by omega) (by omega))
            · rw [if_neg c1, if_pos c2, wi7, bn1S]
              by_cases c3 : 10 ≤ r ∧ r ≤ 15
              · rw [if_neg (show ¬ (nI r < 10 ∨ 19 < nI r) from rngN2 (a := 10) (b := 19) c3.1 (by omega) (by decide)), if_pos c3]; rfl
              · rw [if_pos, if_neg c3]
                · rfl
                · by_cases c4 : r < 10
                  · exact Or.inl (show nI r < nI 10 from nI_lt c4 (by omega))
                  · exact Or.inr (show nI 19 < nI r from nI_lt (by omega) (by omega))
          · refine ⟨if nI r = v then 1 else 0, by split <;> omega, ?_, fun K => ?_⟩
            · rw [if_neg c1, bn1S, if_neg c2]
              by_cases c3 : nI r = v
              · rw [if_pos c3, if_pos c3]; rfl
              · rw [if_neg c3, if_neg c3]; rfl
            · rw [if_neg c1, if_neg c2]
              by_cases c3 : nI r = v
              · rw [if_pos c3, if_pos c3]; rfl
              · rw [if_neg c3, if_neg c3]; rfl
      obtain ⟨c, hc, A1, A2⟩ := A
      refine ⟨a + (if ft = 0 then nI c else 0), a + (if ft = 0 then nI c else 0), ?_, ?_, rfl⟩
      · show fX6_count_31 _ _ _ _ _ _ (n + 1) a (nI i) = _
        rw [fX6_count_31, sz_at, bn1S, e6, if_neg (nI_ge hi (by omega)), ← e6, f1, bn1S, A1, bn1S]
        simp only [fX6_count_65, nI_1]
        by_cases c3 : ft = 0
        · rw [if_pos c3, if_neg (by decide), if_pos c3]
          rcases (show c = 0 ∨ c = 1 by omega) with rfl | rfl
          · rw [if_pos nI_0, nI_0, Int32.add_zero]
          · rw [if_neg (by decide)]; rfl
        · rw [if_neg c3, if_pos rfl, if_neg c3, Int32.add_zero]
      · show fX7_count_31 _ _ _ _ (n' + 1) a (nI i) = _
        rw [fX7_count_31, gdt (show ix (1 : Int32) 10 = true by decide), show (1 : Int32).toNatClampNeg = 1 from rfl, hn.2.1, if_neg (nI_ge hi (by omega)), f2, bn1S, gdt (show ix (0 : Int32) 10 = true by decide), gdt (show ix (0 : Int32) 10 = true by decide), clL0, hn.1, s2, l2, bn1S, A2]
        simp only [fX7_count_112, fX7_count_125, fX7_count_127, nI_1]
        by_cases c3 : ft = 0
        · rw [if_pos (by rw [c3]; rfl), if_pos c3]
          rcases (show c = 0 ∨ c = 1 by omega) with rfl | rfl
          · rw [if_pos nI_0, nI_0]
          · rw [if_neg (by decide)]; rfl
        · rw [if_neg (show ¬ nI ft = 0 from nI_neq (b := 0) c3 (by omega) (by omega)), if_neg c3, Int32.add_zero]
  obtain ⟨r, r1, r2⟩ := main
  have r1' : fX6_count_27 v (E 2) (E 6) (F 0) (E 7) (F 1) = some r := r1
  have r2' : fX7_count_27 v (N 0) (N 1) (N 2) = some r := r2
  rcases tPlace v with ⟨p1, p2⟩ | ⟨p, hp, rfl, p1, p2⟩
  · by_cases c : v = 10 ∨ v = 20 ∨ v = 30
    · refine ⟨r, ?_, ?_, h⟩
      · rw [fX6_count, p1, bn1S, r1']
        rcases c with c | c | c <;> subst c <;> rfl
      · rw [fX7_count, p2, bn1S, r2']
        rcases c with c | c | c <;> subst c <;> rfl
    · refine ⟨-1, ?_, ?_, h⟩
      · rw [fX6_count, p1, bn1S, if_pos rfl, if_neg (fun z => c (Or.inl z)), if_neg (fun z => c (Or.inr (Or.inl z))), if_neg (fun z => c (Or.inr (Or.inr z)))]
      · rw [fX7_count, p2, bn1S, if_pos rfl, if_neg (fun z => c (Or.inl z)), if_neg (fun z => c (Or.inr (Or.inl z))), if_neg (fun z => c (Or.inr (Or.inr z)))]
  · refine ⟨r, ?_, ?_, h⟩
    · rw [fX6_count, p1, bn1S, if_neg (by decide), r1']
    · rw [fX7_count, p2, bn1S, if_neg (by decide), r2']
