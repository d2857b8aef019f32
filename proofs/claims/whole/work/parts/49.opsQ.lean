theorem sw0 {tv : Nat → Nat} {q e : Nat} : Says tv q e 0 ↔ (e - q = 4 ∧ tv (q + 0) = 102 ∧ tv (q + 1) = 114 ∧ tv (q + 2) = 101 ∧ tv (q + 3) = 101) := by
  constructor
  · intro h
    exact ⟨h.1, h.2 0 (by decide), h.2 1 (by decide), h.2 2 (by decide), h.2 3 (by decide)⟩
  · rintro ⟨h, a0, a1, a2, a3⟩
    refine ⟨h, fun j hj => ?_⟩
    have hj : j < 4 := hj
    rcases (show j = 0 ∨ j = 1 ∨ j = 2 ∨ j = 3 by omega) with rfl | rfl | rfl | rfl
    · exact a0
    · exact a1
    · exact a2
    · exact a3
theorem sw1 {tv : Nat → Nat} {q e : Nat} : Says tv q e 1 ↔ (e - q = 3 ∧ tv (q + 0) = 100 ∧ tv (q + 1) = 97 ∧ tv (q + 2) = 121) := by
  constructor
  · intro h
    exact ⟨h.1, h.2 0 (by decide), h.2 1 (by decide), h.2 2 (by decide)⟩
  · rintro ⟨h, a0, a1, a2⟩
    refine ⟨h, fun j hj => ?_⟩
    have hj : j < 3 := hj
    rcases (show j = 0 ∨ j = 1 ∨ j = 2 by omega) with rfl | rfl | rfl
    · exact a0
    · exact a1
    · exact a2
theorem sw2 {tv : Nat → Nat} {q e : Nat} : Says tv q e 2 ↔ (e - q = 4 ∧ tv (q + 0) = 119 ∧ tv (q + 1) = 111 ∧ tv (q + 2) = 114 ∧ tv (q + 3) = 110) := by
  constructor
  · intro h
    exact ⟨h.1, h.2 0 (by decide), h.2 1 (by decide), h.2 2 (by decide), h.2 3 (by decide)⟩
  · rintro ⟨h, a0, a1, a2, a3⟩
    refine ⟨h, fun j hj => ?_⟩
    have hj : j < 4 := hj
    rcases (show j = 0 ∨ j = 1 ∨ j = 2 ∨ j = 3 by omega) with rfl | rfl | rfl | rfl
    · exact a0
    · exact a1
    · exact a2
    · exact a3
theorem sw3 {tv : Nat → Nat} {q e : Nat} : Says tv q e 3 ↔ (e - q = 4 ∧ tv (q + 0) = 108 ∧ tv (q + 1) = 111 ∧ tv (q + 2) = 115 ∧ tv (q + 3) = 116) := by
  constructor
  · intro h
    exact ⟨h.1, h.2 0 (by decide), h.2 1 (by decide), h.2 2 (by decide), h.2 3 (by decide)⟩
  · rintro ⟨h, a0, a1, a2, a3⟩
    refine ⟨h, fun j hj => ?_⟩
    have hj : j < 4 := hj
    rcases (show j = 0 ∨ j = 1 ∨ j = 2 ∨ j = 3 by omega) with rfl | rfl | rfl | rfl
    · exact a0
    · exact a1
    · exact a2
    · exact a3
theorem sw4 {tv : Nat → Nat} {q e : Nat} : Says tv q e 4 ↔ (e - q = 4 ∧ tv (q + 0) = 100 ∧ tv (q + 1) = 114 ∧ tv (q + 2) = 111 ∧ tv (q + 3) = 112) := by
  constructor
  · intro h
    exact ⟨h.1, h.2 0 (by decide), h.2 1 (by decide), h.2 2 (by decide), h.2 3 (by decide)⟩
  · rintro ⟨h, a0, a1, a2, a3⟩
    refine ⟨h, fun j hj => ?_⟩
    have hj : j < 4 := hj
    rcases (show j = 0 ∨ j = 1 ∨ j = 2 ∨ j = 3 by omega) with rfl | rfl | rfl | rfl
    · exact a0
    · exact a1
    · exact a2
    · exact a3
theorem sw5 {tv : Nat → Nat} {q e : Nat} : Says tv q e 5 ↔ (e - q = 4 ∧ tv (q + 0) = 114 ∧ tv (q + 1) = 111 ∧ tv (q + 2) = 111 ∧ tv (q + 3) = 109) := by
  constructor
  · intro h
    exact ⟨h.1, h.2 0 (by decide), h.2 1 (by decide), h.2 2 (by decide), h.2 3 (by decide)⟩
  · rintro ⟨h, a0, a1, a2, a3⟩
    refine ⟨h, fun j hj => ?_⟩
    have hj : j < 4 := hj
    rcases (show j = 0 ∨ j = 1 ∨ j = 2 ∨ j = 3 by omega) with rfl | rfl | rfl | rfl
    · exact a0
    · exact a1
    · exact a2
    · exact a3
theorem sw6 {tv : Nat → Nat} {q e : Nat} : Says tv q e 6 ↔ (e - q = 1 ∧ tv q = 59) := by
  constructor
  · intro h
    exact ⟨h.1, h.2 0 (by decide)⟩
  · rintro ⟨h, a0⟩
    refine ⟨h, fun j hj => ?_⟩
    have hj : j < 1 := hj
    obtain rfl : j = 0 := by omega
    exact a0
theorem WV_1 (tv : Nat → Nat) (q : Nat) : WV tv q 1 = 27 * 0 + tv (q + 0) - 96 := rfl
theorem WV_2 (tv : Nat → Nat) (q : Nat) : WV tv q 2 = 27 * WV tv q 1 + tv (q + 1) - 96 := rfl
theorem WV_3 (tv : Nat → Nat) (q : Nat) : WV tv q 3 = 27 * WV tv q 2 + tv (q + 2) - 96 := rfl
theorem WV_4 (tv : Nat → Nat) (q : Nat) : WV tv q 4 = 27 * WV tv q 3 + tv (q + 3) - 96 := rfl
theorem WV_5 (tv : Nat → Nat) (q : Nat) : WV tv q 5 = 27 * WV tv q 4 + tv (q + 4) - 96 := rfl
/-- the six words, as the reference weighs them -/
theorem six {mn q e k v : Nat} {tv : Nat → Nat} (h : Tok mn tv q e k v) : (Says tv q e 0 ↔ (k = 1 ∧ v = 131360)) ∧ (Says tv q e 1 ↔ (k = 1 ∧ v = 2968)) ∧ (Says tv q e 2 ↔ (k = 1 ∧ v = 464144)) ∧ (Says tv q e 3 ↔ (k = 1 ∧ v = 247664)) ∧ (Says tv q e 4 ↔ (k = 1 ∧ v = 92275)) ∧ (Says tv q e 5 ↔ (k = 1 ∧ v = 365647)) := by
  have z := Tok_e h
  rw [sw0, sw1, sw2, sw3, sw4, sw5]
  rcases h with ⟨a, b, c, d⟩ | ⟨a, b, c, d, l, hv⟩ | ⟨a, b, c, d, l, hv⟩ | ⟨a, b, c, l, l2, hv⟩
  · omega
  · subst d
    have x : ∀ j, q + j < e → 97 ≤ tv (q + j) ∧ tv (q + j) ≤ 122 := fun j hj => l (q + j) (by omega) hj
    by_cases c5 : e - q ≤ 5
    · rw [if_pos c5] at hv
      rcases (show e - q = 1 ∨ e - q = 2 ∨ e - q = 3 ∨ e - q = 4 ∨ e - q = 5 by omega) with eL | eL | eL | eL | eL
      · have x0 := x 0 (by omega)
        rw [eL, WV_1] at hv
        omega
      · have x0 := x 0 (by omega)
        have x1 := x 1 (by omega)
        rw [eL, WV_2, WV_1] at hv
        omega
      · have x0 := x 0 (by omega)
        have x1 := x 1 (by omega)
        have x2 := x 2 (by omega)
        rw [eL, WV_3, WV_2, WV_1] at hv
        omega
      · have x0 := x 0 (by omega)
        have x1 := x 1 (by omega)
        have x2 := x 2 (by omega)
        have x3 := x 3 (by omega)
        rw [eL, WV_4, WV_3, WV_2, WV_1] at hv
        omega
      · have x0 := x 0 (by omega)
        have x1 := x 1 (by omega)
        have x2 := x 2 (by omega)
        have x3 := x 3 (by omega)
        have x4 := x 4 (by omega)
        rw [eL, WV_5, WV_4, WV_3, WV_2, WV_1] at hv
        omega
    · rw [if_neg c5] at hv
      omega
  · have y : 48 ≤ tv (q + 0) ∧ tv (q + 0) ≤ 57 := l q (Nat.le_refl _) b
    omega
  · have y : ¬ (97 ≤ tv (q + 0) ∧ tv (q + 0) ≤ 122) := l
    omega
theorem semi {mn q e k v : Nat} {tv : Nat → Nat} (h : Tok mn tv q e k v) : Says tv q e 6 ↔ (k = 3 ∧ v = 59) := by
  have z := Tok_e h
  rw [sw6]
  rcases h with ⟨a, b, c, d⟩ | ⟨a, b, c, d, l, hv⟩ | ⟨a, b, c, d, l, hv⟩ | ⟨a, b, c, l, l2, hv⟩
  · omega
  · have y : 97 ≤ tv q ∧ tv q ≤ 122 := l q (Nat.le_refl _) b
    omega
  · have y : 48 ≤ tv q ∧ tv q ≤ 57 := l q (Nat.le_refl _) b
    omega
  · omega
theorem Tok_v {mn q e k v : Nat} {tv : Nat → Nat} (hT : ∀ i, i < mn → tv i ≤ 255) (h : Tok mn tv q e k v) : k ≤ 3 ∧ v < 2 ^ 30 ∧ (k = 2 → v ≤ 999) := by
  rcases h with ⟨a, b, c, d⟩ | ⟨a, b, c, d, l, hv⟩ | ⟨a, b, c, d, l, hv⟩ | ⟨a, b, c, l, l2, hv⟩
  · omega
  · refine ⟨by omega, ?_, by omega⟩
    by_cases c5 : e - q ≤ 5
    · rw [if_pos c5] at hv
      have x : ∀ j, q + j < e → 97 ≤ tv (q + j) ∧ tv (q + j) ≤ 122 := fun j hj => l (q + j) (by omega) hj
      rcases (show e - q = 1 ∨ e - q = 2 ∨ e - q = 3 ∨ e - q = 4 ∨ e - q = 5 by omega) with eL | eL | eL | eL | eL
      · have x0 := x 0 (by omega)
        rw [eL, WV_1] at hv
        omega
      · have x0 := x 0 (by omega)
        have x1 := x 1 (by omega)
        rw [eL, WV_2, WV_1] at hv
        omega
      · have x0 := x 0 (by omega)
        have x1 := x 1 (by omega)
        have x2 := x 2 (by omega)
        rw [eL, WV_3, WV_2, WV_1] at hv
        omega
      · have x0 := x 0 (by omega)
        have x1 := x 1 (by omega)
        have x2 := x 2 (by omega)
        have x3 := x 3 (by omega)
        rw [eL, WV_4, WV_3, WV_2, WV_1] at hv
        omega
      · have x0 := x 0 (by omega)
        have x1 := x 1 (by omega)
        have x2 := x 2 (by omega)
        have x3 := x 3 (by omega)
        have x4 := x 4 (by omega)
        rw [eL, WV_5, WV_4, WV_3, WV_2, WV_1] at hv
        omega
    · rw [if_neg c5] at hv
      omega
  · have := (DV_le (tv := tv) (q := q) (e - q) (fun i hi => l (q + i) (by omega) (by omega))).2.2.2
    omega
  · have := hT q a
    omega
/-- which term a clause begins with -/
theorem term_at {mn q e k v : Nat} {tv : Nat → Nat} {f m : Nat → Int32} (hT : RTape mn tv f m) (h120 : mn ≤ 120) (h : Tok mn tv q e k v) : (fX1_termSaid (nI mn) (nI q) (nI e) f = some (-3) ∧ fX7_kindOf (nI k) (nI v) = some (-1)) ∨ ∃ t : Nat, (t = 0 ∨ t = 1 ∨ t = 2 ∨ t = 3 ∨ t = 4 ∨ t = 10) ∧ k = 1 ∧ fX1_termSaid (nI mn) (nI q) (nI e) f = some (nI t) ∧ fX7_kindOf (nI k) (nI v) = some (nI t) := by
  obtain ⟨z1, z2, z3, z4⟩ := Tok_e h
  obtain ⟨y1, y2, y3⟩ := Tok_v (fun i hi => (hT i hi).1) h
  obtain ⟨s0, s1, s2, s3, s4, s5⟩ := six h
  have sa := fun j (hj : j < 7) => says_at hT h120 z1 z2 j hj
  have vc : ∀ c : Nat, c < 2 ^ 30 → (nI v = nI c ↔ v = c) := fun c hc => nI_eq (by omega) (by omega)
  have k1 : nI k = 1 ↔ k = 1 := nI_eq (b := 1) (by omega) (by omega)
  have K : fX7_kindOf (nI k) (nI v) = if k = 1 then (if v = 2968 then (some (1 : Int32)) else if v = 92275 then (some (4 : Int32)) else if v = 131360 then (some (0 : Int32)) else if v = 247664 then (some (3 : Int32)) else if v = 365647 then (some (10 : Int32)) else if v = 464144 then (some (2 : Int32)) else (some (-1 : Int32))) else (some (-1 : Int32)) := by
    unfold fX7_kindOf
    simp only [k1, show nI v = 2968 ↔ v = 2968 from vc 2968 (by decide), show nI v = 92275 ↔ v = 92275 from vc 92275 (by decide), show nI v = 131360 ↔ v = 131360 from vc 131360 (by decide), show nI v = 247664 ↔ v = 247664 from vc 247664 (by decide), show nI v = 365647 ↔ v = 365647 from vc 365647 (by decide), show nI v = 464144 ↔ v = 464144 from vc 464144 (by decide)]
  rw [K, fX1_termSaid, sa 0 (by decide), sa 1 (by decide), sa 2 (by decide), sa 3 (by decide), sa 4 (by decide), sa 5 (by decide)]
  simp only [bn1S]
  by_cases c0 : k = 1 ∧ v = 131360
  · refine Or.inr ⟨0, by omega, c0.1, ?_, ?_⟩
    · rw [if_pos (s0.2 c0), if_neg (by decide)]; rfl
    · rw [if_pos c0.1, if_neg (by omega), if_neg (by omega), if_pos c0.2]; rfl
  rw [if_neg (fun z => c0 (s0.1 z)), if_pos rfl]
  by_cases c1 : k = 1 ∧ v = 2968
  · refine Or.inr ⟨1, by omega, c1.1, ?_, ?_⟩
    · rw [if_pos (s1.2 c1), if_neg (by decide)]; rfl
    · rw [if_pos c1.1, if_pos c1.2]; rfl
  rw [if_neg (fun z => c1 (s1.1 z)), if_pos rfl]
  by_cases c2 : k = 1 ∧ v = 464144
  · refine Or.inr ⟨2, by omega, c2.1, ?_, ?_⟩
    · rw [if_pos (s2.2 c2), if_neg (by decide)]; rfl
    · rw [if_pos c2.1, if_neg (by omega), if_neg (by omega), if_neg (by omega), if_neg (by omega), if_neg (by omega), if_pos c2.2]; rfl
  rw [if_neg (fun z => c2 (s2.1 z)), if_pos rfl]
  by_cases c3 : k = 1 ∧ v = 247664
  · refine Or.inr ⟨3, by omega, c3.1, ?_, ?_⟩
    · rw [if_pos (s3.2 c3), if_neg (by decide)]; rfl
    · rw [if_pos c3.1, if_neg (by omega), if_neg (by omega), if_neg (by omega), if_pos c3.2]; rfl
  rw [if_neg (fun z => c3 (s3.1 z)), if_pos rfl]
  by_cases c4 : k = 1 ∧ v = 92275
  · refine Or.inr ⟨4, by omega, c4.1, ?_, ?_⟩
    · rw [if_pos (s4.2 c4), if_neg (by decide)]; rfl
    · rw [if_pos c4.1, if_neg (by omega), if_pos c4.2]; rfl
  rw [if_neg (fun z => c4 (s4.1 z)), if_pos rfl]
  by_cases c5 : k = 1 ∧ v = 365647
  · refine Or.inr ⟨10, by omega, c5.1, ?_, ?_⟩
    · rw [if_pos (s5.2 c5), if_neg (by decide)]; rfl
    · rw [if_pos c5.1, if_neg (by omega), if_neg (by omega), if_neg (by omega), if_neg (by omega), if_pos c5.2]; rfl
  refine Or.inl ⟨?_, ?_⟩
  · rw [if_neg (fun z => c5 (s5.1 z)), if_pos rfl]
  · by_cases ck : k = 1
    · rw [if_pos ck, if_neg (by omega), if_neg (by omega), if_neg (by omega), if_neg (by omega), if_neg (by omega), if_neg (by omega)]
    · rw [if_neg ck]
