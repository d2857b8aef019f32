/-! THE PLAN: the sends of the class, to their end -/
theorem knot_at {idl : Nat → Nat} {g : Nat → Int} {fi fg : Nat → Int32} (hi : ∀ k, k < 30 → idl k ≤ 10 ∧ fi k = nI (idl k)) (hg : ∀ k, k < 30 → (0 ≤ g k ∧ g k ≤ 500) ∧ fg k = zI (g k)) : ∀ (rem k m : Nat), k + rem = 30 → rem < m → (∀ j, j < k → 0 < idl j → g j ≤ 0) → (fX3_knotToSend_2 fi fg m (nI k) = some (-3) ∧ ∀ j, j < 30 → 0 < idl j → g j ≤ 0) ∨ ∃ k', k' < 30 ∧ fX3_knotToSend_2 fi fg m (nI k) = some (nI k') ∧ 0 < idl k' ∧ 0 < g k' := by
  intro rem
  induction rem with
  | zero =>
    intro k m hk hm h
    obtain ⟨m, rfl⟩ : ∃ x, m = x + 1 := ⟨m - 1, by omega⟩
    obtain rfl : k = 30 := by omega
    left
    rw [fX3_knotToSend_2, if_pos (by decide)]
    exact ⟨rfl, h⟩
  | succ rem ih =>
    intro k m hk hm h
    obtain ⟨m, rfl⟩ : ∃ x, m = x + 1 := ⟨m - 1, by omega⟩
    obtain ⟨i1, i2⟩ := hi k (by omega)
    obtain ⟨⟨g1, g2⟩, g3⟩ := hg k (by omega)
    rw [fX3_knotToSend_2, if_neg (show ¬ (30 : Int32) ≤ nI k from nI_ge (b := 30) (by omega) (by omega)), ixN (show k < 30 by omega) (by decide)]
    simp only [gdT, cl k (show k < 2 ^ 31 by omega), i2, g3, fX3_knotToSend_28, nI_1]
    by_cases c : idl k = 0
    · rw [if_pos (show nI (idl k) ≤ 0 from nI_le (b := 0) (by omega) (by decide))]
      refine ih (k + 1) m (by omega) (by omega) (fun j hj hp => ?_)
      by_cases e : j = k
      · rw [e] at hp
        omega
      · exact h j (by omega) hp
    · rw [if_neg (show ¬ nI (idl k) ≤ 0 from nI_ge (a := 0) (by omega) (by omega))]
      by_cases z : g k ≤ 0
      · rw [if_pos (show zI (g k) ≤ 0 from (zI_le (b := 0) (by omega) (by omega) (by omega) (by omega)).mpr z)]
        refine ih (k + 1) m (by omega) (by omega) (fun j hj hp => ?_)
        by_cases e : j = k
        · rw [e]
          exact z
        · exact h j (by omega) hp
      · rw [if_neg (show ¬ zI (g k) ≤ 0 from fun w => z ((zI_le (b := 0) (by omega) (by omega) (by omega) (by omega)).mp w))]
        exact Or.inr ⟨k, by omega, rfl, by omega, by omega⟩
def RS (P : Nat) (fr to c u : Nat → Nat) (L : Nat) (rm um idl : Nat → Nat) (fs fe fc fm fi fu : Nat → Int32) : Prop := (P ≤ 74 ∧ L ≤ 500 ∧ ∀ i, i < P → u i ≤ 1000 ∧ rm (2 * i) + rm (2 * i + 1) = u i) ∧ RArcs (2 * P) (dS fr to) (dS to fr) (dC c) rm fs fe fc fm ∧ ∀ k, k < 30 → (um k ≤ 9 ∧ fu k = nI (um k)) ∧ (idl k ≤ 10 ∧ fi k = nI (idl k))
def GI (P : Nat) (fr to c : Nat → Nat) (L : Nat) (rm um : Nat → Nat) (g : Nat → Int) (wy : Nat → Option Nat) (fg fw : Nat → Int32) : Prop := RGain g wy fg fw ∧ WI (2 * P) (dS fr to) (dS to fr) (dC c) (fun a => 0 < rm a) (bsN L um) g wy ∧ Sup (2 * P) (dS fr to) (dS to fr) (dC c) (fun a => 0 < rm a) (bsN L um) g ∧ ∀ k, k < 30 → g k ≤ L
theorem rm_le {P : Nat} {u rm : Nat → Nat} (h : ∀ i, i < P → u i ≤ 1000 ∧ rm (2 * i) + rm (2 * i + 1) = u i) {a : Nat} (ha : a < 2 * P) : rm a ≤ 1000 := by
  obtain ⟨i, rfl | rfl⟩ := two_of a
  · have := h i (by omega)
    omega
  · have := h i (by omega)
    omega
theorem GI_tight {P L : Nat} {fr to c rm um : Nat → Nat} {g : Nat → Int} {wy : Nat → Option Nat} {fg fw : Nat → Int32} (h : GI P fr to c L rm um g wy fg fw) : ∀ x a, x < 30 → wy x = some a → a < 2 * P ∧ 0 < rm a ∧ dS fr to a = x ∧ g x = g (dS to fr a) - dC c a := by
  intro x a hx ha
  obtain ⟨h1, ⟨-, -, h2, -⟩, h3, -⟩ := h
  obtain ⟨a1, a2, a3, a4⟩ := h2 x a hx ha
  have a5 := h3.2 a a1 a2
  rw [a3] at a5
  exact ⟨a1, a2, a3, by omega⟩
/-- the chain out of a knot can bear a box at least -/
theorem thr_at {P L bb k0 : Nat} {fr to c u rm um idl : Nat → Nat} {g : Nat → Int} {wy : Nat → Option Nat} {fs fe fc fm fi fu fg fw : Nat → Int32} (hR : RS P fr to c u L rm um idl fs fe fc fm fi fu) (hG : GI P fr to c L rm um g wy fg fw) (hk : k0 < 30) (h0 : 0 < bb) (h1 : bb ≤ 1000) : ∃ r n, n ≤ 29 ∧ fX3_boxesThatGo_12 fe fm fw (fun a b => fX3_boxesThatGo_62 a b fu) FU (nI bb) (nI k0) 0 = some (nI r) ∧ 0 < r ∧ r ≤ bb ∧ Thr 30 P fr to c r g wy rm (fun e => um e = 0 ∨ r ≤ um e) n k0 := by
  have ht := GI_tight hG
  obtain ⟨⟨r1, r2, r3⟩, ⟨r4, r5⟩, r6⟩ := hR
  obtain ⟨g1, ⟨-, -, -, g2⟩, -, -⟩ := hG
  obtain ⟨n, hn⟩ := g2 k0 hk
  have hn9 := chn_short (fun k a hk ha => (r5 a (ht k a hk ha).1).1.2.1) hk hn
  obtain ⟨r, q⟩ := boxes_at (fr := fr) (to := to) (c := c) (rm := rm) (um := um) (g := g) (wy := wy) (fe := fe) (fm := fm) (fw := fw) (fu := fu) r1 (fun a ha => ⟨(r5 a ha).1.2.1, rm_le r3 ha, (r5 a ha).2.2.1, (r5 a ha).2.2.2.2⟩) (fun k hk => ⟨by have := (r6 k hk).1.1; omega, (r6 k hk).1.2, (g1 k hk).2.2⟩) (fun x a hx ha => ⟨(ht x a hx ha).1, (ht x a hx ha).2.1, (ht x a hx ha).2.2.2⟩) n k0 bb 0 FU hn hk (by omega) (by rw [FU_eq]; omega) h0 h1
  exact ⟨r, n, hn9, q⟩
theorem walk_CI {P L b k0 n : Nat} {fr to c u s d rm um idl idl2 : Nat → Nat} {g : Nat → Int} {V : Int} {wy : Nat → Option Nat} {fs fe fc fm fi fu fg fw : Nat → Int32} (K : Int32 → (Nat → Int32) → Option (Int32 × (Nat → Int32) × (Nat → Int32) × (Nat → Int32))) (hR : RS P fr to c u L rm um idl fs fe fc fm fi fu) (hG : GI P fr to c L rm um g wy fg fw) (hk : k0 < 30) (hn : n ≤ 29) (hb : b ≤ 1000) (hT : Thr 30 P fr to c b g wy rm (fun e => um e = 0 ∨ b ≤ um e) n k0) (hC : CI P fr to c u L s d rm um idl2 g V) (hbi : b ≤ idl2 k0) : ∃ e rm' fm', fX3_sendFrom_11 (nI b) fe fw K FU (nI k0) 0 fm = K (nI e) fm' ∧ e < 30 ∧ (um e = 0 ∨ b ≤ um e) ∧ (∀ a, a < 2 * P → 0 < rm' a → g (dS to fr a) - dC c a ≤ g (dS fr to a)) ∧ (∀ a, a < 2 * P → fm' a = nI (rm' a)) ∧ CI P fr to c u L s d rm' (umS um e b) (stN idl2 k0 (idl2 k0 - b)) g (V - b * g k0) := by
  have ht := GI_tight hG
  obtain ⟨⟨r1, r2, r3⟩, ⟨r4, r5⟩, r6⟩ := hR
  obtain ⟨g1, ⟨-, g2, -, -⟩, g3, -⟩ := hG
  obtain ⟨e, rm', fm', q1, q2, q3, q4, q5, q6⟩ := walk_at (fr := fr) (to := to) (c := c) (u := u) (rm0 := rm) (g := g) (wy := wy) (Q := fun e => um e = 0 ∨ b ≤ um e) (fe := fe) (fw := fw) K r1 hb (fun i hi => (r3 i hi).1) (fun a ha => (r5 a ha).2.2.1) (fun k hk => (g1 k hk).2.2) (fun x a hx ha => ⟨(ht x a hx ha).1, (ht x a hx ha).2.2.1⟩) n k0 0 FU rm fm hT hk (by omega) (by rw [FU_eq]; omega) (WK_start (fun i hi => (r3 i hi).2) g3.2) (fun a ha => (r5 a ha).2.2.2.2)
  exact ⟨e, rm', fm', q1, q2, q4, q5.2.2.2.2, q6, send_CI hC q5 q2 hbi q4 (g2 e q2 q3)⟩
/-- one send of the class -/
theorem send_at {P L k0 : Nat} {fr to c u s d rm um idl : Nat → Nat} {g : Nat → Int} {V : Int} {wy : Nat → Option Nat} {fs fe fc fm fi fu fg fw : Nat → Int32} (hR : RS P fr to c u L rm um idl fs fe fc fm fi fu) (hG : GI P fr to c L rm um g wy fg fw) (hC : CI P fr to c u L s d rm um idl g V) (hk : k0 < 30) (h0 : 0 < idl k0) : ∃ (b : Nat) (rm' um' idl' : Nat → Nat) (fm' fi' fu' : Nat → Int32), fX3_sendFrom (nI k0) (zI V) fe fm fi fu fg fw = some (zI (V - b * g k0), fm', fi', fu') ∧ RS P fr to c u L rm' um' idl' fs fe fc fm' fi' fu' ∧ CI P fr to c u L s d rm' um' idl' g (V - b * g k0) ∧ Sup (2 * P) (dS fr to) (dS to fr) (dC c) (fun a => 0 < rm' a) (bsN L um') g ∧ sumF 30 idl' < sumF 30 idl := by
  obtain ⟨i1, i2⟩ := (hR.2.2 k0 hk).2
  obtain ⟨b, n, n1, n2, n3, n4, n5⟩ := thr_at hR hG hk h0 (by omega)
  obtain ⟨e, rm', fm', q1, q2, q3, q4, q5, q6⟩ := walk_CI (fun v3 a => fX3_sendFrom_73 (nI k0) (nI b) v3 (zI V) a fi fu fg) hR hG hk n1 (by omega) n5 hC n4
  have gk := (hG.1 k0 hk).2.1
  obtain ⟨⟨u1, u2⟩, -⟩ := hR.2.2 e q2
  have eu : ∀ j, umS um e b j = if um e = 0 then um j else stN um e (um e - b) j := by
    intro j
    unfold umS stN
    by_cases z : um e = 0
    · rw [if_pos z, if_pos z]
      split
      · rename_i h
        rw [h, z]
      · rfl
    · rw [if_neg z, if_neg z]
  refine ⟨b, rm', umS um e b, stN idl k0 (idl k0 - b), fm', upd fi k0 (nI (idl k0 - b)), (if um e = 0 then fu else upd fu e (nI (um e - b))), ?_, ?_, q6, ?_, ?_⟩
  · rw [fX3_sendFrom, fX3_boxesThatGo, ixN hk (by decide), gdT, cl k0 (by omega), i2, n2, bn1S, q1, fX3_sendFrom_73, ixN q2 (by decide)]
    simp only [gdT, cl e (show e < 2 ^ 31 by omega), u2, fX3_sendFrom_92, ixN hk (show 30 < 2 ^ 31 by decide), cl k0 (show k0 < 2 ^ 31 by omega), gk, i2]
    rw [nI_subN n4, zI_nI b, zI_mul, zI_sub, ← zI_nI b]
    by_cases z : um e = 0
    · rw [if_pos (show nI (um e) ≤ 0 from nI_le (b := 0) (by omega) (by decide)), if_pos z]
    · rw [if_neg (show ¬ nI (um e) ≤ 0 from nI_ge (a := 0) (by omega) (by omega)), if_neg z, nI_subN (by omega)]
  · obtain ⟨⟨r1, r2, r3⟩, ⟨r4, r5⟩, r6⟩ := hR
    have r3' : ∀ i, i < P → u i ≤ 1000 ∧ rm' (2 * i) + rm' (2 * i + 1) = u i := fun i hi => ⟨(r3 i hi).1, q6.1 i hi⟩
    refine ⟨⟨r1, r2, r3'⟩, ⟨r4, fun a ha => ⟨⟨(r5 a ha).1.1, (r5 a ha).1.2.1, (r5 a ha).1.2.2.1, (r5 a ha).1.2.2.2.1, by have := rm_le r3' ha; omega⟩, (r5 a ha).2.1, (r5 a ha).2.2.1, (r5 a ha).2.2.2.1, q5 a ha⟩⟩, fun k hk' => ⟨⟨?_, ?_⟩, ?_, ?_⟩⟩
    · have := umS_le um e b k
      have := (r6 k hk').1.1
      omega
    · rw [eu]
      by_cases z : um e = 0
      · rw [if_pos z, if_pos z]
        exact (r6 k hk').1.2
      · rw [if_neg z, if_neg z]
        unfold upd stN
        split
        · rfl
        · exact (r6 k hk').1.2
    · unfold stN
      split
      · omega
      · exact (r6 k hk').2.1
    · unfold upd stN
      split
      · rfl
      · exact (r6 k hk').2.2
  · refine ⟨fun k hk' => ?_, q4⟩
    have a1 := hG.2.2.1.1 k hk'
    have a2 := umS_le um e b k
    have a3 := (hG.1 k hk').1.1
    unfold bsN at a1 ⊢
    split
    · exact a3
    · rw [if_neg (by omega)] at a1
      exact a1
  · refine sum_lt' _ _ k0 30 hk (fun i hi => ?_) ?_
    · unfold stN
      split
      · rename_i z
        rw [z]
        omega
      · exact Nat.le_refl _
    · rw [stN_same]
      omega
/-- the sends end in a plan that cannot be bettered -/
theorem sends_at {P L : Nat} {fr to c u s d : Nat → Nat} {fs fe fc : Nat → Int32} : ∀ (T v2 m : Nat) (rm um idl : Nat → Nat) (g : Nat → Int) (wy : Nat → Option Nat) (V : Int) (fm fi fu fg fw : Nat → Int32), sumF 30 idl ≤ T → v2 + T ≤ 270 → T < m → V ≤ 1000000 → RS P fr to c u L rm um idl fs fe fc fm fi fu → GI P fr to c L rm um g wy fg fw → CI P fr to c u L s d rm um idl g V → ∃ (rm' um' idl' : Nat → Nat) (g' : Nat → Int) (wy' : Nat → Option Nat) (V' : Int) (fm' fi' fu' fg' fw' : Nat → Int32), fX3_solve_19 (nI (2 * P)) (nI L) fs fe fc m (nI v2) (zI V) fm fi fu fg fw = some (nI (2 * P), nI L, zI V', fs, fe, fc, fm', fi', fu', fg', fw') ∧ V' ≤ 1000000 ∧ RS P fr to c u L rm' um' idl' fs fe fc fm' fi' fu' ∧ GI P fr to c L rm' um' g' wy' fg' fw' ∧ CI P fr to c u L s d rm' um' idl' g' V' ∧ ∀ k, k < 30 → 0 < idl' k → g' k ≤ 0 := by
  intro T
  induction T with
  | zero =>
    intro v2 m rm um idl g wy V fm fi fu fg fw hT hv hm hV hR hG hC
    obtain ⟨m, rfl⟩ : ∃ x, m = x + 1 := ⟨m - 1, by omega⟩
    rcases knot_at (idl := idl) (g := g) (fi := fi) (fg := fg) (fun k hk => (hR.2.2 k hk).2) (fun k hk => ⟨(hG.1 k hk).1, (hG.1 k hk).2.1⟩) 30 0 FU (by omega) (by rw [FU_eq]; omega) (fun j hj => absurd hj (by omega)) with ⟨k1, k2⟩ | ⟨k0, k1, k2, k3, k4⟩
    · refine ⟨rm, um, idl, g, wy, V, fm, fi, fu, fg, fw, ?_, hV, hR, hG, hC, k2⟩
      have k1 : fX3_knotToSend fi fg = some (-3) := k1
      rw [fX3_solve_19, if_neg (show ¬ (271 : Int32) ≤ nI v2 from nI_ge (b := 271) (by omega) (by omega)), k1, bn1S, if_neg (by decide)]
    · exfalso
      have := sum_lt' (fun j => stN idl k0 0 j) idl k0 30 k1 (fun i hi => by
        show stN idl k0 0 i ≤ idl i
        unfold stN
        split
        · omega
        · exact Nat.le_refl _) (by
        show stN idl k0 0 k0 < idl k0
        rw [stN_same]
        exact k3)
      omega
  | succ T ih =>
    intro v2 m rm um idl g wy V fm fi fu fg fw hT hv hm hV hR hG hC
    obtain ⟨m, rfl⟩ : ∃ x, m = x + 1 := ⟨m - 1, by omega⟩
    have e271 : ¬ (271 : Int32) ≤ nI v2 := nI_ge (b := 271) (by omega) (by omega)
    rcases knot_at (idl := idl) (g := g) (fi := fi) (fg := fg) (fun k hk => (hR.2.2 k hk).2) (fun k hk => ⟨(hG.1 k hk).1, (hG.1 k hk).2.1⟩) 30 0 FU (by omega) (by rw [FU_eq]; omega) (fun j hj => absurd hj (by omega)) with ⟨k1, k2⟩ | ⟨k0, k1, k2, k3, k4⟩
    · refine ⟨rm, um, idl, g, wy, V, fm, fi, fu, fg, fw, ?_, hV, hR, hG, hC, k2⟩
      have k1 : fX3_knotToSend fi fg = some (-3) := k1
      rw [fX3_solve_19, if_neg e271, k1, bn1S, if_neg (by decide)]
    · have k2 : fX3_knotToSend fi fg = some (nI k0) := k2
      obtain ⟨b, rm', um', idl', fm', fi', fu', q1, q2, q3, q4, q5⟩ := send_at hR hG hC k1 k3
      obtain ⟨g', wy', fg', fw', p1, p2, p3, p4, p5⟩ := reckon_at (fg0 := fg) (fw0 := fw) q2.2.1 q2.1.2.1 (fun k hk => ⟨by have := (q2.2.2 k hk).1.1; omega, (q2.2.2 k hk).1.2⟩) q4 (fun k hk => (hG.1 k hk).1.2)
      have fall := p5 g q4
      have C' : CI P fr to c u L s d rm' um' idl' g' (V - b * g k0) := by
        obtain ⟨c1, c2, c3, c4, c5⟩ := q3
        refine ⟨c1, c2, c3, fun k hk h => ?_, c5⟩
        have a1 := c4 k hk h
        have a2 := fall k hk
        have a3 := (p2 k hk).1.1
        omega
      have bg : 0 ≤ (b : Int) * g k0 := Int.mul_nonneg (by omega) (by omega)
      have nx := ih (v2 + 1) m rm' um' idl' g' wy' (V - b * g k0) fm' fi' fu' fg' fw' (by omega) (by omega) (by omega) (by omega) q2 ⟨p2, p3, p4, fun k hk => Int.le_trans (fall k hk) (hG.2.2.2 k hk)⟩ C'
      rw [fX3_solve_19, if_neg e271, k2, bn1S, if_pos (show (0 : Int32) ≤ nI k0 from nI_le (a := 0) (by omega) (by omega)), q1, bn4S, p1, bn2S, nI_1]
      exact nx
