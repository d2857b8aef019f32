/-! THE PLAN: the class lays knots and arcs -/
theorem bn5S {α0 α1 α2 α3 α4 γ : Type} (a0 : α0) (a1 : α1) (a2 : α2) (a3 : α3) (a4 : α4) (k : α0 → α1 → α2 → α3 → α4 → Option γ) : bn5 (some (a0, a1, a2, a3, a4)) k = k a0 a1 a2 a3 a4 := rfl
theorem imax_sub {a b : Nat} (ha : a ≤ 1000) (hb : b ≤ 1000) : imax 0 (nI a - nI b) = nI (a - b) := by
  unfold imax
  by_cases c : b < a
  · rw [nI_subN (by omega), if_pos (show (0 : Int32) < nI (a - b) from nI_lt (a := 0) (by omega) (by omega))]
  · rw [zI_nI a, zI_nI b, zI_sub, if_neg (show ¬ (0 : Int32) < zI (a - b) from fun w => by
      have := (zI_lt (a := 0) (by omega) (by omega) (by omega) (by omega)).mp w
      omega), show a - b = 0 by omega]
    rfl
def RWk (s d : Nat → Nat) (wf : Nat → Int32) : Prop := ∀ k, k < 30 → (s k ≤ 9 ∧ d k ≤ 9) ∧ wf (2 * k) = nI (s k) ∧ wf (2 * k + 1) = nI (d k)
def RRt (nR : Nat) (rt : Nat → Nat) (f : Nat → Int32) : Prop := nR ≤ 10 ∧ ∀ r, r < nR → (rt (5 * r) ≤ 5 ∧ rt (5 * r + 1) ≤ 5 ∧ rt (5 * r + 2) ≤ 2 ∧ rt (5 * r + 3) ≤ 99 ∧ rt (5 * r + 4) ≤ 9) ∧ f (5 * r) = nI (rt (5 * r)) ∧ f (5 * r + 1) = nI (rt (5 * r + 1)) ∧ f (5 * r + 2) = nI (rt (5 * r + 2)) ∧ f (5 * r + 3) = nI (rt (5 * r + 3)) ∧ f (5 * r + 4) = nI (rt (5 * r + 4))
theorem knots_at {s d : Nat → Nat} {L : Nat} {wf fi0 fu0 : Nat → Int32} {x y : Int32} (h : RWk s d wf) : ∃ fi fu, fX3_layKnots x y fi0 fu0 (nI L) (nI 30) wf = some (nI L, zI (isum 30 (fun k => (L : Int) * (d k - s k : Nat))), fi, fu) ∧ ∀ k, k < 30 → fi k = nI (s k - d k) ∧ fu k = nI (d k - s k) := by
  have main := loopK (σ := Int32 × (Nat → Int32) × (Nat → Int32)) (fun n i t => fX3_layKnots_15 (nI L) (nI 30) wf n i t.1 t.2.1 t.2.2) 30 (fun i t => t.1 = zI (isum i (fun k => (L : Int) * (d k - s k : Nat))) ∧ ∀ k, k < i → t.2.1 k = nI (s k - d k) ∧ t.2.2 k = nI (d k - s k)) (fun t => some (nI L, t.1, t.2.1, t.2.2)) ?_ ?_ 30 0 FU (0, fi0, fu0) (by omega) ⟨rfl, fun k hk => absurd hk (by omega)⟩ (by rw [FU_eq]; omega)
  · obtain ⟨t, ⟨q1, q2⟩, q3⟩ := main
    refine ⟨t.2.1, t.2.2, ?_, q2⟩
    have q3 : fX3_layKnots x y fi0 fu0 (nI L) (nI 30) wf = some (nI L, t.1, t.2.1, t.2.2) := q3
    rw [q3, q1]
  · intro m t ht
    show fX3_layKnots_15 _ _ _ (m + 1) (nI 30) t.1 t.2.1 t.2.2 = _
    rw [fX3_layKnots_15, if_pos (by decide)]
  · intro m i t hi ht
    obtain ⟨⟨s9, d9⟩, w1, w2⟩ := h i hi
    refine ⟨(t.1 + nI L * nI (d i - s i), upd t.2.1 i (nI (s i - d i)), upd t.2.2 i (nI (d i - s i))), ?_, ?_, fun k hk => ?_⟩
    · show fX3_layKnots_15 _ _ _ (m + 1) (nI i) t.1 t.2.1 t.2.2 = _
      have c0 : fX4_cell (nI i) 0 2 (nI 30) 60 wf = some (wf (2 * i)) := cell_at (c := 0) (cols := 2) (rows := 30) hi (by decide) (by omega) (by decide) (by decide) (by decide)
      have c1 : fX4_cell (nI i) 1 2 (nI 30) 60 wf = some (wf (2 * i + 1)) := cell_at (c := 1) (cols := 2) (rows := 30) hi (by decide) (by omega) (by decide) (by decide) (by decide)
      rw [fX3_layKnots_15, if_neg (show ¬ (30 : Int32) ≤ nI i from nI_ge (b := 30) hi (by omega)), c0, bn1S, c1, bn1S, w1, w2, ixN hi (by decide)]
      simp only [gdT, cl i (show i < 2 ^ 31 by omega), nI_1]
      rw [upd_same, imax_sub (by omega) (by omega), imax_sub (by omega) (by omega)]
    · show t.1 + nI L * nI (d i - s i) = _
      rw [ht.1, zI_nI, zI_nI, zI_mul, zI_add]
      rfl
    · show upd t.2.1 i (nI (s i - d i)) k = nI (s k - d k) ∧ upd t.2.2 i (nI (d i - s i)) k = nI (d k - s k)
      by_cases e : k = i
      · rw [e, upd_same, upd_same]
        exact ⟨rfl, rfl⟩
      · rw [upd_ne _ _ e, upd_ne _ _ e]
        exact ht.2 k (by omega)
abbrev LT : Type := Int32 × (Nat → Int32) × (Nat → Int32) × (Nat → Int32) × (Nat → Int32)
/-- what is laid has at most B pairs, and any sum over it is S -/
def LSum (t : LT) (B : Nat) (S : (Nat → Nat → Nat → Nat → Int) → Int) : Prop := ∃ (P : Nat) (fr to c u : Nat → Nat), P ≤ B ∧ t.1 = nI (2 * P) ∧ Laid P fr to c u t.2.1 t.2.2.1 t.2.2.2.1 t.2.2.2.2 ∧ ∀ G, isum P (fun i => G (fr i) (to i) (c i) (u i)) = S G
theorem lay_sum {t : LT} {B a b co ro : Nat} {S : (Nat → Nat → Nat → Nat → Int) → Int} (h : LSum t B S) (hB : B < 74) (ha : a < 30) (hb : b < 30) (hco : co ≤ 99) (hro : ro ≤ 1000) : ∃ t' : LT, fX3_layArc (nI a) (nI b) (nI co) (nI ro) t.1 t.2.1 t.2.2.1 t.2.2.2.1 t.2.2.2.2 = some (t'.1, t'.2.1, t'.2.2.1, t'.2.2.2.1, t'.2.2.2.2) ∧ LSum t' (B + 1) (fun G => S G + G a b co ro) := by
  obtain ⟨P, fr, to, c, u, h1, h2, h3, h4⟩ := h
  obtain ⟨fs', fe', fc', fm', q1, q2⟩ := lay_at h3 (by omega) ha hb hco hro
  refine ⟨(nI (2 * (P + 1)), fs', fe', fc', fm'), ?_, P + 1, stN fr P a, stN to P b, stN c P co, stN u P ro, by omega, rfl, q2, fun G => ?_⟩
  · rw [h2]
    exact q1
  · rw [isum_lay, h4]
def rsum (rt : Nat → Nat) (w r : Nat) (G : Nat → Nat → Nat → Nat → Int) : Int := isum r (fun r => if w + rt (5 * r + 2) < 5 then G (6 * w + rt (5 * r)) (6 * (w + rt (5 * r + 2)) + rt (5 * r + 1)) (rt (5 * r + 3)) (rt (5 * r + 4)) else 0)
def wsum (w p : Nat) (G : Nat → Nat → Nat → Nat → Int) : Int := isum p (fun p => G (6 * w + p) (6 * (w + 1) + p) 0 1000)
theorem knotOf_at {p w : Nat} : fX6_knotOf (nI p) (nI w) = some (nI (6 * w + p)) := by
  unfold fX6_knotOf
  rw [show nI w * 6 = nI (w * 6) from pk_mul w 6, nI_add, Nat.mul_comm]
/-- the routes of one week -/
theorem wroutes_at {nR w : Nat} {rt : Nat → Nat} {rf : Nat → Int32} (hR : RRt nR rt rf) (hw : w < 5) (K : Int32 → (Nat → Int32) → (Nat → Int32) → (Nat → Int32) → (Nat → Int32) → Option LT) {t : LT} {B : Nat} {S : (Nat → Nat → Nat → Nat → Int) → Int} (h : LSum t B S) (hB : B + nR ≤ 74) : ∃ t' : LT, fX3_layArcs_13 (nI w) (nI nR) rf K FU 0 t.1 t.2.1 t.2.2.1 t.2.2.2.1 t.2.2.2.2 = K t'.1 t'.2.1 t'.2.2.1 t'.2.2.2.1 t'.2.2.2.2 ∧ LSum t' (B + nR) (fun G => S G + rsum rt w nR G) := by
  obtain ⟨n10, hR⟩ := hR
  have main := loopK (σ := LT) (fun n i t => fX3_layArcs_13 (nI w) (nI nR) rf K n i t.1 t.2.1 t.2.2.1 t.2.2.2.1 t.2.2.2.2) nR (fun i t => LSum t (B + i) (fun G => S G + rsum rt w i G)) (fun t => K t.1 t.2.1 t.2.2.1 t.2.2.2.1 t.2.2.2.2) ?_ ?_ nR 0 FU t (by omega) ?_ (by rw [FU_eq]; omega)
  · obtain ⟨t', q1, q2⟩ := main
    exact ⟨t', q2, q1⟩
  · intro m t ht
    show fX3_layArcs_13 _ _ _ _ (m + 1) (nI nR) t.1 t.2.1 t.2.2.1 t.2.2.2.1 t.2.2.2.2 = _
    rw [fX3_layArcs_13, sz_at, bn1S, if_pos (nI_le (Nat.le_refl _) (by omega))]
  · intro m i t hi ht
    obtain ⟨⟨b1, b2, b3, b4, b5⟩, f1, f2, f3, f4, f5⟩ := hR i hi
    have c : ∀ j, j < 5 → fX4_cell (nI i) (nI j) 5 (nI nR) 50 rf = some (rf (5 * i + j)) := fun j hj => cell_at (c := j) (cols := 5) (rows := nR) hi hj (by omega) (by omega) (by decide) (by decide)
    have c0 : fX4_cell (nI i) 0 5 (nI nR) 50 rf = some (nI (rt (5 * i))) := by rw [← f1]; exact c 0 (by decide)
    have c1 : fX4_cell (nI i) 1 5 (nI nR) 50 rf = some (nI (rt (5 * i + 1))) := by rw [← f2]; exact c 1 (by decide)
    have c2 : fX4_cell (nI i) 2 5 (nI nR) 50 rf = some (nI (rt (5 * i + 2))) := by rw [← f3]; exact c 2 (by decide)
    have c3 : fX4_cell (nI i) 3 5 (nI nR) 50 rf = some (nI (rt (5 * i + 3))) := by rw [← f4]; exact c 3 (by decide)
    have c4 : fX4_cell (nI i) 4 5 (nI nR) 50 rf = some (nI (rt (5 * i + 4))) := by rw [← f5]; exact c 4 (by decide)
    by_cases z : w + rt (5 * i + 2) < 5
    · obtain ⟨t', q1, q2⟩ := lay_sum (a := 6 * w + rt (5 * i)) (b := 6 * (w + rt (5 * i + 2)) + rt (5 * i + 1)) (co := rt (5 * i + 3)) (ro := rt (5 * i + 4)) ht (by omega) (by omega) (by omega) (by omega) (by omega)
      refine ⟨t', ?_, ?_⟩
      · show fX3_layArcs_13 _ _ _ _ (m + 1) (nI i) t.1 t.2.1 t.2.2.1 t.2.2.2.1 t.2.2.2.2 = _
        rw [fX3_layArcs_13, sz_at, bn1S, if_neg (nI_ge hi (by omega)), c2, bn1S, nI_add, if_neg (show ¬ (5 : Int32) ≤ nI (w + rt (5 * i + 2)) from nI_ge (b := 5) z (by omega)), c0, bn1S, knotOf_at, bn1S, c1, bn1S, knotOf_at, bn1S, c3, bn1S, c4, bn1S, q1, bn5S, fX3_layArcs_74, nI_1]
      · have e : (fun G => S G + rsum rt w (i + 1) G) = (fun G => S G + rsum rt w i G + G (6 * w + rt (5 * i)) (6 * (w + rt (5 * i + 2)) + rt (5 * i + 1)) (rt (5 * i + 3)) (rt (5 * i + 4))) := by
          funext G
          unfold rsum
          rw [isum, if_pos z]
          omega
        rw [e]
        exact q2
    · refine ⟨t, ?_, ?_⟩
      · show fX3_layArcs_13 _ _ _ _ (m + 1) (nI i) t.1 t.2.1 t.2.2.1 t.2.2.2.1 t.2.2.2.2 = _
        rw [fX3_layArcs_13, sz_at, bn1S, if_neg (nI_ge hi (by omega)), c2, bn1S, nI_add, if_pos (show (5 : Int32) ≤ nI (w + rt (5 * i + 2)) from nI_le (a := 5) (by omega) (by omega)), fX3_layArcs_74, nI_1]
      · obtain ⟨P, fr, to, c, u, h1, h2, h3, h4⟩ := ht
        refine ⟨P, fr, to, c, u, by omega, h2, h3, fun G => ?_⟩
        show isum P _ = S G + rsum rt w (i + 1) G
        rw [h4]
        show S G + rsum rt w i G = S G + rsum rt w (i + 1) G
        unfold rsum
        rw [isum, if_neg z, Int.add_zero]
  · obtain ⟨P, fr, to, c, u, h1, h2, h3, h4⟩ := h
    refine ⟨P, fr, to, c, u, by omega, h2, h3, fun G => ?_⟩
    rw [h4]
    exact (Int.add_zero _).symm
/-- the waits of one week -/
theorem wwaits_at {w : Nat} (hw : w < 4) (K : Int32 → (Nat → Int32) → (Nat → Int32) → (Nat → Int32) → (Nat → Int32) → Option LT) {t : LT} {B : Nat} {S : (Nat → Nat → Nat → Nat → Int) → Int} (h : LSum t B S) (hB : B + 6 ≤ 74) : ∃ t' : LT, fX3_layArcs_82 (nI w) K FU 0 t.1 t.2.1 t.2.2.1 t.2.2.2.1 t.2.2.2.2 = K t'.1 t'.2.1 t'.2.2.1 t'.2.2.2.1 t'.2.2.2.2 ∧ LSum t' (B + 6) (fun G => S G + wsum w 6 G) := by
  have main := loopK (σ := LT) (fun n i t => fX3_layArcs_82 (nI w) K n i t.1 t.2.1 t.2.2.1 t.2.2.2.1 t.2.2.2.2) 6 (fun i t => LSum t (B + i) (fun G => S G + wsum w i G)) (fun t => K t.1 t.2.1 t.2.2.1 t.2.2.2.1 t.2.2.2.2) ?_ ?_ 6 0 FU t (by omega) ?_ (by rw [FU_eq]; omega)
  · obtain ⟨t', q1, q2⟩ := main
    exact ⟨t', q2, q1⟩
  · intro m t ht
    show fX3_layArcs_82 _ _ (m + 1) (nI 6) t.1 t.2.1 t.2.2.1 t.2.2.2.1 t.2.2.2.2 = _
    rw [fX3_layArcs_82, if_pos (by decide)]
  · intro m i t hi ht
    obtain ⟨t', q1, q2⟩ := lay_sum (a := 6 * w + i) (b := 6 * (w + 1) + i) (co := 0) (ro := 1000) ht (by omega) (by omega) (by omega) (by omega) (by omega)
    have q1 : fX3_layArc (nI (6 * w + i)) (nI (6 * (w + 1) + i)) 0 1000 t.1 t.2.1 t.2.2.1 t.2.2.2.1 t.2.2.2.2 = _ := q1
    refine ⟨t', ?_, ?_⟩
    · show fX3_layArcs_82 _ _ (m + 1) (nI i) t.1 t.2.1 t.2.2.1 t.2.2.2.1 t.2.2.2.2 = _
      rw [fX3_layArcs_82, if_neg (show ¬ (6 : Int32) ≤ nI i from nI_ge (b := 6) hi (by omega)), nI_1, if_neg (show ¬ (5 : Int32) ≤ nI (w + 1) from nI_ge (b := 5) (by omega) (by omega)), knotOf_at, bn1S, knotOf_at, bn1S, q1, bn5S, nI_1]
    · have e : (fun G => S G + wsum w (i + 1) G) = (fun G => S G + wsum w i G + G (6 * w + i) (6 * (w + 1) + i) 0 1000) := by
        funext G
        unfold wsum
        rw [isum]
        omega
      rw [e]
      exact q2
  · obtain ⟨P, fr, to, c, u, h1, h2, h3, h4⟩ := h
    refine ⟨P, fr, to, c, u, by omega, h2, h3, fun G => ?_⟩
    rw [h4]
    exact (Int.add_zero _).symm
def ksum (nR : Nat) (rt : Nat → Nat) (w : Nat) (G : Nat → Nat → Nat → Nat → Int) : Int := rsum rt w nR G + (if w + 1 < 5 then wsum w 6 G else 0)
/-- all arcs of the class -/
theorem arcs_at {nR : Nat} {rt : Nat → Nat} {rf : Nat → Int32} (hR : RRt nR rt rf) {x : Int32} {fs0 fe0 fc0 fm0 : Nat → Int32} : ∃ t' : LT, fX3_layArcs x fs0 fe0 fc0 fm0 (nI nR) rf = some (t'.1, t'.2.1, t'.2.2.1, t'.2.2.2.1, t'.2.2.2.2) ∧ LSum t' 74 (fun G => csum nR rt G) := by
  have n10 := hR.1
  have main := loopD (σ := LT) (fun n i t => fX3_layArcs_7 (nI nR) rf n i t.1 t.2.1 t.2.2.1 t.2.2.2.1 t.2.2.2.2) (fun j t => LSum t (10 * (5 - j) + 6 * (4 - j)) (fun G => isum (5 - j) (fun i => ksum nR rt (4 - i) G))) (fun t => some (t.1, t.2.1, t.2.2.1, t.2.2.2.1, t.2.2.2.2)) ?_ 5 ?_ 5 FU ((0, fs0, fe0, fc0, fm0) : LT) (by omega) ?_ (by rw [FU_eq]; omega)
  · obtain ⟨t', q1, q2⟩ := main
    refine ⟨t', q2, ?_⟩
    have e : (fun G => csum nR rt G) = (fun G => isum (5 - 0) (fun i => ksum nR rt (4 - i) G)) := by
      funext G
      show isum 5 (fun w => ksum nR rt w G) = isum 5 (fun i => ksum nR rt (4 - i) G)
      show 0 + ksum nR rt 0 G + ksum nR rt 1 G + ksum nR rt 2 G + ksum nR rt 3 G + ksum nR rt 4 G = 0 + ksum nR rt 4 G + ksum nR rt 3 G + ksum nR rt 2 G + ksum nR rt 1 G + ksum nR rt 0 G
      omega
    rw [e]
    exact q1
  · intro m t ht
    show fX3_layArcs_7 _ _ (m + 1) (-1) t.1 t.2.1 t.2.2.1 t.2.2.2.1 t.2.2.2.2 = _
    rw [fX3_layArcs_7, if_pos (by decide)]
  · intro m j t hj ht
    obtain ⟨t1, q1, q2⟩ := wroutes_at hR hj (fun a b c d e => fX3_layArcs_80 (fun v2 a b c d e => fX3_layArcs_7 (nI nR) rf m v2 a b c d e) (nI j) a b c d e) ht (by omega)
    have e4 : 4 - (5 - (j + 1)) = j := by omega
    have hS : ∀ G, isum (5 - j) (fun i => ksum nR rt (4 - i) G) = isum (5 - (j + 1)) (fun i => ksum nR rt (4 - i) G) + ksum nR rt j G := by
      intro G
      rw [show 5 - j = (5 - (j + 1)) + 1 by omega]
      show isum (5 - (j + 1)) (fun i => ksum nR rt (4 - i) G) + ksum nR rt (4 - (5 - (j + 1))) G = _
      rw [e4]
    have hd : fX3_layArcs_7 (nI nR) rf (m + 1) (nI j) t.1 t.2.1 t.2.2.1 t.2.2.2.1 t.2.2.2.2 = fX3_layArcs_80 (fun v2 a b c d e => fX3_layArcs_7 (nI nR) rf m v2 a b c d e) (nI j) t1.1 t1.2.1 t1.2.2.1 t1.2.2.2.1 t1.2.2.2.2 := by
      rw [fX3_layArcs_7, if_neg (show ¬ nI j < 0 from nI_nlt (b := 0) (by omega) (by omega)), q1]
    by_cases z : j < 4
    · obtain ⟨t2, p1, p2⟩ := wwaits_at z (fun a b c d e => fX3_layArcs_121 (fun v2 a b c d e => fX3_layArcs_7 (nI nR) rf m v2 a b c d e) (nI j) a b c d e) q2 (by omega)
      refine ⟨t2, ?_, ?_⟩
      · show fX3_layArcs_7 (nI nR) rf (m + 1) (nI j) t.1 t.2.1 t.2.2.1 t.2.2.2.1 t.2.2.2.2 = _
        rw [hd, fX3_layArcs_80, p1, fX3_layArcs_121]
      · obtain ⟨P, fr, to, c, u, h1, h2, h3, h4⟩ := p2
        refine ⟨P, fr, to, c, u, by omega, h2, h3, fun G => ?_⟩
        show isum P _ = isum (5 - j) (fun i => ksum nR rt (4 - i) G)
        rw [h4, hS]
        show isum (5 - (j + 1)) (fun i => ksum nR rt (4 - i) G) + rsum rt j nR G + wsum j 6 G = _
        rw [show ksum nR rt j G = rsum rt j nR G + (if j + 1 < 5 then wsum j 6 G else 0) from rfl, if_pos (by omega)]
        omega
    · refine ⟨t1, ?_, ?_⟩
      · show fX3_layArcs_7 (nI nR) rf (m + 1) (nI j) t.1 t.2.1 t.2.2.1 t.2.2.2.1 t.2.2.2.2 = _
        obtain ⟨fu, hfu⟩ : ∃ fu, FU = fu + 1 := ⟨999999, by rw [FU_eq]⟩
        rw [hd, fX3_layArcs_80, hfu, fX3_layArcs_82, if_neg (by decide), nI_1, if_pos (show (5 : Int32) ≤ nI (j + 1) from nI_le (a := 5) (by omega) (by omega)), fX3_layArcs_121]
      · obtain ⟨P, fr, to, c, u, h1, h2, h3, h4⟩ := q2
        refine ⟨P, fr, to, c, u, by omega, h2, h3, fun G => ?_⟩
        show isum P _ = isum (5 - j) (fun i => ksum nR rt (4 - i) G)
        rw [h4, hS]
        show isum (5 - (j + 1)) (fun i => ksum nR rt (4 - i) G) + rsum rt j nR G = _
        rw [show ksum nR rt j G = rsum rt j nR G + (if j + 1 < 5 then wsum j 6 G else 0) from rfl, if_neg (by omega)]
        omega
  · exact ⟨0, fun _ => 0, fun _ => 0, fun _ => 0, fun _ => 0, by omega, rfl, fun i hi => absurd hi (by omega), fun G => rfl⟩
