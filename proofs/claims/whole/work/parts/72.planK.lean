/-! THE PLAN: the reference lays its arcs -/
def LaidR (P : Nat) (fr to c u : Nat → Nat) (ff ft fm fc : Nat → Int32) : Prop := ∀ i, i < P → (fr i < 32 ∧ to i < 32 ∧ c i ≤ 99 ∧ u i ≤ 1000) ∧ (ff (2 * i) = nI (fr i) ∧ ft (2 * i) = nI (to i) ∧ fm (2 * i) = nI (u i) ∧ fc (2 * i) = nI (c i)) ∧ (ff (2 * i + 1) = nI (to i) ∧ ft (2 * i + 1) = nI (fr i) ∧ fm (2 * i + 1) = nI 0 ∧ fc (2 * i + 1) = zI (-(c i : Int)))
theorem layR_at {P a b co ro : Nat} {fr to c u : Nat → Nat} {ff ft fm fc : Nat → Int32} (h : LaidR P fr to c u ff ft fm fc) (hP : P < 150) (ha : a < 32) (hb : b < 32) (hco : co ≤ 99) (hro : ro ≤ 1000) : ∃ ff' ft' fm' fc', fX7_addArc (nI a) (nI b) (nI ro) (nI co) (nI (2 * P)) ff ft fm fc = some (nI (2 * (P + 1)), ff', ft', fm', fc') ∧ LaidR (P + 1) (stN fr P a) (stN to P b) (stN c P co) (stN u P ro) ff' ft' fm' fc' := by
  have neg : -nI co = zI (-(co : Int)) := by
    rw [← Int32.zero_sub, zI_nI, show (0 : Int32) = zI 0 from rfl, zI_sub, Int.zero_sub]
  refine ⟨upd (upd ff (2 * P) (nI a)) (2 * P + 1) (nI b), upd (upd ft (2 * P) (nI b)) (2 * P + 1) (nI a), upd (upd fm (2 * P) (nI ro)) (2 * P + 1) (nI 0), upd (upd fc (2 * P) (nI co)) (2 * P + 1) (zI (-(co : Int))), ?_, ?_⟩
  · rw [fX7_addArc, nI_1, ixN (show 2 * P < 300 by omega) (by decide), ixN (show 2 * P + 1 < 300 by omega) (by decide)]
    simp only [gdT]
    rw [cl _ (by omega), cl _ (by omega), neg, show nI (2 * P) + 2 = nI (2 * P + 2) from nI_add _ 2]
    rfl
  · intro i hi
    by_cases e : i = P
    · subst e
      rw [stN_same, stN_same, stN_same, stN_same]
      refine ⟨⟨ha, hb, hco, hro⟩, ⟨?_, ?_, ?_, ?_⟩, ⟨upd_same _ _ _, upd_same _ _ _, upd_same _ _ _, upd_same _ _ _⟩⟩
      · rw [upd_ne _ _ (by omega), upd_same]
      · rw [upd_ne _ _ (by omega), upd_same]
      · rw [upd_ne _ _ (by omega), upd_same]
      · rw [upd_ne _ _ (by omega), upd_same]
    · rw [stN_ne _ _ e, stN_ne _ _ e, stN_ne _ _ e, stN_ne _ _ e]
      have k : ∀ (f : Nat → Int32) (v w : Int32) (j : Nat), j < 2 * P → upd (upd f (2 * P) v) (2 * P + 1) w j = f j := fun f v w j hj => by rw [upd_ne _ _ (by omega), upd_ne _ _ (by omega)]
      rw [k _ _ _ (2 * i) (by omega), k _ _ _ (2 * i) (by omega), k _ _ _ (2 * i) (by omega), k _ _ _ (2 * i) (by omega), k _ _ _ (2 * i + 1) (by omega), k _ _ _ (2 * i + 1) (by omega), k _ _ _ (2 * i + 1) (by omega), k _ _ _ (2 * i + 1) (by omega)]
      exact h i (by omega)
def RSum (t : LT) (B : Nat) (S : (Nat → Nat → Nat → Nat → Int) → Int) : Prop := ∃ (P : Nat) (fr to c u : Nat → Nat), P ≤ B ∧ t.1 = nI (2 * P) ∧ LaidR P fr to c u t.2.1 t.2.2.1 t.2.2.2.1 t.2.2.2.2 ∧ ∀ G, isum P (fun i => G (fr i) (to i) (c i) (u i)) = S G
theorem RSum_as {t : LT} {B B' : Nat} {S S' : (Nat → Nat → Nat → Nat → Int) → Int} (h : RSum t B S) (hB : B ≤ B') (hS : ∀ G, S G = S' G) : RSum t B' S' := by
  obtain ⟨P, fr, to, c, u, h1, h2, h3, h4⟩ := h
  exact ⟨P, fr, to, c, u, by omega, h2, h3, fun G => by rw [h4, hS]⟩
theorem addR_sum {t : LT} {B a b co ro : Nat} {S : (Nat → Nat → Nat → Nat → Int) → Int} (h : RSum t B S) (hB : B < 150) (ha : a < 32) (hb : b < 32) (hco : co ≤ 99) (hro : ro ≤ 1000) : ∃ t' : LT, fX7_addArc (nI a) (nI b) (nI ro) (nI co) t.1 t.2.1 t.2.2.1 t.2.2.2.1 t.2.2.2.2 = some (t'.1, t'.2.1, t'.2.2.1, t'.2.2.2.1, t'.2.2.2.2) ∧ RSum t' (B + 1) (fun G => S G + G a b co ro) := by
  obtain ⟨P, fr, to, c, u, h1, h2, h3, h4⟩ := h
  obtain ⟨ff', ft', fm', fc', q1, q2⟩ := layR_at h3 (by omega) ha hb hco hro
  refine ⟨(nI (2 * (P + 1)), ff', ft', fm', fc'), ?_, P + 1, stN fr P a, stN to P b, stN c P co, stN u P ro, by omega, rfl, q2, fun G => ?_⟩
  · rw [h2]
    exact q1
  · rw [isum_lay, h4]
def vterm (sr dr : Nat → Nat) (G : Nat → Nat → Nat → Nat → Int) (v : Nat) : Int := G 30 v 0 (sr v) + G v 31 0 (dr v) + (if v % 5 < 4 then G v (v + 1) 0 1000 else 0)
/-- the arcs of one knot -/
theorem knotR_at {v : Nat} {sr dr : Nat → Nat} {wk : Nat → Int32} {x y : Int32} (hv : v < 30) (hs : x + y = nI (sr v)) (hs9 : sr v ≤ 10) (hd : wk (30 + v) = nI (dr v)) (hd9 : dr v ≤ 9) (K : Int32 → Int32 → (Nat → Int32) → (Nat → Int32) → (Nat → Int32) → (Nat → Int32) → Option LT) {t : LT} {B : Nat} {S : (Nat → Nat → Nat → Nat → Int) → Int} (h : RSum t B S) (hB : B + 3 ≤ 150) : ∃ t' : LT, fX7_addArcs_33 K (nI v) 30 (nI v) x y t.1 wk t.2.1 t.2.2.1 t.2.2.2.1 t.2.2.2.2 = K (nI (v + 1)) t'.1 t'.2.1 t'.2.2.1 t'.2.2.2.1 t'.2.2.2.2 ∧ RSum t' (B + 3) (fun G => S G + vterm sr dr G v) := by
  obtain ⟨t1, a1, a2⟩ := addR_sum (a := 30) (b := v) (co := 0) (ro := sr v) h (by omega) (by omega) (by omega) (by omega) (by omega)
  obtain ⟨t2, b1, b2⟩ := addR_sum (a := v) (b := 31) (co := 0) (ro := dr v) a2 (by omega) (by omega) (by omega) (by omega) (by omega)
  have a1 : fX7_addArc 30 (nI v) (nI (sr v)) 0 t.1 t.2.1 t.2.2.1 t.2.2.2.1 t.2.2.2.2 = _ := a1
  have b1 : fX7_addArc (nI v) 31 (nI (dr v)) 0 t1.1 t1.2.1 t1.2.2.1 t1.2.2.2.1 t1.2.2.2.2 = _ := b1
  have rem : irem (nI v) 5 = nI (v % 5) := remN (d := 5) (by omega) (by decide) (by decide)
  have h30 : (30 : Int32) + nI v = nI (30 + v) := nI_add 30 v
  by_cases e : v % 5 < 4
  · obtain ⟨t3, c1, c2⟩ := addR_sum (a := v) (b := v + 1) (co := 0) (ro := 1000) b2 (by omega) (by omega) (by omega) (by omega) (by omega)
    have c1 : fX7_addArc (nI v) (nI (v + 1)) 1000 0 t2.1 t2.2.1 t2.2.2.1 t2.2.2.2.1 t2.2.2.2.2 = _ := c1
    refine ⟨t3, ?_, RSum_as c2 (by omega) (fun G => ?_)⟩
    · rw [fX7_addArcs_33, hs, a1, bn5S, h30, ixN (show 30 + v < 60 by omega) (by decide), gdT, cl _ (by omega), hd, b1, bn5S, rem, if_neg (show ¬ (4 : Int32) ≤ nI (v % 5) from nI_ge (b := 4) e (by omega)), nI_1, c1, bn5S, fX7_addArcs_74, nI_1]
    · unfold vterm
      rw [if_pos e]
      omega
  · refine ⟨t2, ?_, RSum_as b2 (by omega) (fun G => ?_)⟩
    · rw [fX7_addArcs_33, hs, a1, bn5S, h30, ixN (show 30 + v < 60 by omega) (by decide), gdT, cl _ (by omega), hd, b1, bn5S, rem, if_pos (show (4 : Int32) ≤ nI (v % 5) from nI_le (a := 4) (by omega) (by omega)), fX7_addArcs_74, nI_1]
    · unfold vterm
      rw [if_neg e]
      omega
def RWr (v1 : Int32) (sr dr : Nat → Nat) (wk : Nat → Int32) : Prop := ∀ v, v < 30 → (sr v ≤ 10 ∧ dr v ≤ 9) ∧ wk v + (if nI v = v1 then 1 else 0) = nI (sr v) ∧ wk (30 + v) = nI (dr v)
theorem knotsR_at {v1 : Int32} {sr dr : Nat → Nat} {wk : Nat → Int32} (hW : RWr v1 sr dr wk) (K : Int32 → (Nat → Int32) → (Nat → Int32) → (Nat → Int32) → (Nat → Int32) → Option LT) (ff ft fm fc : Nat → Int32) : ∃ t' : LT, fX7_addArcs_7 v1 wk K FU 0 0 ff ft fm fc = K t'.1 t'.2.1 t'.2.2.1 t'.2.2.2.1 t'.2.2.2.2 ∧ RSum t' 90 (fun G => isum 30 (vterm sr dr G)) := by
  have main := loopK (σ := LT) (fun n i t => fX7_addArcs_7 v1 wk K n i t.1 t.2.1 t.2.2.1 t.2.2.2.1 t.2.2.2.2) 30 (fun i t => RSum t (3 * i) (fun G => isum i (vterm sr dr G))) (fun t => K t.1 t.2.1 t.2.2.1 t.2.2.2.1 t.2.2.2.2) ?_ ?_ 30 0 FU ((0, ff, ft, fm, fc) : LT) (by omega) ?_ (by rw [FU_eq]; omega)
  · obtain ⟨t', q1, q2⟩ := main
    exact ⟨t', q2, q1⟩
  · intro m t ht
    show fX7_addArcs_7 _ _ _ (m + 1) (nI 30) t.1 t.2.1 t.2.2.1 t.2.2.2.1 t.2.2.2.2 = _
    rw [fX7_addArcs_7, if_pos (by decide)]
  · intro m i t hi ht
    obtain ⟨⟨b1, b2⟩, w1, w2⟩ := hW i hi
    obtain ⟨t', q1, q2⟩ := knotR_at (v := i) (sr := sr) (dr := dr) (wk := wk) hi w1 b1 w2 b2 (fun v2 a b c d e => fX7_addArcs_7 v1 wk K m v2 a b c d e) ht (by omega)
    refine ⟨t', ?_, RSum_as q2 (by omega) (fun G => rfl)⟩
    show fX7_addArcs_7 _ _ _ (m + 1) (nI i) t.1 t.2.1 t.2.2.1 t.2.2.2.1 t.2.2.2.2 = _
    rw [fX7_addArcs_7, if_neg (show ¬ (30 : Int32) ≤ nI i from nI_ge (b := 30) hi (by omega)), ixN (show i < 60 by omega) (by decide)]
    simp only [gdT, cl i (show i < 2 ^ 31 by omega)]
    by_cases e : nI i = v1
    · rw [if_pos e] at q1 ⊢
      exact q1
    · rw [if_neg e] at q1 ⊢
      exact q1
  · exact ⟨0, fun _ => 0, fun _ => 0, fun _ => 0, fun _ => 0, by omega, rfl, fun i hi => absurd hi (by omega), fun G => rfl⟩
def rterm (rt : Nat → Nat) (G : Nat → Nat → Nat → Nat → Int) (r w : Nat) : Int := G (5 * rt (5 * r) + w) (5 * rt (5 * r + 1) + w + rt (5 * r + 2)) (rt (5 * r + 3)) (rt (5 * r + 4))
/-- the arcs of one route -/
theorem routeR_at {nR r : Nat} {rt : Nat → Nat} {rf : Nat → Int32} (hR : RRt nR rt rf) (hr : r < nR) (K : Int32 → (Nat → Int32) → (Nat → Int32) → (Nat → Int32) → (Nat → Int32) → Option LT) {t : LT} {B : Nat} {S : (Nat → Nat → Nat → Nat → Int) → Int} (h : RSum t B S) (hB : B + 5 ≤ 150) : ∃ t' : LT, fX7_addArcs_94 (nI r) rf K FU 0 t.1 t.2.1 t.2.2.1 t.2.2.2.1 t.2.2.2.2 = K t'.1 t'.2.1 t'.2.2.1 t'.2.2.2.1 t'.2.2.2.2 ∧ RSum t' (B + 5) (fun G => S G + isum (5 - rt (5 * r + 2)) (rterm rt G r)) := by
  obtain ⟨n10, hR⟩ := hR
  obtain ⟨⟨b1, b2, b3, b4, b5⟩, f1, f2, f3, f4, f5⟩ := hR r hr
  have i0 : (5 : Int32) * nI r = nI (5 * r) := pk_mul 5 r
  have i1 : nI (5 * r) + 1 = nI (5 * r + 1) := nI_add _ 1
  have i2 : nI (5 * r) + 2 = nI (5 * r + 2) := nI_add _ 2
  have i3 : nI (5 * r) + 3 = nI (5 * r + 3) := nI_add _ 3
  have i4 : nI (5 * r) + 4 = nI (5 * r + 4) := nI_add _ 4
  have main := loopK (σ := LT) (fun n i t => fX7_addArcs_94 (nI r) rf K n i t.1 t.2.1 t.2.2.1 t.2.2.2.1 t.2.2.2.2) (5 - rt (5 * r + 2)) (fun i t => RSum t (B + i) (fun G => S G + isum i (rterm rt G r))) (fun t => K t.1 t.2.1 t.2.2.1 t.2.2.2.1 t.2.2.2.2) ?_ ?_ (5 - rt (5 * r + 2)) 0 FU t (by omega) ?_ (by rw [FU_eq]; omega)
  · obtain ⟨t', q1, q2⟩ := main
    exact ⟨t', q2, RSum_as q1 (by omega) (fun G => rfl)⟩
  · intro m t ht
    show fX7_addArcs_94 _ _ _ (m + 1) (nI (5 - rt (5 * r + 2))) t.1 t.2.1 t.2.2.1 t.2.2.2.1 t.2.2.2.2 = _
    rw [fX7_addArcs_94, i0, i2, ixN (show 5 * r + 2 < 50 by omega) (by decide), gdT, cl _ (by omega), f3, nI_add, if_pos (show (5 : Int32) ≤ nI (5 - rt (5 * r + 2) + rt (5 * r + 2)) from nI_le (a := 5) (by omega) (by omega))]
  · intro m i t hi ht
    obtain ⟨t', q1, q2⟩ := addR_sum (a := 5 * rt (5 * r) + i) (b := 5 * rt (5 * r + 1) + i + rt (5 * r + 2)) (co := rt (5 * r + 3)) (ro := rt (5 * r + 4)) ht (by omega) (by omega) (by omega) (by omega) (by omega)
    refine ⟨t', ?_, RSum_as q2 (by omega) (fun G => ?_)⟩
    · show fX7_addArcs_94 _ _ _ (m + 1) (nI i) t.1 t.2.1 t.2.2.1 t.2.2.2.1 t.2.2.2.2 = _
      have m1 : (5 : Int32) * nI (rt (5 * r)) + nI i = nI (5 * rt (5 * r) + i) := by rw [show (5 : Int32) * nI (rt (5 * r)) = nI (5 * rt (5 * r)) from pk_mul 5 _, nI_add]
      have m2 : (5 : Int32) * nI (rt (5 * r + 1)) + nI i + nI (rt (5 * r + 2)) = nI (5 * rt (5 * r + 1) + i + rt (5 * r + 2)) := by rw [show (5 : Int32) * nI (rt (5 * r + 1)) = nI (5 * rt (5 * r + 1)) from pk_mul 5 _, nI_add, nI_add]
      rw [fX7_addArcs_94, i0, i1, i2, i3, i4, ixN (show 5 * r + 2 < 50 by omega) (by decide), ixN (show 5 * r < 50 by omega) (by decide), ixN (show 5 * r + 1 < 50 by omega) (by decide), ixN (show 5 * r + 3 < 50 by omega) (by decide), ixN (show 5 * r + 4 < 50 by omega) (by decide)]
      simp only [gdT, cl (5 * r) (show 5 * r < 2 ^ 31 by omega), cl (5 * r + 1) (show 5 * r + 1 < 2 ^ 31 by omega), cl (5 * r + 2) (show 5 * r + 2 < 2 ^ 31 by omega), cl (5 * r + 3) (show 5 * r + 3 < 2 ^ 31 by omega), cl (5 * r + 4) (show 5 * r + 4 < 2 ^ 31 by omega), f1, f2, f3, f4, f5, m1, m2, nI_add i (rt (5 * r + 2))]
      rw [if_neg (show ¬ (5 : Int32) ≤ nI (i + rt (5 * r + 2)) from nI_ge (b := 5) (by omega) (by omega)), q1, bn5S, nI_1]
    · show S G + isum i (rterm rt G r) + rterm rt G r i = S G + (isum i (rterm rt G r) + rterm rt G r i)
      omega
  · exact RSum_as h (by omega) (fun G => (Int.add_zero _).symm)
theorem routesR_at {nR : Nat} {rt : Nat → Nat} {rf fn : Nat → Int32} (hR : RRt nR rt rf) (hn : fn 3 = nI nR) {t : LT} {S : (Nat → Nat → Nat → Nat → Int) → Int} (h : RSum t 90 S) : ∃ t' : LT, fX7_addArcs_82 fn rf FU 0 t.1 t.2.1 t.2.2.1 t.2.2.2.1 t.2.2.2.2 = some (t'.1, t'.2.1, t'.2.2.1, t'.2.2.2.1, t'.2.2.2.2) ∧ RSum t' 140 (fun G => S G + isum nR (fun r => isum (5 - rt (5 * r + 2)) (rterm rt G r))) := by
  have n10 := hR.1
  have main := loopK (σ := LT) (fun n i t => fX7_addArcs_82 fn rf n i t.1 t.2.1 t.2.2.1 t.2.2.2.1 t.2.2.2.2) nR (fun i t => RSum t (90 + 5 * i) (fun G => S G + isum i (fun r => isum (5 - rt (5 * r + 2)) (rterm rt G r)))) (fun t => some (t.1, t.2.1, t.2.2.1, t.2.2.2.1, t.2.2.2.2)) ?_ ?_ nR 0 FU t (by omega) ?_ (by rw [FU_eq]; omega)
  · obtain ⟨t', q1, q2⟩ := main
    exact ⟨t', q2, RSum_as q1 (by omega) (fun G => rfl)⟩
  · intro m t ht
    show fX7_addArcs_82 _ _ (m + 1) (nI nR) t.1 t.2.1 t.2.2.1 t.2.2.2.1 t.2.2.2.2 = _
    rw [fX7_addArcs_82, show ix (3 : Int32) 10 = true from rfl, gdT, show (3 : Int32).toNatClampNeg = 3 from rfl, hn, if_pos (nI_le (Nat.le_refl _) (by omega))]
  · intro m i t hi ht
    obtain ⟨t', q1, q2⟩ := routeR_at hR hi (fun a b c d e => fX7_addArcs_177 (fun v2 a b c d e => fX7_addArcs_82 fn rf m v2 a b c d e) (nI i) a b c d e) ht (by omega)
    refine ⟨t', ?_, RSum_as q2 (by omega) (fun G => ?_)⟩
    · show fX7_addArcs_82 _ _ (m + 1) (nI i) t.1 t.2.1 t.2.2.1 t.2.2.2.1 t.2.2.2.2 = _
      rw [fX7_addArcs_82, show ix (3 : Int32) 10 = true from rfl, gdT, show (3 : Int32).toNatClampNeg = 3 from rfl, hn, if_neg (nI_ge hi (by omega)), q1, fX7_addArcs_177, nI_1]
    · show S G + isum i (fun r => isum (5 - rt (5 * r + 2)) (rterm rt G r)) + isum (5 - rt (5 * i + 2)) (rterm rt G i) = S G + (isum i (fun r => isum (5 - rt (5 * r + 2)) (rterm rt G r)) + isum (5 - rt (5 * i + 2)) (rterm rt G i))
      omega
  · exact RSum_as h (by omega) (fun G => (Int.add_zero _).symm)
theorem addArcs_at {nR : Nat} {v1 x : Int32} {rt sr dr : Nat → Nat} {wk rf fn ff ft fm fc : Nat → Int32} (hW : RWr v1 sr dr wk) (hR : RRt nR rt rf) (hn : fn 3 = nI nR) : ∃ t' : LT, fX7_addArcs v1 x fn wk rf ff ft fm fc = some (t'.1, t'.2.1, t'.2.2.1, t'.2.2.2.1, t'.2.2.2.2) ∧ RSum t' 140 (fun G => isum 30 (vterm sr dr G) + isum nR (fun r => isum (5 - rt (5 * r + 2)) (rterm rt G r))) := by
  obtain ⟨t1, a1, a2⟩ := knotsR_at hW (fun a b c d e => fX7_addArcs_80 a fn rf b c d e) ff ft fm fc
  obtain ⟨t2, b1, b2⟩ := routesR_at hR hn a2
  refine ⟨t2, ?_, b2⟩
  rw [fX7_addArcs, a1, fX7_addArcs_80, b1]
