/-! THE PLAN: the reference's plan is the best -/
def kap (v : Nat) : Nat := 6 * (v % 5) + v / 5
def kap' (k : Nat) : Nat := 5 * (k % 6) + k / 6
theorem isum_app (W : Nat → Int) (a : Nat) : ∀ b, isum (a + b) W = isum a W + isum b (fun p => W (a + p)) := by
  intro b
  induction b with
  | zero => exact (Int.add_zero _).symm
  | succ b ih =>
    show isum (a + b) W + W (a + b) = isum a W + (isum b (fun p => W (a + p)) + W (a + b))
    rw [ih]
    omega
theorem isum_block (W : Nat → Int) (b : Nat) : ∀ n, isum (b * n) W = isum n (fun w => isum b (fun p => W (b * w + p))) := by
  intro n
  induction n with
  | zero => rfl
  | succ n ih =>
    rw [Nat.mul_succ, isum_app, ih]
    rfl
theorem isum_kap (h : Nat → Int) : isum 30 (fun v => h (kap v)) = isum 30 h := by
  have e1 : isum 30 (fun v => h (kap v)) = isum 6 (fun p => isum 5 (fun w => h (kap (5 * p + w)))) := isum_block (fun v => h (kap v)) 5 6
  have e2 : isum 30 h = isum 5 (fun w => isum 6 (fun p => h (6 * w + p))) := isum_block h 6 5
  rw [e1, e2, isum_swap (fun w p => h (6 * w + p))]
  apply isum_eq
  intro p hp
  apply isum_eq
  intro w hw
  unfold kap
  rw [show (5 * p + w) % 5 = w by omega, show (5 * p + w) / 5 = p by omega]
theorem isum_cut (F : Nat → Int) {k : Nat} (hk : k ≤ 2) : isum (5 - k) F = isum 5 (fun w => if w + k < 5 then F w else 0) := by
  rcases (show k = 0 ∨ k = 1 ∨ k = 2 by omega) with rfl | rfl | rfl
  · show 0 + F 0 + F 1 + F 2 + F 3 + F 4 = 0 + F 0 + F 1 + F 2 + F 3 + F 4
    rfl
  · show 0 + F 0 + F 1 + F 2 + F 3 = 0 + F 0 + F 1 + F 2 + F 3 + 0
    omega
  · show 0 + F 0 + F 1 + F 2 = 0 + F 0 + F 1 + F 2 + 0 + 0
    omega
/-- the prices of the class's knots, told in the reference's numbers -/
def ext (y : Nat → Int) (L : Int) : Nat → Int := fun v => if v < 30 then y (kap v) else if v = 30 then 0 else L
theorem ext_in {y : Nat → Int} {L : Int} {v : Nat} (h : v < 30) : ext y L v = y (kap v) := if_pos h
theorem ext_30 {y : Nat → Int} {L : Int} : ext y L 30 = 0 := rfl
theorem ext_31 {y : Nat → Int} {L : Int} : ext y L 31 = L := rfl
theorem Dst_ref {nR L : Nat} {rt s d sr dr : Nat → Nat} {rf : Nat → Int32} {y : Nat → Int} (hR : RRt nR rt rf) (hs : ∀ v, v < 30 → sr v = s (kap v) ∧ dr v = d (kap v)) (hy : ∀ k, k < 30 → 0 ≤ y k) : (L : Int) * isum 30 (fun v => (dr v : Int)) - (isum 30 (vterm sr dr (fun a b c u => (u : Int) * imx (ext y L b - ext y L a - (c : Int)))) + isum nR (fun r => isum (5 - rt (5 * r + 2)) (rterm rt (fun a b c u => (u : Int) * imx (ext y L b - ext y L a - (c : Int))) r))) = Dst nR rt L s d y := by
  have k30 : ∀ v, v < 30 → kap v < 30 := fun v hv => by unfold kap; omega
  have e1 : isum 30 (vterm sr dr (fun a b c u => (u : Int) * imx (ext y L b - ext y L a - (c : Int)))) = isum 30 (fun k => (s k * y k + d k * imx ((L : Int) - y k)) + (if k / 6 + 1 < 5 then ((1000 : Nat) : Int) * imx (y (k + 6) - y k - ((0 : Nat) : Int)) else 0)) := by
    refine Eq.trans ?_ (isum_kap _)
    apply isum_eq
    intro v hv
    obtain ⟨h1, h2⟩ := hs v hv
    have hp := hy (kap v) (k30 v hv)
    show (sr v : Int) * imx (ext y L v - ext y L 30 - ((0 : Nat) : Int)) + (dr v : Int) * imx (ext y L 31 - ext y L v - ((0 : Nat) : Int)) + (if v % 5 < 4 then ((1000 : Nat) : Int) * imx (ext y L (v + 1) - ext y L v - ((0 : Nat) : Int)) else 0) = (s (kap v) * y (kap v) + d (kap v) * imx ((L : Int) - y (kap v))) + (if kap v / 6 + 1 < 5 then ((1000 : Nat) : Int) * imx (y (kap v + 6) - y (kap v) - ((0 : Nat) : Int)) else 0)
    rw [ext_in hv, ext_30, ext_31, h1, h2]
    have z1 : y (kap v) - 0 - ((0 : Nat) : Int) = y (kap v) := by omega
    have z2 : (L : Int) - y (kap v) - ((0 : Nat) : Int) = (L : Int) - y (kap v) := by omega
    rw [z1, z2, imx_pos hp]
    congr 1
    by_cases c : v % 5 < 4
    · have q1 : kap v / 6 + 1 < 5 := by unfold kap; omega
      have q2 : kap (v + 1) = kap v + 6 := by unfold kap; omega
      rw [if_pos c, if_pos q1, ext_in (by omega), q2]
    · have q1 : ¬ kap v / 6 + 1 < 5 := by unfold kap; omega
      rw [if_neg c, if_neg q1]
  have e2 : isum nR (fun r => isum (5 - rt (5 * r + 2)) (rterm rt (fun a b c u => (u : Int) * imx (ext y L b - ext y L a - (c : Int))) r)) = isum 5 (fun w => rsum rt w nR (fun a b c u => (u : Int) * imx (y b - y a - (c : Int)))) := by
    have q : isum nR (fun r => isum (5 - rt (5 * r + 2)) (rterm rt (fun a b c u => (u : Int) * imx (ext y L b - ext y L a - (c : Int))) r)) = isum nR (fun r => isum 5 (fun w => if w + rt (5 * r + 2) < 5 then ((rt (5 * r + 4) : Nat) : Int) * imx (y (6 * (w + rt (5 * r + 2)) + rt (5 * r + 1)) - y (6 * w + rt (5 * r)) - ((rt (5 * r + 3) : Nat) : Int)) else 0)) := by
      apply isum_eq
      intro r hr
      obtain ⟨b1, b2, b3, b4, b5⟩ := (hR.2 r hr).1
      rw [isum_cut _ b3]
      apply isum_eq
      intro w hw
      by_cases c : w + rt (5 * r + 2) < 5
      · rw [if_pos c, if_pos c]
        show ((rt (5 * r + 4) : Nat) : Int) * imx (ext y L (5 * rt (5 * r + 1) + w + rt (5 * r + 2)) - ext y L (5 * rt (5 * r) + w) - ((rt (5 * r + 3) : Nat) : Int)) = _
        rw [ext_in (show 5 * rt (5 * r) + w < 30 by omega), ext_in (show 5 * rt (5 * r + 1) + w + rt (5 * r + 2) < 30 by omega), show kap (5 * rt (5 * r) + w) = 6 * w + rt (5 * r) by unfold kap; omega, show kap (5 * rt (5 * r + 1) + w + rt (5 * r + 2)) = 6 * (w + rt (5 * r + 2)) + rt (5 * r + 1) by unfold kap; omega]
      · rw [if_neg c, if_neg c]
    rw [q, isum_swap]
    rfl
  have e3 : isum 30 (fun k => if k / 6 + 1 < 5 then ((1000 : Nat) : Int) * imx (y (k + 6) - y k - ((0 : Nat) : Int)) else 0) = isum 5 (fun w => if w + 1 < 5 then wsum w 6 (fun a b c u => (u : Int) * imx (y b - y a - (c : Int))) else 0) := by
    have q : isum 30 (fun k => if k / 6 + 1 < 5 then ((1000 : Nat) : Int) * imx (y (k + 6) - y k - ((0 : Nat) : Int)) else 0) = isum 5 (fun w => isum 6 (fun p => if (6 * w + p) / 6 + 1 < 5 then ((1000 : Nat) : Int) * imx (y (6 * w + p + 6) - y (6 * w + p) - ((0 : Nat) : Int)) else 0)) := isum_block _ 6 5
    rw [q]
    apply isum_eq
    intro w hw
    by_cases c : w + 1 < 5
    · rw [if_pos c]
      unfold wsum
      apply isum_eq
      intro p hp
      rw [if_pos (by omega), show 6 * w + p + 6 = 6 * (w + 1) + p by omega]
    · rw [if_neg c]
      refine Eq.trans (isum_eq (g := fun _ => 0) 6 (fun p hp => ?_)) (isum_zero 6)
      rw [if_neg (by omega)]
  have e4 : (L : Int) * isum 30 (fun v => (dr v : Int)) = isum 30 (fun k => (L : Int) * d k) := by
    rw [← isum_mul]
    refine Eq.trans ?_ (isum_kap _)
    apply isum_eq
    intro v hv
    show (L : Int) * (dr v : Int) = (L : Int) * (d (kap v) : Int)
    rw [(hs v hv).2]
  have e5 : csum nR rt (fun a b c u => (u : Int) * imx (y b - y a - (c : Int))) = isum 5 (fun w => rsum rt w nR (fun a b c u => (u : Int) * imx (y b - y a - (c : Int)))) + isum 5 (fun w => if w + 1 < 5 then wsum w 6 (fun a b c u => (u : Int) * imx (y b - y a - (c : Int))) else 0) := by
    rw [← isum_add]
    rfl
  have e6 : isum 30 (fun k => (L : Int) * d k - s k * y k - d k * imx ((L : Int) - y k)) = isum 30 (fun k => (L : Int) * d k) - isum 30 (fun k => s k * y k + d k * imx ((L : Int) - y k)) := by
    rw [← isum_sub]
    apply isum_eq
    intro k hk
    omega
  unfold Dst
  rw [e6, e5, e4, e2, e1, isum_add, e3]
  omega
/-- the arcs as laid -/
theorem laidR_arcs {P : Nat} {fr to c u : Nat → Nat} {ff ft fm fc : Nat → Int32} (h : LaidR P fr to c u ff ft fm fc) (hP : P ≤ 150) : RRf P fr to c u (dS u (fun _ => 0)) ff ft fm fc := by
  refine ⟨⟨hP, fun i hi => ⟨(h i hi).1.2.2.2, by rw [dS_even, dS_odd, Nat.add_zero]⟩⟩, by omega, fun a ha => ?_⟩
  obtain ⟨i, rfl | rfl⟩ := two_of a
  · obtain ⟨⟨b1, b2, b3, b4⟩, ⟨e1, e2, e3, e4⟩, -⟩ := h i (by omega)
    rw [dS_even, dS_even, dS_even, dC_even]
    exact ⟨⟨b2, b1, by omega, by omega, by omega⟩, e2, e1, by rw [e4, zI_nI], e3⟩
  · obtain ⟨⟨b1, b2, b3, b4⟩, -, ⟨e1, e2, e3, e4⟩⟩ := h i (by omega)
    rw [dS_odd, dS_odd, dS_odd, dC_odd]
    exact ⟨⟨b1, b2, by omega, by omega, by omega⟩, e2, e1, e4, e3⟩
/-- the reference's answer is the greatest promise -/
theorem leastWith_at {nR L : Nat} {v1 x : Int32} {rt s d sr dr : Nat → Nat} {wk rf fn ff0 ft0 fm0 fc0 fa0 fb0 : Nat → Int32} (hW : RWr v1 sr dr wk) (hR : RRt nR rt rf) (hn : fn 3 = nI nR) (hn9 : fn 9 = nI L) (hL : L ≤ 500) (hs : ∀ v, v < 30 → sr v = s (kap v) ∧ dr v = d (kap v)) : ∃ (V : Int) (na : Int32) (ff ft fm fc fa fb : Nat → Int32), fX7_leastWith v1 x fn wk rf ff0 ft0 fm0 fc0 fa0 fb0 = some (zI V, na, ff, ft, fm, fc, fa, fb) ∧ IsMax nR rt L s d V := by
  obtain ⟨⟨na, ff, ft, fm, fc⟩, a1, P, fr, to, c, u, a2, a3, a4, a5⟩ := addArcs_at (x := x) (ff := ff0) (ft := ft0) (fm := fm0) (fc := fc0) hW hR hn
  have a1 : fX7_addArcs v1 x fn wk rf ff0 ft0 fm0 fc0 = some (na, ff, ft, fm, fc) := a1
  have a3 : na = nI (2 * P) := a3
  have a4 : LaidR P fr to c u ff ft fm fc := a4
  have R0 := laidR_arcs a4 (by omega)
  have hft : ∀ i, i < P → fr i < 32 ∧ to i < 32 := fun i hi => ⟨(a4 i hi).1.1, (a4 i hi).1.2.1⟩
  have P0 : Pot (2 * P) (dS to fr) (dS fr to) (dC c) (dS u (fun _ => 0)) (fun _ => 0) := by
    refine ⟨fun k hk => by show (0 : Int) ≤ 0 ∧ (0 : Int) ≤ 1000000; omega, rfl, fun a ha haa => ?_⟩
    show (0 : Int) ≤ 0 + dC c a
    obtain ⟨i, rfl | rfl⟩ := two_of a
    · rw [dC_even]
      omega
    · rw [dS_odd] at haa
      omega
  have V0 : RFl P fr to c u L (isum 30 (fun v => (dr v : Int))) (dS u (fun _ => 0)) (isum 30 (fun v => (L : Int) * (dr v : Int))) := by
    refine ⟨fun i hi => (R0.1.2 i hi).2, fun j hj => net_none j, ?_⟩
    have e : isum P (fun i => (c i : Int) * xo (dS u (fun _ => 0)) i) = 0 := by
      refine Eq.trans (isum_eq (g := fun _ => 0) P (fun i hi => ?_)) (isum_zero P)
      unfold xo
      rw [dS_odd]
      exact Int.mul_zero _
    rw [e, net_none, isum_mul, Int.mul_zero]
    omega
  have U0 : isum P (fun i => (u i : Int)) + net P to fr (xo (dS u (fun _ => 0))) 31 ≤ ((150000 : Nat) : Int) := by
    rw [net_none]
    have h1 := isum_le (f := fun i => (u i : Int)) (g := fun _ => 1000) P (fun i hi => by have := (a4 i hi).1.2.2.2; show (u i : Int) ≤ 1000; omega)
    have h2 : ∀ n, isum n (fun _ => 1000) = 1000 * (n : Int) := by
      intro n
      induction n with
      | zero => rfl
      | succ n ih =>
        rw [isum, ih]
        omega
    rw [h2] at h1
    omega
  obtain ⟨f, wy, fa, fb, c1, c2, c3, c4⟩ := cheapest_at (fa0 := fa0) (fb0 := fb0) R0.2 P0
  obtain ⟨V, rm', y, fm', fa', fb', q1, q2, q3, q4⟩ := boxesR_at hL hn9 150000 FU _ (fun _ => 0) f wy _ fm fa fb U0 (by rw [FU_eq]; omega) R0 P0 (fun _ _ => Int.le_refl _) (by show (0 : Int) ≤ L; omega) c2 c3 c4 V0
  have first := loopK (σ := Int32) (fun n i t => fX7_leastWith_9 fn wk (fun v2 => fX7_leastWith_41 v2 na fn ff ft fm fc fa0 fb0) n t i) 30 (fun i t => t = zI (isum i (fun v => (L : Int) * (dr v : Int)))) (fun t => fX7_leastWith_41 t na fn ff ft fm fc fa0 fb0) ?_ ?_ 30 0 FU 0 (by omega) rfl (by rw [FU_eq]; omega)
  · obtain ⟨t, t1, t2⟩ := first
    refine ⟨V, nI (2 * P), ff, ft, fm', fc, fa', fb', ?_, ⟨fun k => y (kap' k), fun k hk => ?_, ?_⟩, fun y' hy' => ?_⟩
    · have t2 : fX7_leastWith_9 fn wk (fun v2 => fX7_leastWith_41 v2 na fn ff ft fm fc fa0 fb0) FU 0 0 = _ := t2
      rw [fX7_leastWith, a1, bn5S, t2, fX7_leastWith_41, a3, c1, bn3S, t1]
      exact q1
    · have := (q3.1 (kap' k) (by unfold kap'; omega)).1
      exact this
    · have ey : ∀ v, v < 32 → ext (fun k => y (kap' k)) L v = y v := by
        intro v hv
        unfold ext
        by_cases z : v < 30
        · rw [if_pos z]
          show y (kap' (kap v)) = y v
          rw [show kap' (kap v) = v by unfold kap' kap; omega]
        · rw [if_neg z]
          by_cases z' : v = 30
          · rw [if_pos z', z', q3.2.1]
          · rw [if_neg z', show v = 31 by omega, q4]
      have fl := flowR (c := fun i => (c i : Int)) (x := xo rm') (y := ext (fun k => y (kap' k)) L) (L := (L : Int)) hft q2.2.1 ext_30 ext_31
      have fe := flowR_eq (fr := fr) (to := to) (c := fun i => (c i : Int)) (u := fun i => (u i : Int)) (x := xo rm') (y := ext (fun k => y (kap' k)) L) (P := P) (fun i hi => by
        have := q2.1 i hi
        show 0 ≤ xo rm' i ∧ xo rm' i ≤ (u i : Int)
        unfold xo
        omega) (fun i hi hx => by
        have h1 := q2.1 i hi
        have hx : xo rm' i < (u i : Int) := hx
        unfold xo at hx
        have h2 := q3.2.2 (2 * i) (by omega) (by omega)
        rw [dS_even, dS_even, dC_even] at h2
        show ext (fun k => y (kap' k)) L (to i) - ext (fun k => y (kap' k)) L (fr i) - (c i : Int) ≤ 0
        rw [ey _ (hft i hi).1, ey _ (hft i hi).2]
        omega) (fun i hi hx => by
        have hx : 0 < xo rm' i := hx
        unfold xo at hx
        have h2 := q3.2.2 (2 * i + 1) (by omega) (by omega)
        rw [dS_odd, dS_odd, dC_odd] at h2
        show 0 ≤ ext (fun k => y (kap' k)) L (to i) - ext (fun k => y (kap' k)) L (fr i) - (c i : Int)
        rw [ey _ (hft i hi).1, ey _ (hft i hi).2]
        omega)
      have g5 := a5 (fun a b c u => (u : Int) * imx (ext (fun k => y (kap' k)) L b - ext (fun k => y (kap' k)) L a - (c : Int)))
      rw [← Dst_ref hR hs (fun k hk => (q3.1 (kap' k) (by unfold kap'; omega)).1), q2.2.2]
      have g5 : isum P (fun i => (u i : Int) * imx (ext (fun k => y (kap' k)) L (to i) - ext (fun k => y (kap' k)) L (fr i) - (c i : Int))) = isum 30 (vterm sr dr (fun a b c u => (u : Int) * imx (ext (fun k => y (kap' k)) L b - ext (fun k => y (kap' k)) L a - (c : Int)))) + isum nR (fun r => isum (5 - rt (5 * r + 2)) (rterm rt (fun a b c u => (u : Int) * imx (ext (fun k => y (kap' k)) L b - ext (fun k => y (kap' k)) L a - (c : Int))) r)) := g5
      rw [← g5]
      have fe : -isum P (fun i => (u i : Int) * imx (ext (fun k => y (kap' k)) L (to i) - ext (fun k => y (kap' k)) L (fr i) - (c i : Int))) = isum P (fun i => xo rm' i * ((c i : Int) + ext (fun k => y (kap' k)) L (fr i) - ext (fun k => y (kap' k)) L (to i))) := fe
      have fl : isum P (fun i => (c i : Int) * xo rm' i) + (L : Int) * net P to fr (xo rm') 31 = isum P (fun i => xo rm' i * ((c i : Int) + ext (fun k => y (kap' k)) L (fr i) - ext (fun k => y (kap' k)) L (to i))) := fl
      omega
    · have fl := flowR (c := fun i => (c i : Int)) (x := xo rm') (y := ext y' L) (L := (L : Int)) hft q2.2.1 ext_30 ext_31
      have fe := flowR_ge (fr := fr) (to := to) (c := fun i => (c i : Int)) (u := fun i => (u i : Int)) (x := xo rm') (y := ext y' L) (P := P) (fun i hi => by
        have := q2.1 i hi
        show 0 ≤ xo rm' i ∧ xo rm' i ≤ (u i : Int)
        unfold xo
        omega)
      have g5 := a5 (fun a b c u => (u : Int) * imx (ext y' L b - ext y' L a - (c : Int)))
      rw [← Dst_ref hR hs hy', q2.2.2]
      have g5 : isum P (fun i => (u i : Int) * imx (ext y' L (to i) - ext y' L (fr i) - (c i : Int))) = isum 30 (vterm sr dr (fun a b c u => (u : Int) * imx (ext y' L b - ext y' L a - (c : Int)))) + isum nR (fun r => isum (5 - rt (5 * r + 2)) (rterm rt (fun a b c u => (u : Int) * imx (ext y' L b - ext y' L a - (c : Int))) r)) := g5
      rw [← g5]
      have fe : -isum P (fun i => (u i : Int) * imx (ext y' L (to i) - ext y' L (fr i) - (c i : Int))) ≤ isum P (fun i => xo rm' i * ((c i : Int) + ext y' L (fr i) - ext y' L (to i))) := fe
      have fl : isum P (fun i => (c i : Int) * xo rm' i) + (L : Int) * net P to fr (xo rm') 31 = isum P (fun i => xo rm' i * ((c i : Int) + ext y' L (fr i) - ext y' L (to i))) := fl
      omega
  · intro m t ht
    show fX7_leastWith_9 _ _ _ (m + 1) t (nI 30) = _
    rw [fX7_leastWith_9, if_pos (by decide)]
  · intro m i t hi ht
    refine ⟨t + nI L * nI (dr i), ?_, ?_⟩
    · show fX7_leastWith_9 _ _ _ (m + 1) t (nI i) = _
      rw [fX7_leastWith_9, if_neg (show ¬ (30 : Int32) ≤ nI i from nI_ge (b := 30) hi (by omega)), show ix (9 : Int32) 10 = true from rfl, gdT, show (30 : Int32) + nI i = nI (30 + i) from nI_add 30 i, ixN (show 30 + i < 60 by omega) (by decide), gdT, show (9 : Int32).toNatClampNeg = 9 from rfl, hn9, cl _ (by omega), (hW i hi).2.2, nI_1]
    · rw [ht, zI_nI, zI_nI, zI_mul, zI_add]
      rfl
theorem IsMax_one {nR L : Nat} {rt s d : Nat → Nat} {V W : Int} (h1 : IsMax nR rt L s d V) (h2 : IsMax nR rt L s d W) : V = W := by
  obtain ⟨⟨y, y1, y2⟩, y3⟩ := h1
  obtain ⟨⟨z, z1, z2⟩, z3⟩ := h2
  have a1 := y3 z z1
  have a2 := z3 y y1
  omega
