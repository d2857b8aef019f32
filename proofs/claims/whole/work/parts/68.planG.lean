/-! THE PLAN: the class's plan is the best -/
theorem Dst_dual {P nR L : Nat} {rt fr to c u s d : Nat → Nat} (h : ∀ G : Nat → Nat → Nat → Nat → Int, isum P (fun i => G (fr i) (to i) (c i) (u i)) = csum nR rt G) (y : Nat → Int) : Dst nR rt L s d y = dualP P fr to (fun i => (c i : Int)) (fun i => (u i : Int)) (L : Int) (fun k => (s k : Int)) (fun k => (d k : Int)) y := by
  unfold Dst dualP
  rw [← h]
theorem Dst_bump {nR L k : Nat} {rt s d : Nat → Nat} (hk : k < 30) (y : Nat → Int) : Dst nR rt L (bump s k) d y = Dst nR rt L s d y - y k := by
  unfold Dst
  have e : isum 30 (fun j => (L : Int) * d j - (bump s k j : Nat) * y j - d j * imx ((L : Int) - y j)) = isum 30 (fun j => (L : Int) * d j - s j * y j - d j * imx ((L : Int) - y j)) + -y k := by
    refine isum_at (c := k) 30 hk (fun j _ hj => ?_) ?_
    · show (L : Int) * d j - (bump s k j : Nat) * y j - d j * imx ((L : Int) - y j) = _
      unfold bump
      rw [if_neg hj]
    · show (L : Int) * d k - (bump s k k : Nat) * y k - d k * imx ((L : Int) - y k) = _
      unfold bump
      rw [if_pos rfl, Int.natCast_add, Int.add_mul, Int.natCast_one, Int.one_mul]
      omega
  rw [e]
  omega
theorem bump_cast (s : Nat → Nat) (k j : Nat) : (bump s k j : Int) = s j + (if j = k then 1 else 0) := by
  unfold bump
  split <;> omega
theorem CI_bump {P L k : Nat} {fr to c u s d rm um idl : Nat → Nat} {g : Nat → Int} {V : Int} (h : CI P fr to c u L s d rm um idl g V) : CI P fr to c u L (bump s k) d rm um (bump idl k) g V := by
  obtain ⟨h1, h2, h3, h4, h5⟩ := h
  refine ⟨h1, h2, fun j hj => ?_, fun j hj hlt => ?_, h5⟩
  · have := h3 j hj
    rw [bump_cast, bump_cast]
    omega
  · rw [bump_cast, bump_cast] at hlt
    exact h4 j hj (by omega)
theorem laid_arcs {P : Nat} {fr to c u : Nat → Nat} {fs fe fc fm : Nat → Int32} (h : Laid P fr to c u fs fe fc fm) (hP : P ≤ 74) : RArcs (2 * P) (dS fr to) (dS to fr) (dC c) (dS u (fun _ => 0)) fs fe fc fm := by
  refine ⟨by omega, fun a ha => ?_⟩
  obtain ⟨i, rfl | rfl⟩ := two_of a
  · obtain ⟨⟨b1, b2, b3, b4⟩, ⟨e1, e2, e3, e4⟩, -⟩ := h i (by omega)
    rw [dS_even, dS_even, dS_even, dC_even]
    exact ⟨⟨b1, b2, by omega, by omega, by omega⟩, e1, e2, by rw [e3, zI_nI], e4⟩
  · obtain ⟨⟨b1, b2, b3, b4⟩, -, ⟨e1, e2, e3, e4⟩⟩ := h i (by omega)
    rw [dS_odd, dS_odd, dS_odd, dC_odd]
    exact ⟨⟨b2, b1, by omega, by omega, by omega⟩, e1, e2, e3, e4⟩
theorem net_none {P : Nat} {fr to u : Nat → Nat} (k : Nat) : net P fr to (xo (dS u (fun _ => 0))) k = 0 := by
  unfold net
  refine Eq.trans (isum_eq (g := fun _ => 0) P (fun i hi => ?_)) (isum_zero P)
  unfold xo
  rw [dS_odd]
  split <;> split <;> rfl
theorem solve_all {nR L : Nat} {rt s d : Nat → Nat} {wf rf fs0 fe0 fc0 fm0 fi0 fu0 fg0 fw0 : Nat → Int32} {x y z : Int32} (hW : RWk s d wf) (hR : RRt nR rt rf) (hL : L ≤ 500) : ∃ (V : Int) (g : Nat → Int) (na : Int32) (fs fe fc fm fi fu fg fw : Nat → Int32), fX3_solve x y z fs0 fe0 fc0 fm0 fi0 fu0 fg0 fw0 (nI L) (nI 30) wf (nI nR) rf = some (na, nI L, zI V, fs, fe, fc, fm, fi, fu, fg, fw) ∧ (0 ≤ V ∧ V ≤ 1000000) ∧ (∀ k, k < 30 → (0 ≤ g k ∧ g k ≤ 500) ∧ fg k = zI (g k)) ∧ IsMax nR rt L s d V ∧ ∀ k, k < 30 → IsMax nR rt L (bump s k) d (V - g k) := by
  obtain ⟨fi, fu, k1, k2⟩ := knots_at (L := L) (fi0 := fi0) (fu0 := fu0) (x := y) (y := z) hW
  obtain ⟨⟨na, fs, fe, fc, fm⟩, a1, P, fr, to, c, u, a2, a3, a4, a5⟩ := arcs_at hR (x := x) (fs0 := fs0) (fe0 := fe0) (fc0 := fc0) (fm0 := fm0)
  have a1 : fX3_layArcs x fs0 fe0 fc0 fm0 (nI nR) rf = some (na, fs, fe, fc, fm) := a1
  have a3 : na = nI (2 * P) := a3
  have a4 : Laid P fr to c u fs fe fc fm := a4
  have RA := laid_arcs a4 a2
  have hft : ∀ i, i < P → fr i < 30 ∧ to i < 30 := fun i hi => ⟨(a4 i hi).1.1, (a4 i hi).1.2.1⟩
  have s0 : Sup (2 * P) (dS fr to) (dS to fr) (dC c) (fun a => 0 < dS u (fun _ => 0) a) (bsN L (fun k => d k - s k)) (fun _ => (L : Int)) := by
    refine ⟨fun k hk => ?_, fun a ha haa => ?_⟩
    · show bsN L (fun k => d k - s k) k ≤ (L : Int)
      unfold bsN
      split <;> omega
    · show (L : Int) - dC c a ≤ (L : Int)
      obtain ⟨i, rfl | rfl⟩ := two_of a
      · rw [dC_even]
        omega
      · have haa : 0 < dS u (fun _ => 0) (2 * i + 1) := haa
        rw [dS_odd] at haa
        omega
  obtain ⟨g, wy, fg, fw, p1, p2, p3, p4, p5⟩ := reckon_at (fg0 := fg0) (fw0 := fw0) (fu := fu) RA hL (fun k hk => ⟨by have := (hW k hk).1; show d k - s k ≤ 1000; omega, (k2 k hk).2⟩) s0 (fun k hk => by show (L : Int) ≤ 500; omega)
  have RS0 : RS P fr to c u L (dS u (fun _ => 0)) (fun k => d k - s k) (fun k => s k - d k) fs fe fc fm fi fu := by
    refine ⟨⟨a2, hL, fun i hi => ⟨(a4 i hi).1.2.2.2, by rw [dS_even, dS_odd, Nat.add_zero]⟩⟩, RA, fun k hk => ?_⟩
    have b := (hW k hk).1
    exact ⟨⟨by show d k - s k ≤ 9; omega, (k2 k hk).2⟩, by show s k - d k ≤ 10; omega, (k2 k hk).1⟩
  have C0 : CI P fr to c u L s d (dS u (fun _ => 0)) (fun k => d k - s k) (fun k => s k - d k) g (isum 30 (fun k => (L : Int) * (d k - s k : Nat))) := by
    refine ⟨fun i hi => by rw [dS_even, dS_odd, Nat.add_zero], fun k hk => by show d k - s k ≤ d k; omega, fun k hk => ?_, fun k hk hlt => ?_, ?_⟩
    · rw [net_none]
      show ((s k - d k : Nat) : Int) ≤ 0 + s k - (d k - (d k - s k : Nat))
      omega
    · rw [net_none] at hlt
      have hlt : ((s k - d k : Nat) : Int) < 0 + s k - (d k - (d k - s k : Nat)) := hlt
      omega
    · have e : isum P (fun i => (c i : Int) * xo (dS u (fun _ => 0)) i) = 0 := by
        rw [← isum_zero P]
        apply isum_eq
        intro i hi
        unfold xo
        rw [dS_odd]
        exact Int.mul_zero _
      rw [e, Int.zero_add]
  have sumI : sumF 30 (fun k => s k - d k) ≤ 270 := by
    have := sum_le (fun k => s k - d k) (fun _ => 9) 30 (fun i hi => by have := (hW i hi).1; show s i - d i ≤ 9; omega)
    have e : sumF 30 (fun _ => 9) = 270 := rfl
    omega
  have V0 : isum 30 (fun k => (L : Int) * (d k - s k : Nat)) ≤ 1000000 := by
    have := isum_le (f := fun k => (L : Int) * (d k - s k : Nat)) (g := fun _ => 4500) 30 (fun i hi => by
      have := (hW i hi).1
      show (L : Int) * (d i - s i : Nat) ≤ 4500
      have h9 : L * (d i - s i) ≤ 500 * 9 := Nat.mul_le_mul hL (by omega)
      have : ((L * (d i - s i) : Nat) : Int) ≤ 4500 := by omega
      rw [Int.natCast_mul] at this
      exact this)
    have e : isum 30 (fun _ => 4500) = 135000 := rfl
    omega
  obtain ⟨rm', um', idl', g', wy', V', fm', fi', fu', fg', fw', q1, q2, q3, q4, q5, q6⟩ := sends_at 270 0 FU _ _ _ g wy _ fm fi fu fg fw sumI (by omega) (by rw [FU_eq]; omega) V0 RS0 ⟨p2, p3, p4, p5 _ s0⟩ C0
  have gb : ∀ k, k < 30 → (0 ≤ g' k ∧ g' k ≤ 500) ∧ fg' k = zI (g' k) := fun k hk => ⟨(q4.1 k hk).1, (q4.1 k hk).2.1⟩
  have gL : ∀ k, k < 30 → 0 ≤ g' k ∧ g' k ≤ L := fun k hk => ⟨(gb k hk).1.1, q4.2.2.2 k hk⟩
  have eV : Dst nR rt L s d g' = V' := by
    rw [Dst_dual a5, ← CI_end q5 hft q4.2.2.1 gL q6]
  refine ⟨V', g', na, fs, fe, fc, fm', fi', fu', fg', fw', ?_, ⟨CI_pos q5, q2⟩, gb, ⟨⟨g', fun k hk => (gL k hk).1, eV⟩, fun y hy => ?_⟩, fun k hk => ⟨⟨g', fun k hk => (gL k hk).1, ?_⟩, fun y hy => ?_⟩⟩
  · rw [fX3_solve, k1, bn4S, a1, bn5S, a3, p1, bn2S]
    exact q1
  · obtain ⟨f1, f2⟩ := CI_feas q5
    rw [Dst_dual a5, ← f2]
    exact weak hft f1 hy
  · rw [Dst_bump hk, eV]
  · obtain ⟨r, n, t1, t2, t3, t4, t5⟩ := thr_at q3 q4 hk (show 0 < 1 by decide) (by decide)
    obtain rfl : r = 1 := by omega
    obtain ⟨e, rm2, fm2, w1, w2, w3, w4, w5, w6⟩ := walk_CI (fun _ _ => none) q3 q4 hk t1 (by decide) t5 (CI_bump (k := k) q5) (by unfold bump; rw [if_pos rfl]; omega)
    obtain ⟨f1, f2⟩ := CI_feas w6
    have e1 : V' - g' k = V' - ((1 : Nat) : Int) * g' k := by omega
    rw [e1, Dst_dual a5, ← f2]
    exact weak hft f1 hy
