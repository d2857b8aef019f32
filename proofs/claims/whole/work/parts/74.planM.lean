/-! THE PLAN: least and worth -/
theorem bn8S {α0 α1 α2 α3 α4 α5 α6 α7 γ : Type} (a0 : α0) (a1 : α1) (a2 : α2) (a3 : α3) (a4 : α4) (a5 : α5) (a6 : α6) (a7 : α7) (k : α0 → α1 → α2 → α3 → α4 → α5 → α6 → α7 → Option γ) : bn8 (some (a0, a1, a2, a3, a4, a5, a6, a7)) k = k a0 a1 a2 a3 a4 a5 a6 a7 := rfl
theorem bn11S {α0 α1 α2 α3 α4 α5 α6 α7 α8 α9 α10 γ : Type} (a0 : α0) (a1 : α1) (a2 : α2) (a3 : α3) (a4 : α4) (a5 : α5) (a6 : α6) (a7 : α7) (a8 : α8) (a9 : α9) (a10 : α10) (k : α0 → α1 → α2 → α3 → α4 → α5 → α6 → α7 → α8 → α9 → α10 → Option γ) : bn11 (some (a0, a1, a2, a3, a4, a5, a6, a7, a8, a9, a10)) k = k a0 a1 a2 a3 a4 a5 a6 a7 a8 a9 a10 := rfl
theorem bn12S {α0 α1 α2 α3 α4 α5 α6 α7 α8 α9 α10 α11 γ : Type} (a0 : α0) (a1 : α1) (a2 : α2) (a3 : α3) (a4 : α4) (a5 : α5) (a6 : α6) (a7 : α7) (a8 : α8) (a9 : α9) (a10 : α10) (a11 : α11) (k : α0 → α1 → α2 → α3 → α4 → α5 → α6 → α7 → α8 → α9 → α10 → α11 → Option γ) : bn12 (some (a0, a1, a2, a3, a4, a5, a6, a7, a8, a9, a10, a11)) k = k a0 a1 a2 a3 a4 a5 a6 a7 a8 a9 a10 a11 := rfl
theorem Inv_plan {E F M N} {E' : Nat → Int32} {F' : Nat → Nat → Int32} {M' : Nat → Int32} {N' : Nat → Nat → Int32} (h : Inv E F M N) (hE : ∀ i, i < 31 → i ≠ 1 → E' i = E i) (hF : ∀ j, j < 19 → F' j = F j) (hM8 : M' 8 = M 8) (hM1 : M' 1 = M 1) (hN : ∀ k, k < 9 → N' k = N k) (hN2 : N' 16 = N 16) (hN3 : N' 17 = N 17) (hP : RP E' F') : Inv E' F' M' N' := by
  obtain ⟨hD, hK, hT, -⟩ := h
  refine ⟨RD_congr hD (fun i hi => hE _ (by omega) (by omega)) (fun j hj => hF _ (by omega)) hN, ?_, ?_, hP⟩
  · rcases hK with ⟨h1, h2⟩ | ⟨h1, h2, h3⟩
    · exact Or.inl ⟨by rw [hE 0 (by decide) (by decide)]; exact h1, by rw [hM8]; exact h2⟩
    · refine Or.inr ⟨by rw [hE 0 (by decide) (by decide)]; exact h1, by rw [hM8]; exact h2, RD_congr h3 (fun i hi => hE _ (by omega) (by omega)) (fun j hj => hF _ (by omega)) (fun k hk => ?_)⟩
      show (fun i => N' 17 (koff k + i)) = _
      rw [hN3]
  · obtain ⟨mn, h1, h2, h3, h4⟩ := hT
    exact ⟨mn, h1, by rw [hE 28 (by decide) (by decide)]; exact h2, by rw [hM1]; exact h3, fun i hi => by rw [hF 18 (by decide), hN2]; exact h4 i hi⟩
def sN (wf : Nat → Int32) : Nat → Nat := fun k => (wf (2 * k)).toNatClampNeg
def dN (wf : Nat → Int32) : Nat → Nat := fun k => (wf (2 * k + 1)).toNatClampNeg
def rN (rf : Nat → Int32) : Nat → Nat := fun i => (rf i).toNatClampNeg
theorem week_c {f m : Nat → Int32} (h : RWeek f m) : RWk (sN f) (dN f) f := by
  intro k hk
  obtain ⟨st, nd, h1, h2, h3⟩ := h (k % 6) (k / 6) (by omega) (by omega)
  rw [show 6 * (k / 6) + k % 6 = k by omega] at h2 h3
  unfold sN dN
  rw [h2.1, h3.1, cl _ (by omega), cl _ (by omega)]
  exact ⟨h1, rfl, rfl⟩
theorem week_m {f m : Nat → Int32} (h : RWeek f m) : ∀ v, v < 30 → m v = nI (sN f (kap v)) ∧ m (30 + v) = nI (dN f (kap v)) ∧ sN f (kap v) ≤ 9 ∧ dN f (kap v) ≤ 9 := by
  intro v hv
  obtain ⟨st, nd, h1, h2, h3⟩ := h (v / 5) (v % 5) (by omega) (by omega)
  rw [show 5 * (v / 5) + v % 5 = v by omega] at h2 h3
  have e : kap v = 6 * (v % 5) + v / 5 := rfl
  unfold sN dN
  rw [e, h2.1, h3.1, cl _ (by omega), cl _ (by omega)]
  exact ⟨h2.2, h3.2, h1.1, h1.2⟩
theorem route_c {nR : Nat} {f m : Nat → Int32} (hn : nR ≤ 10) (h : RRoute nR f m) : RRt nR (rN f) f ∧ RRt nR (rN f) m := by
  have key : ∀ r, r < nR → (rN f (5 * r) ≤ 5 ∧ rN f (5 * r + 1) ≤ 5 ∧ rN f (5 * r + 2) ≤ 2 ∧ rN f (5 * r + 3) ≤ 99 ∧ rN f (5 * r + 4) ≤ 9) ∧ ∀ j, j < 5 → f (5 * r + j) = nI (rN f (5 * r + j)) ∧ m (5 * r + j) = nI (rN f (5 * r + j)) := by
    intro r hr
    obtain ⟨fr, to, wk, co, rm, h0, h1, h2, h3, h4, h5⟩ := h r hr
    unfold rN
    rw [h1.1, h2.1, h3.1, h4.1, h5.1, cl _ (by omega), cl _ (by omega), cl _ (by omega), cl _ (by omega), cl _ (by omega)]
    refine ⟨by omega, fun j hj => ?_⟩
    rcases (show j = 0 ∨ j = 1 ∨ j = 2 ∨ j = 3 ∨ j = 4 by omega) with rfl | rfl | rfl | rfl | rfl
    · rw [Nat.add_zero, h1.1, h1.2, cl _ (by omega)]
      exact ⟨rfl, rfl⟩
    · rw [h2.1, h2.2, cl _ (by omega)]
      exact ⟨rfl, rfl⟩
    · rw [h3.1, h3.2, cl _ (by omega)]
      exact ⟨rfl, rfl⟩
    · rw [h4.1, h4.2, cl _ (by omega)]
      exact ⟨rfl, rfl⟩
    · rw [h5.1, h5.2, cl _ (by omega)]
      exact ⟨rfl, rfl⟩
  refine ⟨⟨hn, fun r hr => ⟨(key r hr).1, ((key r hr).2 0 (by decide)).1, ((key r hr).2 1 (by decide)).1, ((key r hr).2 2 (by decide)).1, ((key r hr).2 3 (by decide)).1, ((key r hr).2 4 (by decide)).1⟩⟩, ⟨hn, fun r hr => ⟨(key r hr).1, ((key r hr).2 0 (by decide)).2, ((key r hr).2 1 (by decide)).2, ((key r hr).2 2 (by decide)).2, ((key r hr).2 3 (by decide)).2, ((key r hr).2 4 (by decide)).2⟩⟩⟩
theorem kap_inj {v q : Nat} (hv : v < 30) (hq : q < 30) (h : kap v = kap q) : v = q := by
  unfold kap at h
  omega
/-- the class makes its plan, or has it -/
theorem make_at {E : Nat → Int32} {F : Nat → Nat → Int32} {m3 m4 : Nat → Int32} {nR lk : Nat} (e3 : E 3 = nI lk) (e8 : E 8 = nI 30) (e9 : E 9 = nI nR) (hlk : lk ≤ 500) (hnR : nR ≤ 10) (hWe : RWeek (F 2) m3) (hRo : RRoute nR (F 3) m4) (hP : RP E F) : ∃ (na ll ls : Int32) (fs fe fc fm fi fu fg fw : Nat → Int32), fX6_makePlan (E 1) (E 3) (E 8) (F 2) (E 9) (F 3) (E 33) (E 34) (E 35) (F 20) (F 21) (F 22) (F 23) (F 24) (F 25) (F 26) (F 27) = some (1, na, ll, ls, fs, fe, fc, fm, fi, fu, fg, fw) ∧ planOK (F 2) (F 3) (E 9) (E 3) ls fg := by
  rcases hP with h1 | ⟨h1, h2⟩
  · obtain ⟨V, g, na, fs, fe, fc, fm, fi, fu, fg, fw, q1, q2, q3, q4, q5⟩ := solve_all (L := lk) (fs0 := F 20) (fe0 := F 21) (fc0 := F 22) (fm0 := F 23) (fi0 := F 24) (fu0 := F 25) (fg0 := F 26) (fw0 := F 27) (x := E 33) (y := E 34) (z := E 35) (week_c hWe) (route_c hnR hRo).1 hlk
    refine ⟨na, nI lk, zI V, fs, fe, fc, fm, fi, fu, fg, fw, ?_, ?_⟩
    · rw [fX6_makePlan, h1, if_pos rfl, e3, e8, e9, q1, bn11S]
    · unfold planOK
      rw [e3, e9, cl _ (by omega), cl _ (by omega), zI_toInt (by omega) (by omega)]
      refine ⟨q4, fun k hk => ?_⟩
      obtain ⟨g1, g2⟩ := q3 k hk
      rw [g2, zI_toInt (by omega) (by omega)]
      exact ⟨g1, q5 k hk⟩
  · refine ⟨E 33, E 34, E 35, F 20, F 21, F 22, F 23, F 24, F 25, F 26, F 27, ?_, h2⟩
    rw [fX6_makePlan, h1, if_neg (by decide)]
theorem plan_fin {E : Nat → Int32} {F : Nat → Nat → Int32} {M : Nat → Int32} {N : Nat → Nat → Int32} (h : Inv E F M N) (na ll ls x : Int32) (fs fe fc fm fi fu fg fw a b c d e f : Nat → Int32) (hp : planOK (F 2) (F 3) (E 9) (E 3) ls fg) : Inv (va_up (va_up (va_up (va_up E 1 1) 33 na) 34 ll) 35 ls) (va_up (va_up (va_up (va_up (va_up (va_up (va_up (va_up F 20 fs) 21 fe) 22 fc) 23 fm) 24 fi) 25 fu) 26 fg) 27 fw) (va_up M 0 x) (va_up (va_up (va_up (va_up (va_up (va_up N 9 a) 10 b) 11 c) 12 d) 13 e) 14 f) := by
  refine Inv_plan h (fun i hi h1 => ?_) (fun j hj => ?_) rfl rfl (fun k hk => ?_) rfl rfl (Or.inr ⟨rfl, hp⟩)
  · rw [va_up_ne _ _ (by omega), va_up_ne _ _ (by omega), va_up_ne _ _ (by omega), va_up_ne _ _ h1]
  · repeat rw [va_up_ne _ _ (by omega)]
  · repeat rw [va_up_ne _ _ (by omega)]
theorem neg1_ne {v : Nat} (h : v < 30) : ¬ nI v = -1 := by
  intro w
  rw [zI_nI v] at w
  have := (zI_eq (b := -1) (by omega) (by omega) (by omega) (by omega)).mp w
  omega
theorem wr_none {f m : Nat → Int32} (h : RWeek f m) : RWr (-1) (fun v => sN f (kap v)) (fun v => dN f (kap v)) m := by
  intro v hv
  obtain ⟨h1, h2, h3, h4⟩ := week_m h v hv
  rw [if_neg (neg1_ne hv), h1, h2]
  exact ⟨⟨by show sN f (kap v) ≤ 10; omega, h4⟩, Int32.add_zero _, rfl⟩
theorem wr_one {f m : Nat → Int32} (h : RWeek f m) {q : Nat} (hq : q < 30) : RWr (nI q) (fun v => bump (sN f) (kap q) (kap v)) (fun v => dN f (kap v)) m := by
  intro v hv
  obtain ⟨h1, h2, h3, h4⟩ := week_m h v hv
  by_cases e : v = q
  · have b : bump (sN f) (kap q) (kap v) = sN f (kap v) + 1 := if_pos (by rw [e])
    rw [if_pos (by rw [e]), h1, h2]
    refine ⟨⟨by show bump (sN f) (kap q) (kap v) ≤ 10; omega, h4⟩, ?_, rfl⟩
    show nI (sN f (kap v)) + 1 = nI (bump (sN f) (kap q) (kap v))
    rw [b, nI_1]
  · have b : bump (sN f) (kap q) (kap v) = sN f (kap v) := if_neg (fun z => e (kap_inj hv hq z))
    rw [if_neg (nI_neq e (by omega) (by omega)), h1, h2]
    refine ⟨⟨by show bump (sN f) (kap q) (kap v) ≤ 10; omega, h4⟩, ?_, rfl⟩
    show nI (sN f (kap v)) + 0 = nI (bump (sN f) (kap q) (kap v))
    rw [b, Int32.add_zero]
theorem op_least : Op_least Inv := by
  intro E F M N h
  obtain ⟨⟨td, lk, rt, fr, nB, nW, nR, nO, nA, nU, ⟨hd, hn, hb⟩, hBox, hWo, hWe, hRo, hOf, hWa, hLv, hLs, hUs⟩, hK, hT, hP⟩ := id h
  have e3 : E 3 = nI lk := hd.2.1
  have e8 : E 8 = nI 30 := hd.2.2.2.2.2.2.1
  have e9 : E 9 = nI nR := hd.2.2.2.2.2.2.2.1
  have n3 : N 0 3 = nI nR := hn.2.2.2.1
  have n9 : N 0 9 = nI lk := hn.2.2.2.2.2.2.2.2.2
  obtain ⟨na, ll, ls, fs, fe, fc, fm, fi, fu, fg, fw, q1, q2⟩ := make_at e3 e8 e9 (by omega) (by omega) hWe hRo hP
  obtain ⟨V, ma, a, b, c, d, e, f, p1, p2⟩ := leastWith_at (x := M 0) (ff0 := N 9) (ft0 := N 10) (fm0 := N 11) (fc0 := N 12) (fa0 := N 13) (fb0 := N 14) (s := sN (F 2)) (d := dN (F 2)) (wr_none hWe) (route_c (by omega) hRo).2 n3 n9 (by omega) (fun v hv => ⟨rfl, rfl⟩)
  have hl : zI V = ls := by
    have h1 := q2.1
    rw [e3, e9, cl _ (by omega), cl _ (by omega)] at h1
    rw [IsMax_one p2 h1]
    exact Int32.ofInt_toInt ls
  refine ⟨ls, 1, na, ll, ls, fs, fe, fc, fm, fi, fu, fg, fw, ma, a, b, c, d, e, f, ?_, ?_, plan_fin h na ll ls ma fs fe fc fm fi fu fg fw a b c d e f q2⟩
  · rw [fX6_least, q1, bn12S]
  · rw [fX7_least, p1, bn8S, hl]
theorem op_worth : Op_worth Inv := by
  intro E F M N v1 v2 h
  obtain ⟨⟨td, lk, rt, fr, nB, nW, nR, nO, nA, nU, ⟨hd, hn, hb⟩, hBox, hWo, hWe, hRo, hOf, hWa, hLv, hLs, hUs⟩, hK, hT, hP⟩ := id h
  have e3 : E 3 = nI lk := hd.2.1
  have e8 : E 8 = nI 30 := hd.2.2.2.2.2.2.1
  have e9 : E 9 = nI nR := hd.2.2.2.2.2.2.2.1
  have n3 : N 0 3 = nI nR := hn.2.2.2.1
  have n9 : N 0 9 = nI lk := hn.2.2.2.2.2.2.2.2.2
  have same : Inv (va_up (va_up (va_up (va_up E 1 (E 1)) 33 (E 33)) 34 (E 34)) 35 (E 35)) (va_up (va_up (va_up (va_up (va_up (va_up (va_up (va_up F 20 (F 20)) 21 (F 21)) 22 (F 22)) 23 (F 23)) 24 (F 24)) 25 (F 25)) 26 (F 26)) 27 (F 27)) (va_up M 0 (M 0)) (va_up (va_up (va_up (va_up (va_up (va_up N 9 (N 9)) 10 (N 10)) 11 (N 11)) 12 (N 12)) 13 (N 13)) 14 (N 14)) := by
    simp only [up_self]
    exact h
  rcases tPlace v1 with ⟨a1, a2⟩ | ⟨p, hp, rfl, a1, a2⟩
  · exact ⟨-1, E 1, E 33, E 34, E 35, F 20, F 21, F 22, F 23, F 24, F 25, F 26, F 27, M 0, N 9, N 10, N 11, N 12, N 13, N 14, by simp [fX6_worth, a1, bn1S], by simp [fX7_worth, a2, bn1S], same⟩
  rcases tWeek v2 with ⟨b1, b2⟩ | ⟨w, hw, rfl, b1, b2⟩
  · exact ⟨-1, E 1, E 33, E 34, E 35, F 20, F 21, F 22, F 23, F 24, F 25, F 26, F 27, M 0, N 9, N 10, N 11, N 12, N 13, N 14, by simp [fX6_worth, a1, b1, bn1S], by simp [fX7_worth, a2, b2, bn1S], same⟩
  obtain ⟨na, ll, ls, fs, fe, fc, fm, fi, fu, fg, fw, q1, q2⟩ := make_at e3 e8 e9 (by omega) (by omega) hWe hRo hP
  obtain ⟨V, ma, a, b, c, d, e, f, p1, p2⟩ := leastWith_at (x := M 0) (ff0 := N 9) (ft0 := N 10) (fm0 := N 11) (fc0 := N 12) (fa0 := N 13) (fb0 := N 14) (s := sN (F 2)) (d := dN (F 2)) (wr_none hWe) (route_c (by omega) hRo).2 n3 n9 (by omega) (fun v hv => ⟨rfl, rfl⟩)
  obtain ⟨V', ma', a', b', c', d', e', f', r1, r2⟩ := leastWith_at (x := ma) (ff0 := a) (ft0 := b) (fm0 := c) (fc0 := d) (fa0 := e) (fb0 := f) (s := bump (sN (F 2)) (kap (5 * p + w))) (d := dN (F 2)) (wr_one hWe (show 5 * p + w < 30 by omega)) (route_c (by omega) hRo).2 n3 n9 (by omega) (fun v hv => ⟨rfl, rfl⟩)
  have kk : kap (5 * p + w) = 6 * w + p := by unfold kap; omega
  have hl : V = ls.toInt := by
    have h1 := q2.1
    rw [e3, e9, cl _ (by omega), cl _ (by omega)] at h1
    exact IsMax_one p2 h1
  have hl' : V' = ls.toInt - (fg (6 * w + p)).toInt := by
    have h1 := (q2.2 (6 * w + p) (by omega)).2
    rw [e3, e9, cl _ (by omega), cl _ (by omega)] at h1
    rw [kk] at r2
    exact IsMax_one r2 h1
  have hg : zI V - zI V' = fg (6 * w + p) := by
    rw [zI_sub, hl, hl', show ls.toInt - (ls.toInt - (fg (6 * w + p)).toInt) = (fg (6 * w + p)).toInt by omega]
    exact Int32.ofInt_toInt _
  refine ⟨fg (6 * w + p), 1, na, ll, ls, fs, fe, fc, fm, fi, fu, fg, fw, ma', a', b', c', d', e', f', ?_, ?_, plan_fin h na ll ls ma' fs fe fc fm fi fu fg fw a' b' c' d' e' f' q2⟩
  · have ga : fX3_gainAt (nI (6 * w + p)) fg = some (fg (6 * w + p)) := by
      rw [fX3_gainAt, isKnot_at (by omega), bn1S, if_neg (by decide), ixN (show 6 * w + p < 30 by omega) (by decide), gdT, cl _ (by omega)]
    rw [fX6_worth, a1, bn1S, if_neg (by decide), b1, bn1S, if_neg (by decide), q1, bn12S, knotOf_at, bn1S, ga, bn1S]
  · have ia : (5 : Int32) * nI p + nI w = nI (5 * p + w) := by rw [show (5 : Int32) * nI p = nI (5 * p) from pk_mul 5 p, nI_add]
    rw [fX7_worth, a2, bn1S, if_neg (by decide), b2, bn1S, if_neg (by decide), p1, bn8S, ia, r1, bn8S, hg]
