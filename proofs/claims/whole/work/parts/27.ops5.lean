theorem op_clear : Op_clear Inv := by
  intro E F M N h
  obtain ⟨⟨td, lk, rt, fr, nB, nW, nR, nO, nA, nU, ⟨hd, hn, hb⟩, hBox, hWo, hWe, hRo, hOf, hWa, hLv, hLs, hUs⟩, hK, hT, hP⟩ := id h
  have e10 : E 10 = nI nO := hd.2.2.2.2.2.2.2.2.1
  have e11 : E 11 = nI nA := hd.2.2.2.2.2.2.2.2.2.1
  have n4 : N 0 4 = nI nO := hn.2.2.2.2.1
  have n5 : N 0 5 = nI nA := hn.2.2.2.2.2.1
  refine ⟨nI nO + nI nA, 0, 0, upd (upd (N 0) 4 0) 5 0, ?_, ?_, ?_⟩
  · simp only [fX6_clear, fX4_size, fX4_empty, bn1S, e10, e11]
  · simp only [fX7_clear]
    rw [gdt (show ix (4 : Int32) 10 = true by decide), gdt (show ix (5 : Int32) 10 = true by decide), gdt (show ix (4 : Int32) 10 = true by decide), gdt (show ix (5 : Int32) 10 = true by decide), show (4 : Int32).toNatClampNeg = 4 from rfl, show (5 : Int32).toNatClampNeg = 5 from rfl, n4, n5]
  · refine Inv_desk h ⟨td, lk, rt, fr, nB, nW, nR, 0, 0, nU, ⟨by simp [va_up, hd, nI_0], by simp [va_up, upd, hn, nI_0], by omega⟩, by simpa [va_up] using hBox, by simpa [va_up] using hWo, by simpa [va_up] using hWe, by simpa [va_up] using hRo, fun o ho => absurd ho (Nat.not_lt_zero o), fun o ho => absurd ho (Nat.not_lt_zero o), by simpa [va_up] using hLv, by simpa [va_up] using hLs, by simpa [va_up] using hUs⟩ rfl (fun i hi => by rw [up_ge (b := 15) (by decide) hi, up_ge (b := 15) (by decide) hi]) (fun j hj => rfl) rfl rfl rfl rfl (RP_same hP rfl rfl rfl rfl rfl rfl rfl)
theorem op_leave : Op_leave Inv := by
  intro E F M N v1 v2 v3 hz h
  obtain ⟨⟨td, lk, rt, fr, nB, nW, nR, nO, nA, nU, ⟨hd, hn, hb⟩, hBox, hWo, hWe, hRo, hOf, hWa, hLv, hLs, hUs⟩, hK, hT, hP⟩ := id h
  have e12 : E 12 = nI 4 := hd.2.2.2.2.2.2.2.2.2.2.1
  have no : ∀ r : Int32, fX6_leave v1 v2 v3 (E 12) (F 6) = some (r, F 6) → fX7_leave v1 v2 v3 (N 6) = some (r, N 6) → ∃ (r : Int32) (z1 z2 : Nat → Int32), fX6_leave v1 v2 v3 (E 12) (F 6) = some (r, z1) ∧ fX7_leave v1 v2 v3 (N 6) = some (r, z2) ∧ Inv E (va_up F 6 z1) M (va_up N 6 z2) := by
    intro r P1 P2
    refine ⟨r, F 6, N 6, P1, P2, ?_⟩
    rw [up_self, up_self]; exact h
  rcases tLine v1 with ⟨a1, a2⟩ | ⟨i, hi, rfl, a1, a2⟩
  · exact no (-1) (by simp [fX6_leave, a1, bn1S]) (by simp [fX7_leave, a2, bn1S])
  rcases tLine v2 with ⟨b1, b2⟩ | ⟨j, hj, rfl, b1, b2⟩
  · exact no (-1) (by simp [fX6_leave, a1, b1, bn1S]) (by simp [fX7_leave, a2, b2, bn1S])
  by_cases hij : i = j
  · exact no (-1) (by simp [fX6_leave, a1, b1, bn1S, hij]) (by simp [fX7_leave, a2, b2, bn1S, hij])
  have hne : ¬ nI i = nI j := nI_neq hij (by omega) (by omega)
  obtain ⟨x, hx, x1, x2, x3⟩ := hLv i j (by omega) (by omega)
  obtain ⟨y, hy, y1, y2, y3⟩ := hLv j i (by omega) (by omega)
  have hl : fX6_hasLeave (nI i) (nI j) (E 12) (F 6) = some (nI x) := by
    unfold fX6_hasLeave
    rw [e12, show fX4_cell (nI i) (nI j) 4 (nI 4) 16 (F 6) = some (F 6 (4 * i + j)) from cell_at (cols := 4) (by omega) (by omega) (by omega) (by decide) (by decide) (by decide), bn1S, x1]
    rcases (show x = 0 ∨ x = 1 by omega) with rfl | rfl <;> rfl
  have p1 : ∀ (w : Int32) (f : Nat → Int32), fX4_put (nI i) (nI j) w 4 (E 12) 16 f = some (upd f (4 * i + j) w) := by
    intro w f; rw [e12]; exact put_at (cols := 4) (by omega) (by omega) (by omega) (by decide) (by decide) (by decide)
  have p2 : ∀ (w : Int32) (f : Nat → Int32), fX4_put (nI j) (nI i) w 4 (E 12) 16 f = some (upd f (4 * j + i) w) := by
    intro w f; rw [e12]; exact put_at (cols := 4) (by omega) (by omega) (by omega) (by decide) (by decide) (by decide)
  -- the reference writes v in both places
  have hm : ∀ v : Nat, v ≤ 1 → fX7_leave_30 (nI i) (nI j) (nI v) (N 6) = some ((if x = v then 0 else 1), upd (upd (N 6) (4 * i + j) (nI v)) (4 * j + i) (nI v)) := by
    intro v hv
    simp only [fX7_leave_30, fX7_leave_52]
    rw [show (4 : Int32) * nI i + nI j = nI (4 * i + j) from ax 4 i j, show (4 : Int32) * nI j + nI i = nI (4 * j + i) from ax 4 j i, ixN (by omega) (by decide), ixN (by omega) (by decide), gdT, cl _ (by omega), cl _ (by omega), x2]
    by_cases hxv : x = v
    · rw [if_pos (by rw [hxv]), if_pos hxv]; rfl
    · rw [if_neg (nI_neq hxv (by omega) (by omega)), if_neg hxv]; rfl
  have inv : ∀ v : Nat, v ≤ 1 → Inv E (va_up F 6 (upd (upd (F 6) (4 * i + j) (nI v)) (4 * j + i) (nI v))) M (va_up N 6 (upd (upd (N 6) (4 * i + j) (nI v)) (4 * j + i) (nI v))) := by
    intro v hv
    refine Inv_desk h ⟨td, lk, rt, fr, nB, nW, nR, nO, nA, nU, ⟨by simpa [va_up] using hd, by simpa [va_up] using hn, hb⟩, by simpa [va_up] using hBox, by simpa [va_up] using hWo, by simpa [va_up] using hWe, by simpa [va_up] using hRo, by simpa [va_up] using hOf, by simpa [va_up] using hWa, ?_, by simpa [va_up] using hLs, by simpa [va_up] using hUs⟩ rfl (fun i hi => rfl) (fun k hk => up_ge (by decide) hk) rfl rfl rfl rfl (RP_same hP rfl rfl rfl rfl rfl rfl rfl)
    show RLeave (upd (upd (F 6) (4 * i + j) (nI v)) (4 * j + i) (nI v)) (upd (upd (N 6) (4 * i + j) (nI v)) (4 * j + i) (nI v))
    intro i' j' hi' hj'
    obtain ⟨z, hz, z1, z2, z3⟩ := hLv i' j' hi' hj'
    by_cases c1 : i' = i ∧ j' = j
    · obtain ⟨rfl, rfl⟩ := c1
      exact ⟨v, hv, by rw [upd_ne _ _ (by omega), upd_same], by rw [upd_ne _ _ (by omega), upd_same], by rw [upd_same]⟩
    · by_cases c2 : i' = j ∧ j' = i
      · obtain ⟨rfl, rfl⟩ := c2
        exact ⟨v, hv, by rw [upd_same], by rw [upd_same], by rw [upd_ne _ _ (by omega), upd_same]⟩
      · exact ⟨z, hz, by rw [upd_ne _ _ (by omega), upd_ne _ _ (by omega)]; exact z1, by rw [upd_ne _ _ (by omega), upd_ne _ _ (by omega)]; exact z2, by rw [upd_ne _ _ (by omega), upd_ne _ _ (by omega)]; exact z3⟩
  have xy : y = x := by
    have := x3.symm.trans y1
    exact ((nI_eq (by omega) (by omega)).mp this).symm
  -- nothing changes where it was so already
  have same : ∀ g : Nat → Int32, g (4 * i + j) = nI x → g (4 * j + i) = nI x → upd (upd g (4 * i + j) (nI x)) (4 * j + i) (nI x) = g := by
    intro g g1 g2
    rw [fa_upd_same g1, fa_upd_same g2]
  have fin : ∀ v : Nat, v ≤ 1 → (v3 = 0 ↔ v = 0) → (nI x = v3 ↔ x = v) → ∃ (r : Int32) (z1 z2 : Nat → Int32), fX6_leave (nI i) (nI j) v3 (E 12) (F 6) = some (r, z1) ∧ fX7_leave (nI i) (nI j) v3 (N 6) = some (r, z2) ∧ Inv E (va_up F 6 z1) M (va_up N 6 z2) := by
    intro v hv h0 h1
    refine ⟨(if x = v then 0 else 1), upd (upd (F 6) (4 * i + j) (nI v)) (4 * j + i) (nI v), upd (upd (N 6) (4 * i + j) (nI v)) (4 * j + i) (nI v), ?_, ?_, inv v hv⟩
    · simp only [fX6_leave, a1, b1, bn1S, eq10, if_false, hne, hl]
      by_cases hxv : x = v
      · rw [if_pos (h1.mpr hxv), if_pos hxv, ← hxv, same (F 6) x1 x3]
      · rw [if_neg (fun q => hxv (h1.mp q)), if_neg hxv]
        simp only [fX6_leave_51, fX6_leave_72, p1, p2, bn1S]
        rcases (show v = 0 ∨ v = 1 by omega) with rfl | rfl
        · rw [if_pos (h0.mpr rfl), if_pos (h0.mpr rfl)]; rfl
        · rw [if_neg (fun q => absurd (h0.mp q) (by decide)), if_neg (fun q => absurd (h0.mp q) (by decide))]; rfl
    · simp only [fX7_leave, a2, b2, bn1S, eq10, if_false, hne]
      rcases (show v = 0 ∨ v = 1 by omega) with rfl | rfl
      · rw [if_pos (h0.mpr rfl)]; exact hm 0 (by decide)
      · rw [if_neg (fun q => absurd (h0.mp q) (by decide))]; exact hm 1 (by decide)
  rcases hz with rfl | rfl
  · exact fin 0 (by decide) (by simp) (by rw [show (0 : Int32) = nI 0 from rfl]; exact nI_eq (by omega) (by decide))
  · exact fin 1 (by decide) (by simp) (by rw [show (1 : Int32) = nI 1 from rfl]; exact nI_eq (by omega) (by decide))
def app6 (f : Nat → Int32) (r : Nat) (a b c d e g : Int32) : Nat → Int32 := upd (upd (upd (upd (upd (upd f (6 * r) a) (6 * r + 1) b) (6 * r + 2) c) (6 * r + 3) d) (6 * r + 4) e) (6 * r + 5) g
theorem app6_old {f : Nat → Int32} {r : Nat} {a b c d e g : Int32} {j : Nat} (h : j < 6 * r ∨ 6 * r + 6 ≤ j) : app6 f r a b c d e g j = f j := by
  unfold app6
  rw [upd_ne _ _ (by omega), upd_ne _ _ (by omega), upd_ne _ _ (by omega), upd_ne _ _ (by omega), upd_ne _ _ (by omega), upd_ne _ _ (by omega)]
theorem app6_at {f : Nat → Int32} {r : Nat} {a b c d e g : Int32} : app6 f r a b c d e g (6 * r) = a ∧ app6 f r a b c d e g (6 * r + 1) = b ∧ app6 f r a b c d e g (6 * r + 2) = c ∧ app6 f r a b c d e g (6 * r + 3) = d ∧ app6 f r a b c d e g (6 * r + 4) = e ∧ app6 f r a b c d e g (6 * r + 5) = g := by
  unfold app6
  refine ⟨?_, ?_, ?_, ?_, ?_, ?_⟩
  · rw [upd_ne _ _ (by omega), upd_ne _ _ (by omega), upd_ne _ _ (by omega), upd_ne _ _ (by omega), upd_ne _ _ (by omega), upd_same]
  · rw [upd_ne _ _ (by omega), upd_ne _ _ (by omega), upd_ne _ _ (by omega), upd_ne _ _ (by omega), upd_same]
  · rw [upd_ne _ _ (by omega), upd_ne _ _ (by omega), upd_ne _ _ (by omega), upd_same]
  · rw [upd_ne _ _ (by omega), upd_ne _ _ (by omega), upd_same]
  · rw [upd_ne _ _ (by omega), upd_same]
  · rw [upd_same]
theorem put6 {γ : Type} {r n : Nat} {f : Nat → Int32} {a b c d e g : Int32} {k : (Nat → Int32) → Option γ} (h : 6 * r + 6 ≤ n) (hn : n < 2 ^ 30) : (bn1 (fX4_put (nI r) 0 a 6 (nI (r + 1)) n f) fun o1 => bn1 (fX4_put (nI r) 1 b 6 (nI (r + 1)) n o1) fun o2 => bn1 (fX4_put (nI r) 2 c 6 (nI (r + 1)) n o2) fun o3 => bn1 (fX4_put (nI r) 3 d 6 (nI (r + 1)) n o3) fun o4 => bn1 (fX4_put (nI r) 4 e 6 (nI (r + 1)) n o4) fun o5 => bn1 (fX4_put (nI r) 5 g 6 (nI (r + 1)) n o5) k) = k (app6 f r a b c d e g) := by
  have p : ∀ (j : Nat) (w : Int32) (f : Nat → Int32), j < 6 → fX4_put (nI r) (nI j) w (nI 6) (nI (r + 1)) n f = some (upd f (6 * r + j) w) := fun j w f hj => put_at (by omega) hj (by omega) (by omega) (by decide) (by omega)
  rw [show fX4_put (nI r) 0 a 6 (nI (r + 1)) n f = _ from p 0 a f (by decide), bn1S, show ∀ f, fX4_put (nI r) 1 b 6 (nI (r + 1)) n f = _ from fun f => p 1 b f (by decide), bn1S, show ∀ f, fX4_put (nI r) 2 c 6 (nI (r + 1)) n f = _ from fun f => p 2 c f (by decide), bn1S, show ∀ f, fX4_put (nI r) 3 d 6 (nI (r + 1)) n f = _ from fun f => p 3 d f (by decide), bn1S, show ∀ f, fX4_put (nI r) 4 e 6 (nI (r + 1)) n f = _ from fun f => p 4 e f (by decide), bn1S, show ∀ f, fX4_put (nI r) 5 g 6 (nI (r + 1)) n f = _ from fun f => p 5 g f (by decide), bn1S]
  rfl
theorem op_use : Op_use Inv := by
  intro E F M N v1 v2 v3 v4 h
  obtain ⟨⟨td, lk, rt, fr, nB, nW, nR, nO, nA, nU, ⟨hd, hn, hb⟩, hBox, hWo, hWe, hRo, hOf, hWa, hLv, hLs, hUs⟩, hK, hT, hP⟩ := id h
  have e2 : E 2 = nI td := hd.1
  have e6 : E 6 = nI nB := hd.2.2.2.2.1
  have e14 : E 14 = nI nU := hd.2.2.2.2.2.2.2.2.2.2.2.2
  have n0 : N 0 0 = nI td := hn.1
  have n6 : N 0 6 = nI nU := hn.2.2.2.2.2.2.1
  have no : ∀ r : Int32, fX6_use v1 v2 v3 v4 (E 2) (E 6) (F 0) (E 14) (F 8) = some (r, E 14, F 8) → fX7_use v1 v2 v3 v4 (N 0) (N 1) (N 8) = some (r, N 0, N 8) → ∃ (r z1 : Int32) (z2 z3 z4 : Nat → Int32), fX6_use v1 v2 v3 v4 (E 2) (E 6) (F 0) (E 14) (F 8) = some (r, z1, z2) ∧ fX7_use v1 v2 v3 v4 (N 0) (N 1) (N 8) = some (r, z3, z4) ∧ Inv (va_up E 14 z1) (va_up F 8 z2) M (va_up (va_up N 0 z3) 8 z4) := by
    intro r P1 P2
    refine ⟨r, E 14, F 8, N 0, N 8, P1, P2, ?_⟩
    rw [up_self, up_self, up_self, up_self]; exact h
  rcases tBox v1 e6 hn.2.1 (by omega) with ⟨a1, a2⟩ | ⟨b, hb1, rfl, a1, a2⟩
  · exact no (-1) (by simp [fX6_use, a1, bn1S]) (by simp [fX7_use, a2, bn1S])
  rcases tLine v2 with ⟨b1, b2⟩ | ⟨ln, hln, rfl, b1, b2⟩
  · exact no (-1) (by simp [fX6_use, a1, b1, bn1S]) (by simp [fX7_use, a2, b2, bn1S])
  rcases tPast v3 e2 n0 (by omega) with ⟨c1, c2⟩ | ⟨d, hd1, rfl, c1, c2⟩
  · exact no (-1) (by simp [fX6_use, a1, b1, c1, bn1S]) (by simp [fX7_use, a2, b2, c2, bn1S])
  rcases tPast v4 e2 n0 (by omega) with ⟨d1, d2⟩ | ⟨k, hk, rfl, d1, d2⟩
  · exact no (-1) (by simp [fX6_use, a1, b1, c1, d1, bn1S]) (by simp [fX7_use, a2, b2, c2, d2, bn1S])
  rcases Nat.lt_or_ge k d with hgt | hle
  · have q : ¬ nI d ≤ nI k := nI_ge (by omega) (by omega)
    exact no (-1) (by simp [fX6_use, a1, b1, c1, d1, bn1S, q]) (by simp [fX7_use, a2, b2, c2, d2, bn1S, q])
  have q : nI d ≤ nI k := nI_le hle (by omega)
  obtain ⟨mk, kd, bl, cm, ft, hh, -, -, x2, -⟩ := hBox b hb1
  have cb : fX4_cell (nI b) 2 9 (E 6) 216 (F 0) = some (nI bl) := by rw [e6, show fX4_cell (nI b) 2 9 (nI nB) 216 (F 0) = some (F 0 (9 * b + 2)) from cell_at (c := 2) (cols := 9) hb1 (by decide) (by omega) (by omega) (by decide) (by decide), x2.1]
  have gb : fX7_get (nI b) 2 (N 1) = some (nI bl) := by rw [show fX7_get (nI b) 2 (N 1) = _ from get_at (k := 2) (by omega), x2.2]
  by_cases hown : bl = ln
  · subst hown
    exact no (-4) (by simp [fX6_use, a1, b1, c1, d1, bn1S, q, cb]) (by simp [fX7_use, a2, b2, c2, d2, bn1S, q, gb])
  have hne : ¬ nI bl = nI ln := nI_neq hown (by omega) (by omega)
  have fu := full_at (most := 40) (rows := nU) (by omega) (by decide)
  by_cases hfull : nU < 40
  · have gr := grow_at (most := 40) hfull (by decide)
    refine ⟨nI nU, nI (nU + 1), app6 (F 8) nU (nI b) (nI ln) (nI d) (nI k) (nI td) 201, upd (N 0) 6 (nI (nU + 1)), app6 (N 8) nU (nI b) (nI ln) (nI d) (nI k) (nI td) (-1), ?_, ?_, ?_⟩
    · simp only [fX6_use, a1, b1, c1, d1, bn1S, eq10, if_false, e14, q, if_true, cb, hne]
      rw [show fX4_isFull 40 (nI nU) = _ from fu, if_pos hfull, bn1S, if_pos rfl, show fX4_grow 40 (nI nU) = _ from gr, bn2S, put6 (by omega) (by decide), e2]
    · simp only [fX7_use, a2, b2, c2, d2, bn1S, eq10, if_false, q, if_true, gb, hne]
      simp (disch := omega) only [fa_lit, pk_mul, nI_add, ixN, cl, gdT, n6, n0]
      rw [if_neg (nI_neq (by omega) (by omega) (by decide))]
      simp only [upd_same, show nI (nU + 1) - nI 1 = nI nU from nI_pred nU]
      rfl
    · refine Inv_desk h ⟨td, lk, rt, fr, nB, nW, nR, nO, nA, nU + 1, ⟨by simp [va_up, hd], by simp [va_up, upd, hn], by omega⟩, by simpa [va_up] using hBox, by simpa [va_up] using hWo, by simpa [va_up] using hWe, by simpa [va_up] using hRo, by simpa [va_up] using hOf, by simpa [va_up] using hWa, by simpa [va_up] using hLv, by simpa [va_up] using hLs, ?_⟩ rfl (fun i hi => up_ge (by decide) hi) (fun j hj => up_ge (by decide) hj) rfl rfl rfl rfl (RP_same hP rfl rfl rfl rfl rfl rfl rfl)
      show RUse (nU + 1) nB (app6 (F 8) nU (nI b) (nI ln) (nI d) (nI k) (nI td) 201) (app6 (N 8) nU (nI b) (nI ln) (nI d) (nI k) (nI td) (-1))
      intro w hw
      rcases Nat.lt_or_ge w nU with z | z
      · obtain ⟨bx, dy, pl, wt, kn, hh⟩ := hUs w z
        refine ⟨bx, dy, pl, wt, kn, ?_⟩
        rw [app6_old (by omega), app6_old (by omega), app6_old (by omega), app6_old (by omega), app6_old (by omega), app6_old (by omega), app6_old (by omega), app6_old (by omega), app6_old (by omega), app6_old (by omega), app6_old (by omega), app6_old (by omega)]
        exact hh
      · obtain rfl : w = nU := by omega
        obtain ⟨s0, s1, s2, s3, s4, s5⟩ := app6_at (f := F 8) (r := w) (a := nI b) (b := nI ln) (c := nI d) (d := nI k) (e := nI td) (g := 201)
        obtain ⟨u0, u1, u2, u3, u4, u5⟩ := app6_at (f := N 8) (r := w) (a := nI b) (b := nI ln) (c := nI d) (d := nI k) (e := nI td) (g := -1)
        exact ⟨b, ln, d, k, td, by omega, ⟨s0, u0⟩, ⟨s1, u1⟩, ⟨s2, u2⟩, ⟨s3, u3⟩, ⟨s4, u4⟩, Or.inl ⟨s5, u5⟩⟩
  · obtain rfl : nU = 40 := by omega
    refine no (-2) ?_ ?_
    · simp only [fX6_use, a1, b1, c1, d1, bn1S, eq10, if_false, e14, q, if_true, cb, hne]
      rw [show fX4_isFull 40 (nI 40) = _ from fu, if_neg hfull, bn1S, if_neg (by decide)]
    · simp only [fX7_use, a2, b2, c2, d2, bn1S, eq10, if_false, q, if_true, gb, hne]
      simp (disch := omega) only [fa_lit, ixN, cl, gdT, n6, if_true]
