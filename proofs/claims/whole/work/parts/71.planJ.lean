/-! THE PLAN: the reference's boxes, one after the other -/
def mp (f p : Nat → Int) (δ : Int) : Nat → Int := fun k => if f k ≤ p k + δ then f k else p k + δ
theorem mp_le (f p : Nat → Int) (δ : Int) (k : Nat) : mp f p δ k ≤ f k ∧ mp f p δ k ≤ p k + δ := by
  unfold mp
  split <;> omega
theorem mp_f {f p : Nat → Int} {δ : Int} {k : Nat} (h : f k ≤ p k + δ) : mp f p δ k = f k := if_pos h
theorem f30R {nA : Nat} {st en : Nat → Nat} {co : Nat → Int} {rm : Nat → Nat} {p f : Nat → Int} {wy : Nat → Option Nat} (h : FI nA st en co rm p f wy) (hf : 0 ≤ f 30) : f 30 = 0 := by
  have := h.1.1 30 (by decide)
  unfold bsR gR at this
  rw [if_pos rfl] at this
  omega
theorem mp_pot {nA : Nat} {st en : Nat → Nat} {co : Nat → Int} {rm : Nat → Nat} {p f : Nat → Int} {δ D : Int} (hst : ∀ a, a < nA → st a < 32 ∧ en a < 32) (hp : Pot nA st en co rm p) (hD : ∀ k, k < 32 → p k ≤ D) (hδ : 0 ≤ δ) (hs : D + δ < 1000000) (hf : ∀ k, k < 32 → 0 ≤ f k ∧ f k ≤ 1000000) (f30 : f 30 = 0) (hfix : ∀ a, a < nA → 0 < rm a → f (en a) < 1000000 → f (st a) ≤ f (en a) + co a) : Pot nA st en co rm (mp f p δ) ∧ ∀ k, k < 32 → mp f p δ k ≤ D + δ := by
  obtain ⟨p1, p2, p3⟩ := hp
  have le : ∀ k, k < 32 → mp f p δ k ≤ D + δ := fun k hk => by
    have a1 := hD k hk
    have a2 := (mp_le f p δ k).2
    omega
  refine ⟨⟨fun k hk => ⟨?_, ?_⟩, ?_, fun a ha haa => ?_⟩, le⟩
  · have a1 := (p1 k hk).1
    have a2 := (hf k hk).1
    unfold mp
    split <;> omega
  · have := le k hk
    omega
  · rw [mp_f (by omega), f30]
  · obtain ⟨s1, s2⟩ := hst a ha
    have a1 := p3 a ha haa
    have a2 := mp_le f p δ (st a)
    have a3 := hfix a ha haa
    have a4 := hD (en a) s2
    by_cases q : f (en a) ≤ p (en a) + δ
    · rw [mp_f (k := en a) q]
      have := a3 (by omega)
      omega
    · have e : mp f p δ (en a) = p (en a) + δ := if_neg q
      rw [e]
      omega
/-- what the reference's arcs are while boxes go -/
def RRf (P : Nat) (fr to c u : Nat → Nat) (rm : Nat → Nat) (ff ft fm fc : Nat → Int32) : Prop := (P ≤ 150 ∧ ∀ i, i < P → u i ≤ 1000 ∧ rm (2 * i) + rm (2 * i + 1) = u i) ∧ RArcsR (2 * P) (dS to fr) (dS fr to) (dC c) rm ff ft fm fc
theorem thrR_at {P : Nat} {fr to c rm : Nat → Nat} {p f : Nat → Int} {wy : Nat → Option Nat} {δ : Int} (hst : ∀ a, a < 2 * P → dS to fr a < 32 ∧ dS fr to a < 32) (hp : Pot (2 * P) (dS to fr) (dS fr to) (dC c) rm p) (hI : FI (2 * P) (dS to fr) (dS fr to) (dC c) rm p f wy) (hfix : ∀ a, a < 2 * P → 0 < rm a → f (dS fr to a) < 1000000 → f (dS to fr a) ≤ f (dS fr to a) + dC c a) : ∀ n v, v < 32 → chn (dS fr to) wy n v → f v < 1000000 → f v ≤ p v + δ → Thr 32 P to fr c 1 (fun k => -mp f p δ k) wy rm (fun e => e = 30) n v := by
  obtain ⟨⟨-, w1, w2, -⟩, h2, h3, -, -⟩ := hI
  intro n
  induction n with
  | zero =>
    intro v hv hc hl hd
    refine ⟨hc, ?_⟩
    have := w1 v hv hc
    unfold gR bsR at this
    by_cases e : v = 30
    · exact e
    · rw [if_neg e] at this
      omega
  | succ n ih =>
    intro v hv hc hl hd
    obtain ⟨a, ha, hc'⟩ := hc
    obtain ⟨a1, a2, a3, a4⟩ := w2 v a hv ha
    have a2 : 0 < rm a := a2
    have a5 := h3 v a hv ha
    have a6 := hfix a a1 a2 a5
    have a7 := hp.2.2 a a1 a2
    unfold gR at a4
    rw [a3] at a6 a7
    have s2 := (hst a a1).2
    have q : f (dS fr to a) ≤ p (dS fr to a) + δ := by omega
    refine ⟨a, ha, by omega, ?_, s2, ih _ s2 hc' a5 q⟩
    show -mp f p δ v = -mp f p δ (dS fr to a) - dC c a
    rw [mp_f hd, mp_f q]
    omega
theorem walkR_at {P : Nat} {fr to c u rm0 : Nat → Nat} {g : Nat → Int} {wy : Nat → Option Nat} {ff fb : Nat → Int32} (K : (Nat → Int32) → Option (Int32 × Int32 × (Nat → Int32) × (Nat → Int32) × (Nat → Int32) × (Nat → Int32) × (Nat → Int32) × (Nat → Int32))) (hP : P ≤ 150) (hft : ∀ a, a < 2 * P → ff a = nI (dS fr to a)) (hk : ∀ k a, k < 32 → wy k = some a → fb k = nI a) (hw : ∀ x a, x < 32 → wy x = some a → a < 2 * P ∧ dS to fr a = x) (h30 : wy 30 = none) : ∀ (n v m : Nat) (rm : Nat → Nat) (fm : Nat → Int32), Thr 32 P to fr c 1 g wy rm0 (fun e => e = 30) n v → v < 32 → n < m → WK 32 P to fr c u 1 g wy 31 rm0 n v rm → (∀ a, a < 2 * P → fm a = nI (rm a)) → ∃ rm' fm', fX7_leastWith_73 ff fb K m (nI v) fm = K fm' ∧ WK 32 P to fr c u 1 g wy 31 rm0 0 30 rm' ∧ ∀ a, a < 2 * P → fm' a = nI (rm' a) := by
  intro n
  induction n with
  | zero =>
    intro v m rm fm hT hv hm hK hf
    obtain ⟨m, rfl⟩ : ∃ x, m = x + 1 := ⟨m - 1, by omega⟩
    obtain ⟨t1, t2⟩ := hT
    have t2 : v = 30 := t2
    subst t2
    refine ⟨rm, fm, ?_, hK, hf⟩
    rw [fX7_leastWith_73, if_pos (show nI 30 = 30 from rfl)]
  | succ n ih =>
    intro v m rm fm hT hv hm hK hf
    obtain ⟨m, rfl⟩ : ∃ x, m = x + 1 := ⟨m - 1, by omega⟩
    have hch := Thr_chn _ _ hT
    obtain ⟨a, t1, t2, t3, t4, t5⟩ := hT
    obtain ⟨w1, w2⟩ := hw v a hv t1
    obtain ⟨s1, s2⟩ := WK_step hw hK hv hch t1 t2 t3
    have ml := mate_lt w1
    have up : ∀ j, j < 2 * P → upd (upd fm a (nI (rm a - 1))) (mate a) (nI (rm (mate a) + 1)) j = nI (psh rm a 1 j) := by
      intro j hj
      by_cases e1 : j = mate a
      · rw [e1, upd_same, psh_m]
      · rw [upd_ne _ _ e1]
        by_cases e2 : j = a
        · rw [e2, upd_same, psh_a]
        · rw [upd_ne _ _ e2, psh_o rm e2 e1, hf j hj]
    obtain ⟨rm', fm', q1, q2⟩ := ih (dS fr to a) m (psh rm a 1) (upd (upd fm a (nI (rm a - 1))) (mate a) (nI (rm (mate a) + 1))) t5 t4 (by omega) s2 up
    refine ⟨rm', fm', ?_, q2⟩
    have ne : ¬ nI v = 30 := nI_neq (b := 30) (fun z => by
      rw [z, h30] at t1
      exact absurd t1 (by simp)) (by omega) (by decide)
    have rem : irem (nI a) 2 = nI (a % 2) := remN (d := 2) (by omega) (by decide) (by decide)
    have sub : nI (rm a) - 1 = nI (rm a - 1) := nI_subN (b := 1) s1
    rw [fX7_leastWith_73, if_neg ne, ixN hv (by decide), gdT, cl v (by omega), hk v a hv t1, ixN (show a < 300 by omega) (by decide)]
    simp only [gdT, cl a (show a < 2 ^ 31 by omega), rem, hf a w1, sub]
    have tail : ∀ t1 : Int32, t1 = nI (mate a) → fX7_leastWith_122 (fun v4 r => fX7_leastWith_73 ff fb K m v4 r) (nI a) t1 ff (upd fm a (nI (rm a - 1))) = K fm' := by
      intro t1 ht
      rw [ht, fX7_leastWith_122, ixN (show mate a < 300 by omega) (by decide), ixN (show a < 300 by omega) (by decide)]
      simp only [gdT, cl a (show a < 2 ^ 31 by omega), cl (mate a) (show mate a < 2 ^ 31 by omega), hft a w1]
      rw [upd_ne _ _ (mate_ne a), hf (mate a) ml, nI_1]
      exact q1
    by_cases e : a % 2 = 0
    · rw [if_pos (show nI (a % 2) = 0 by rw [e]; rfl)]
      refine tail _ ?_
      rw [nI_1]
      unfold mate
      rw [if_pos e]
    · rw [if_neg (show ¬ nI (a % 2) = 0 from nI_neq (b := 0) e (by omega) (by decide))]
      refine tail _ ?_
      unfold mate
      rw [if_neg e]
      exact nI_subN (b := 1) (by omega)
/-- the flow that the reference holds, and what its total says -/
def RFl (P : Nat) (fr to c u : Nat → Nat) (L : Nat) (SD : Int) (rm : Nat → Nat) (V : Int) : Prop := (∀ i, i < P → rm (2 * i) + rm (2 * i + 1) = u i) ∧ (∀ j, j < 30 → net P to fr (xo rm) j = 0) ∧ V = isum P (fun i => (c i : Int) * xo rm i) + (L : Int) * SD + (L : Int) * net P to fr (xo rm) 31
theorem net_low {P : Nat} {fr to u rm : Nat → Nat} (h : ∀ i, i < P → rm (2 * i) + rm (2 * i + 1) = u i) : 0 ≤ isum P (fun i => (u i : Int)) + net P to fr (xo rm) 31 := by
  unfold net
  rw [← isum_add]
  refine Int.le_trans (Int.le_of_eq (isum_zero P).symm) (isum_le P (fun i hi => ?_))
  have := h i hi
  unfold xo
  show (0 : Int) ≤ (u i : Int) + ((if fr i = 31 then (rm (2 * i + 1) : Int) else 0) - (if to i = 31 then (rm (2 * i + 1) : Int) else 0))
  split <;> split <;> omega
/-- one box of the reference -/
theorem boxR_at {P L : Nat} {SD : Int} {fr to c u rm : Nat → Nat} {p f : Nat → Int} {wy : Nat → Option Nat} {V : Int} {ff ft fm fc fa fb : Nat → Int32} (K : (Nat → Int32) → Option (Int32 × Int32 × (Nat → Int32) × (Nat → Int32) × (Nat → Int32) × (Nat → Int32) × (Nat → Int32) × (Nat → Int32))) (hR : RRf P fr to c u rm ff ft fm fc) (hp : Pot (2 * P) (dS to fr) (dS fr to) (dC c) rm p) (hD : ∀ k, k < 32 → p k ≤ p 31) (hF : RFar f wy fa fb) (hI : FI (2 * P) (dS to fr) (dS fr to) (dC c) rm p f wy) (hfix : ∀ a, a < 2 * P → 0 < rm a → f (dS fr to a) < 1000000 → f (dS to fr a) ≤ f (dS fr to a) + dC c a) (hV : RFl P fr to c u L SD rm V) (hl : f 31 < 1000000) : ∃ rm' p' fm', fX7_leastWith_73 ff fb K FU 31 fm = K fm' ∧ RRf P fr to c u rm' ff ft fm' fc ∧ Pot (2 * P) (dS to fr) (dS fr to) (dC c) rm' p' ∧ (∀ k, k < 32 → p' k ≤ p' 31) ∧ p' 31 = f 31 ∧ RFl P fr to c u L SD rm' (V + (f 31 - L)) ∧ net P to fr (xo rm') 31 = net P to fr (xo rm) 31 - 1 := by
  obtain ⟨⟨r1, r2⟩, r3, r4⟩ := hR
  have hst : ∀ a, a < 2 * P → dS to fr a < 32 ∧ dS fr to a < 32 := fun a ha => ⟨(r4 a ha).1.1, (r4 a ha).1.2.1⟩
  have f30 := f30R hI (hF 30 (by decide)).1.1
  have pf : ∀ k, k < 32 → p k ≤ f k := hI.2.2.2.1
  have d31 := pf 31 (by decide)
  obtain ⟨m1, m2⟩ := mp_pot (δ := f 31 - p 31) hst hp hD (by omega) (by omega) (fun k hk => (hF k hk).1) f30 hfix
  obtain ⟨n, hn⟩ := hI.1.2.2.2 31 (by decide)
  have hw : ∀ x a, x < 32 → wy x = some a → a < 2 * P ∧ dS to fr a = x := fun x a hx ha => ⟨(hI.1.2.2.1 x a hx ha).1, (hI.1.2.2.1 x a hx ha).2.2.1⟩
  have n31 := chn_shortR (fun k a hk ha => (hst a (hw k a hk ha).1).2) (by decide) hn
  have T := thrR_at (δ := f 31 - p 31) hst hp hI hfix n 31 (by decide) hn hl (by omega)
  have start : WK 32 P to fr c u 1 (fun k => -mp f p (f 31 - p 31) k) wy 31 rm n 31 rm := WK_start (fun i hi => (r2 i hi).2) (fun a ha hr => by
    have := m1.2.2 a ha hr
    show -mp f p (f 31 - p 31) (dS fr to a) - dC c a ≤ -mp f p (f 31 - p 31) (dS to fr a)
    omega)
  obtain ⟨rm', fm', q1, q2, q3⟩ := walkR_at K r1 (fun a ha => (r4 a ha).2.2.1) (fun k a hk ha => (hF k hk).2.2 a ha) hw hI.2.1 n 31 FU rm fm T (by decide) (by rw [FU_eq]; omega) start (fun a ha => (r4 a ha).2.2.2.2)
  obtain ⟨w1, w2, w3, -, w5⟩ := q2
  have r2' : ∀ i, i < P → u i ≤ 1000 ∧ rm' (2 * i) + rm' (2 * i + 1) = u i := fun i hi => ⟨(r2 i hi).1, w1 i hi⟩
  have e31 : mp f p (f 31 - p 31) 31 = f 31 := mp_f (by omega)
  have e30 : mp f p (f 31 - p 31) 30 = 0 := m1.2.1
  have n1 : net P to fr (xo rm') 31 = net P to fr (xo rm) 31 - 1 := by
    rw [w2 31, if_neg (by decide), if_pos rfl]
    omega
  refine ⟨rm', mp f p (f 31 - p 31), fm', q1, ⟨⟨r1, r2'⟩, r3, fun a ha => ⟨⟨(r4 a ha).1.1, (r4 a ha).1.2.1, (r4 a ha).1.2.2.1, (r4 a ha).1.2.2.2.1, by have := rm_le r2' ha; omega⟩, (r4 a ha).2.1, (r4 a ha).2.2.1, (r4 a ha).2.2.2.1, q3 a ha⟩⟩, ⟨m1.1, m1.2.1, fun a ha hr => ?_⟩, fun k hk => ?_, e31, ⟨w1, fun j hj => ?_, ?_⟩, n1⟩
  · have h5 : -mp f p (f 31 - p 31) (dS fr to a) - dC c a ≤ -mp f p (f 31 - p 31) (dS to fr a) := w5 a ha hr
    omega
  · have := m2 k hk
    rw [e31]
    omega
  · rw [w2 j, hV.2.1 j hj, if_neg (by omega), if_neg (by omega)]
    rfl
  · have w3 : isum P (fun i => (c i : Int) * xo rm' i) = isum P (fun i => (c i : Int) * xo rm i) + ((1 : Nat) : Int) * (-mp f p (f 31 - p 31) 30 - -mp f p (f 31 - p 31) 31) := w3
    rw [w3, e30, e31, n1, Int.mul_sub (L : Int), hV.2.2, Int.natCast_one, Int.one_mul, Int.mul_one]
    omega
/-- the reference's boxes, to their end -/
theorem boxesR_at {P L : Nat} {SD : Int} {fr to c u : Nat → Nat} {fn ff ft fc : Nat → Int32} (hL : L ≤ 500) (hn : fn 9 = nI L) : ∀ (T m : Nat) (rm : Nat → Nat) (p f : Nat → Int) (wy : Nat → Option Nat) (V : Int) (fm fa fb : Nat → Int32), isum P (fun i => (u i : Int)) + net P to fr (xo rm) 31 ≤ T → T < m → RRf P fr to c u rm ff ft fm fc → Pot (2 * P) (dS to fr) (dS fr to) (dC c) rm p → (∀ k, k < 32 → p k ≤ p 31) → p 31 ≤ L → RFar f wy fa fb → FI (2 * P) (dS to fr) (dS fr to) (dC c) rm p f wy → (∀ a, a < 2 * P → 0 < rm a → f (dS fr to a) < 1000000 → f (dS to fr a) ≤ f (dS fr to a) + dC c a) → RFl P fr to c u L SD rm V → ∃ (V' : Int) (rm' : Nat → Nat) (y : Nat → Int) (fm' fa' fb' : Nat → Int32), fX7_leastWith_46 (nI (2 * P)) fn ff ft fc m (zI V) (zI (f 31)) fm fa fb = some (zI V', nI (2 * P), ff, ft, fm', fc, fa', fb') ∧ RFl P fr to c u L SD rm' V' ∧ Pot (2 * P) (dS to fr) (dS fr to) (dC c) rm' y ∧ y 31 = L := by
  intro T
  induction T with
  | zero =>
    intro m rm p f wy V fm fa fb hT hm hR hp hD hDL hF hI hfix hV
    obtain ⟨m, rfl⟩ : ∃ x, m = x + 1 := ⟨m - 1, by omega⟩
    have hst : ∀ a, a < 2 * P → dS to fr a < 32 ∧ dS fr to a < 32 := fun a ha => ⟨(hR.2.2 a ha).1.1, (hR.2.2 a ha).1.2.1⟩
    have fb31 := (hF 31 (by decide)).1
    by_cases q : f 31 < L
    · exfalso
      obtain ⟨rm', p', fm', -, q2, -, -, -, q6, q7⟩ := boxR_at (fun _ => none) hR hp hD hF hI hfix hV (by omega)
      have := net_low (fr := fr) (to := to) q6.1
      omega
    · obtain ⟨m1, m2⟩ := mp_pot (δ := L - p 31) hst hp hD (by omega) (by omega) (fun k hk => (hF k hk).1) (f30R hI (hF 30 (by decide)).1.1) hfix
      refine ⟨V, rm, mp f p (L - p 31), fm, fa, fb, ?_, hV, m1, ?_⟩
      · rw [fX7_leastWith_46, show ix (9 : Int32) 10 = true from rfl, gdT, show (9 : Int32).toNatClampNeg = 9 from rfl, hn, zI_nI L, if_pos ((zI_le (by omega) (by omega) (by omega) (by omega)).mpr (by omega))]
      · unfold mp
        split <;> omega
  | succ T ih =>
    intro m rm p f wy V fm fa fb hT hm hR hp hD hDL hF hI hfix hV
    obtain ⟨m, rfl⟩ : ∃ x, m = x + 1 := ⟨m - 1, by omega⟩
    have hst : ∀ a, a < 2 * P → dS to fr a < 32 ∧ dS fr to a < 32 := fun a ha => ⟨(hR.2.2 a ha).1.1, (hR.2.2 a ha).1.2.1⟩
    have fb31 := (hF 31 (by decide)).1
    by_cases q : f 31 < L
    · obtain ⟨rm', p', fm', q1, q2, q3, q4, q5, q6, q7⟩ := boxR_at (fun r => fX7_leastWith_139 (fun v2 v3 a b c => fX7_leastWith_46 (nI (2 * P)) fn ff ft fc m v2 v3 a b c) (zI V + (zI (f 31) - nI L)) (nI (2 * P)) ff ft r fc fa fb) hR hp hD hF hI hfix hV (by omega)
      obtain ⟨f', wy', fa', fb', c1, c2, c3, c4⟩ := cheapest_at (fa0 := fa) (fb0 := fb) q2.2 q3
      have nx := ih m rm' p' f' wy' (V + (f 31 - L)) fm' fa' fb' (by omega) (by omega) q2 q3 q4 (by omega) c2 c3 c4 q6
      rw [fX7_leastWith_46, show ix (9 : Int32) 10 = true from rfl, gdT, gdT, show (9 : Int32).toNatClampNeg = 9 from rfl, hn, if_neg (show ¬ nI L ≤ zI (f 31) from fun w => by
        rw [zI_nI L] at w
        have := (zI_le (by omega) (by omega) (by omega) (by omega)).mp w
        omega), q1]
      simp only [fX7_leastWith_139]
      rw [c1, bn3S, zI_nI L, zI_sub, zI_add]
      exact nx
    · obtain ⟨m1, m2⟩ := mp_pot (δ := L - p 31) hst hp hD (by omega) (by omega) (fun k hk => (hF k hk).1) (f30R hI (hF 30 (by decide)).1.1) hfix
      refine ⟨V, rm, mp f p (L - p 31), fm, fa, fb, ?_, hV, m1, ?_⟩
      · rw [fX7_leastWith_46, show ix (9 : Int32) 10 = true from rfl, gdT, show (9 : Int32).toNatClampNeg = 9 from rfl, hn, zI_nI L, if_pos ((zI_le (by omega) (by omega) (by omega) (by omega)).mpr (by omega))]
      · unfold mp
        split <;> omega
