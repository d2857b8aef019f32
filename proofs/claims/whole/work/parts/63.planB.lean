/-! THE PLAN: boxes pushed along a chain -/
def dS (fr to : Nat → Nat) : Nat → Nat := fun a => if a % 2 = 0 then fr (a / 2) else to (a / 2)
def dC (c : Nat → Nat) : Nat → Int := fun a => if a % 2 = 0 then (c (a / 2) : Int) else -(c (a / 2) : Int)
def mate (a : Nat) : Nat := if a % 2 = 0 then a + 1 else a - 1
def xo (rm : Nat → Nat) : Nat → Int := fun i => (rm (2 * i + 1) : Int)
def psh (rm : Nat → Nat) (a b : Nat) : Nat → Nat := fun j => if j = a then rm a - b else if j = mate a then rm (mate a) + b else rm j
theorem two_of (a : Nat) : ∃ i, a = 2 * i ∨ a = 2 * i + 1 := ⟨a / 2, by omega⟩
theorem dS_even (fr to : Nat → Nat) (i : Nat) : dS fr to (2 * i) = fr i := by
  unfold dS
  rw [if_pos (by omega), show 2 * i / 2 = i by omega]
theorem dS_odd (fr to : Nat → Nat) (i : Nat) : dS fr to (2 * i + 1) = to i := by
  unfold dS
  rw [if_neg (by omega), show (2 * i + 1) / 2 = i by omega]
theorem dC_even (c : Nat → Nat) (i : Nat) : dC c (2 * i) = (c i : Int) := by
  unfold dC
  rw [if_pos (by omega), show 2 * i / 2 = i by omega]
theorem dC_odd (c : Nat → Nat) (i : Nat) : dC c (2 * i + 1) = -(c i : Int) := by
  unfold dC
  rw [if_neg (by omega), show (2 * i + 1) / 2 = i by omega]
theorem mate_even (i : Nat) : mate (2 * i) = 2 * i + 1 := by
  unfold mate
  rw [if_pos (by omega)]
theorem mate_odd (i : Nat) : mate (2 * i + 1) = 2 * i := by
  unfold mate
  rw [if_neg (by omega)]
  omega
theorem mate_ne (a : Nat) : mate a ≠ a := by
  obtain ⟨i, rfl | rfl⟩ := two_of a
  · rw [mate_even]; omega
  · rw [mate_odd]; omega
theorem mate_lt {a P : Nat} (h : a < 2 * P) : mate a < 2 * P := by
  obtain ⟨i, rfl | rfl⟩ := two_of a
  · rw [mate_even]; omega
  · rw [mate_odd]; omega
theorem dS_mate (fr to : Nat → Nat) (a : Nat) : dS fr to (mate a) = dS to fr a := by
  obtain ⟨i, rfl | rfl⟩ := two_of a
  · rw [mate_even, dS_odd, dS_even]
  · rw [mate_odd, dS_odd, dS_even]
theorem dC_mate (c : Nat → Nat) (a : Nat) : dC c (mate a) = -dC c a := by
  obtain ⟨i, rfl | rfl⟩ := two_of a
  · rw [mate_even, dC_odd, dC_even]
  · rw [mate_odd, dC_odd, dC_even, Int.neg_neg]
theorem psh_a (rm : Nat → Nat) (a b : Nat) : psh rm a b a = rm a - b := if_pos rfl
theorem psh_m (rm : Nat → Nat) (a b : Nat) : psh rm a b (mate a) = rm (mate a) + b := by
  unfold psh
  rw [if_neg (mate_ne a), if_pos rfl]
theorem psh_o (rm : Nat → Nat) {a b j : Nat} (h1 : j ≠ a) (h2 : j ≠ mate a) : psh rm a b j = rm j := by
  unfold psh
  rw [if_neg h1, if_neg h2]
/-- what a push changes -/
theorem psh_x {fr to c rm : Nat → Nat} {a b : Nat} (hb : b ≤ rm a) : ∃ (i : Nat) (δ : Int), (a = 2 * i ∨ a = 2 * i + 1) ∧ (∀ j, j ≠ i → xo (psh rm a b) j = xo rm j) ∧ xo (psh rm a b) i = xo rm i + δ ∧ ((δ = (b : Int) ∧ dS fr to a = fr i ∧ dS to fr a = to i ∧ dC c a = (c i : Int)) ∨ (δ = -(b : Int) ∧ dS fr to a = to i ∧ dS to fr a = fr i ∧ dC c a = -(c i : Int))) := by
  obtain ⟨i, rfl | rfl⟩ := two_of a
  · refine ⟨i, (b : Int), Or.inl rfl, fun j hj => ?_, ?_, Or.inl ⟨rfl, dS_even _ _ _, dS_even _ _ _, dC_even _ _⟩⟩
    · unfold xo
      rw [psh_o rm (by omega) (by rw [mate_even]; omega)]
    · unfold xo
      have h := psh_m rm (2 * i) b
      rw [mate_even] at h
      rw [h]
      omega
  · refine ⟨i, -(b : Int), Or.inr rfl, fun j hj => ?_, ?_, Or.inr ⟨rfl, dS_odd _ _ _, dS_odd _ _ _, dC_odd _ _⟩⟩
    · unfold xo
      rw [psh_o rm (by omega) (by rw [mate_odd]; omega)]
    · unfold xo
      rw [psh_a]
      omega
theorem psh_net {P : Nat} {fr to rm : Nat → Nat} {a b : Nat} (ha : a < 2 * P) (hb : b ≤ rm a) (j : Nat) : net P fr to (xo (psh rm a b)) j = net P fr to (xo rm) j + (if dS to fr a = j then (b : Int) else 0) - (if dS fr to a = j then (b : Int) else 0) := by
  obtain ⟨i, δ, h0, h1, h2, h3⟩ := psh_x (fr := fr) (to := to) (c := fr) hb
  have hi : i < P := by omega
  have e : net P fr to (xo (psh rm a b)) j = net P fr to (xo rm) j + ((if to i = j then δ else 0) - (if fr i = j then δ else 0)) := by
    unfold net
    refine isum_at (c := i) P hi (fun k _ hk => ?_) ?_
    · show (if to k = j then xo (psh rm a b) k else 0) - (if fr k = j then xo (psh rm a b) k else 0) = (if to k = j then xo rm k else 0) - (if fr k = j then xo rm k else 0)
      rw [h1 k hk]
    · show (if to i = j then xo (psh rm a b) i else 0) - (if fr i = j then xo (psh rm a b) i else 0) = (if to i = j then xo rm i else 0) - (if fr i = j then xo rm i else 0) + ((if to i = j then δ else 0) - (if fr i = j then δ else 0))
      rw [h2]
      split <;> split <;> omega
  rw [e]
  rcases h3 with ⟨q1, q2, q3, -⟩ | ⟨q1, q2, q3, -⟩
  · rw [q1, q2, q3]
    omega
  · rw [q1, q2, q3]
    split <;> split <;> omega
theorem psh_cost {P : Nat} {fr to c rm : Nat → Nat} {a b : Nat} (ha : a < 2 * P) (hb : b ≤ rm a) : isum P (fun i => (c i : Int) * xo (psh rm a b) i) = isum P (fun i => (c i : Int) * xo rm i) + (b : Int) * dC c a := by
  obtain ⟨i, δ, h0, h1, h2, h3⟩ := psh_x (fr := fr) (to := to) (c := c) hb
  have hi : i < P := by omega
  refine isum_at (c := i) P hi (fun k _ hk => ?_) ?_
  · show (c k : Int) * xo (psh rm a b) k = (c k : Int) * xo rm k
    rw [h1 k hk]
  · show (c i : Int) * xo (psh rm a b) i = (c i : Int) * xo rm i + (b : Int) * dC c a
    rw [h2, Int.mul_add]
    rcases h3 with ⟨q1, -, -, q2⟩ | ⟨q1, -, -, q2⟩
    · rw [q1, q2, Int.mul_comm (c i : Int) (b : Int)]
    · rw [q1, q2, Int.mul_neg, Int.mul_neg, Int.mul_comm (c i : Int) (b : Int)]
/-- on the way: b boxes have come from k0 to v, and n arcs are ahead -/
def WK (N P : Nat) (fr to c u : Nat → Nat) (b : Nat) (g : Nat → Int) (wy : Nat → Option Nat) (k0 : Nat) (rm0 : Nat → Nat) (n v : Nat) (rm : Nat → Nat) : Prop :=
  (∀ i, i < P → rm (2 * i) + rm (2 * i + 1) = u i) ∧
  (∀ j, net P fr to (xo rm) j = net P fr to (xo rm0) j + (if v = j then (b : Int) else 0) - (if k0 = j then (b : Int) else 0)) ∧
  isum P (fun i => (c i : Int) * xo rm i) = isum P (fun i => (c i : Int) * xo rm0 i) + (b : Int) * (g v - g k0) ∧
  (∀ m x a, m ≤ n → x < N → chn (dS to fr) wy m x → wy x = some a → rm a = rm0 a) ∧
  ∀ a, a < 2 * P → 0 < rm a → g (dS to fr a) - dC c a ≤ g (dS fr to a)
theorem WK_start {N P : Nat} {fr to c u : Nat → Nat} {b : Nat} {g : Nat → Int} {wy : Nat → Option Nat} {k0 : Nat} {rm0 : Nat → Nat} {n : Nat} (h1 : ∀ i, i < P → rm0 (2 * i) + rm0 (2 * i + 1) = u i) (h2 : ∀ a, a < 2 * P → 0 < rm0 a → g (dS to fr a) - dC c a ≤ g (dS fr to a)) : WK N P fr to c u b g wy k0 rm0 n k0 rm0 := by
  refine ⟨h1, fun j => by omega, ?_, fun _ _ _ _ _ _ _ => rfl, h2⟩
  rw [Int.sub_self, Int.mul_zero, Int.add_zero]
theorem WK_step {N P : Nat} {fr to c u : Nat → Nat} {b : Nat} {g : Nat → Int} {wy : Nat → Option Nat} {k0 : Nat} {rm0 rm : Nat → Nat} {n v a : Nat} (hw : ∀ x a, x < N → wy x = some a → a < 2 * P ∧ dS fr to a = x) (h : WK N P fr to c u b g wy k0 rm0 (n + 1) v rm) (hv : v < N) (hc : chn (dS to fr) wy (n + 1) v) (ha : wy v = some a) (hb : b ≤ rm0 a) (ht : g v = g (dS to fr a) - dC c a) : b ≤ rm a ∧ WK N P fr to c u b g wy k0 rm0 n (dS to fr a) (psh rm a b) := by
  obtain ⟨h1, h2, h3, h4, h5⟩ := h
  obtain ⟨a1, a2⟩ := hw v a hv ha
  have ra : rm a = rm0 a := h4 (n + 1) v a (Nat.le_refl _) hv hc ha
  have hb' : b ≤ rm a := by omega
  refine ⟨hb', fun i hi => ?_, fun j => ?_, ?_, fun m x a' hm hx hch hwx => ?_, fun a' ha' hp => ?_⟩
  · have q := h1 i hi
    obtain ⟨i', rfl | rfl⟩ := two_of a
    · have m1 := psh_m rm (2 * i') b
      have m2 := psh_a rm (2 * i') b
      rw [mate_even] at m1
      by_cases e : i = i'
      · rw [e, m1, m2]
        rw [e] at q
        omega
      · rw [psh_o rm (by omega) (by rw [mate_even]; omega), psh_o rm (by omega) (by rw [mate_even]; omega)]
        exact q
    · have m1 := psh_m rm (2 * i' + 1) b
      have m2 := psh_a rm (2 * i' + 1) b
      rw [mate_odd] at m1
      by_cases e : i = i'
      · rw [e, m1, m2]
        rw [e] at q
        omega
      · rw [psh_o rm (by omega) (by rw [mate_odd]; omega), psh_o rm (by omega) (by rw [mate_odd]; omega)]
        exact q
  · rw [psh_net a1 hb', h2 j, a2]
    omega
  · rw [psh_cost (fr := fr) (to := to) a1 hb', h3, ht, Int.add_assoc, ← Int.mul_add]
    congr 2
    omega
  · have n1 : a' ≠ a := by
      intro e
      obtain ⟨-, b2⟩ := hw x a' hx hwx
      rw [e, a2] at b2
      rw [← b2] at hch
      have := chn_one _ _ _ hch hc
      omega
    have n2 : a' ≠ mate a := by
      intro e
      cases m with
      | zero =>
        have z : wy x = none := hch
        rw [z] at hwx
        exact absurd hwx (by simp)
      | succ m =>
        obtain ⟨a'', z1, z2⟩ := hch
        rw [hwx] at z1
        obtain rfl := Option.some.inj z1
        rw [e, dS_mate, a2] at z2
        have := chn_one _ _ _ z2 hc
        omega
    rw [psh_o rm n1 n2]
    exact h4 m x a' (by omega) hx hch hwx
  · by_cases n1 : a' = a
    · rw [n1] at hp ⊢
      rw [psh_a] at hp
      exact h5 a a1 (by omega)
    · by_cases n2 : a' = mate a
      · rw [n2, dS_mate, dS_mate, dC_mate, a2]
        omega
      · rw [psh_o rm n1 n2] at hp
        exact h5 a' ha' hp
/-- b boxes can go from v through n arcs to an end that Q allows -/
def Thr (N P : Nat) (fr to c : Nat → Nat) (b : Nat) (g : Nat → Int) (wy : Nat → Option Nat) (rm0 : Nat → Nat) (Q : Nat → Prop) : Nat → Nat → Prop
  | 0, v => wy v = none ∧ Q v
  | n + 1, v => ∃ a, wy v = some a ∧ b ≤ rm0 a ∧ g v = g (dS to fr a) - dC c a ∧ dS to fr a < N ∧ Thr N P fr to c b g wy rm0 Q n (dS to fr a)
theorem Thr_chn {N P : Nat} {fr to c : Nat → Nat} {b : Nat} {g : Nat → Int} {wy : Nat → Option Nat} {rm0 : Nat → Nat} {Q : Nat → Prop} : ∀ n v, Thr N P fr to c b g wy rm0 Q n v → chn (dS to fr) wy n v := by
  intro n
  induction n with
  | zero => intro v h; exact h.1
  | succ n ih =>
    intro v h
    obtain ⟨a, h1, -, -, -, h2⟩ := h
    exact ⟨a, h1, ih _ h2⟩
