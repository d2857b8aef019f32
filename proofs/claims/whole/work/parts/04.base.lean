/-! THE BASE: worlds in one bundle, contracts by equations, and the rows of getfield, putfield, arrays, calls over them -/
abbrev Gt : Type := va_G × ClassId × (Nat → Nat) × (Nat → Nat)
/-- the nest mates' calls -/
def nwL : List (String × Nat × MethodName × String) := [("EmptyBoxes", 21, ⟨"EmptyBoxes$Tape", "<init>", "()V"⟩, "EmptyBoxes"), ("EmptyBoxes", 28, ⟨"EmptyBoxes$LeaseText", "<init>", "()V"⟩, "EmptyBoxes"), ("EmptyBoxes", 35, ⟨"EmptyBoxes$Plan", "<init>", "()V"⟩, "EmptyBoxes"), ("EmptyBoxes", 42, ⟨"EmptyBoxes$Matching", "<init>", "()V"⟩, "EmptyBoxes"), ("EmptyBoxes$Plan", 97, ⟨"EmptyBoxes", "knotOf", "(II)I"⟩, "EmptyBoxes"), ("EmptyBoxes$Plan", 40, ⟨"EmptyBoxes", "isWithin", "(III)Z"⟩, "EmptyBoxes"), ("EmptyBoxes$Matching", 37, ⟨"EmptyBoxes", "isWithin", "(III)Z"⟩, "EmptyBoxes"), ("EmptyBoxes$LeaseText", 46, ⟨"EmptyBoxes", "isPlace", "(I)Z"⟩, "EmptyBoxes")]
/-- the texts -/
def sTx : List (Nat × String) := [(56, "free"), (58, "day"), (60, "worn"), (62, "lost"), (64, "drop"), (66, "room"), (50, ";")]
def sLen : List Nat := [4, 3, 4, 4, 4, 4, 1]
def sByt : List (List Int32) := [[102, 114, 101, 101], [100, 97, 121], [119, 111, 114, 110], [108, 111, 115, 116], [100, 114, 111, 112], [114, 111, 111, 109], [59]]
/-- what stands beside the world and never changes: nest links, texts, statics -/
def ZS (G : Gt) (A : Nat → Prop) (U : State) : Prop :=
  (∀ q ∈ nwL, va_Nw (.methodLinkNest q.1 q.2.1 q.2.2.1 q.2.2.2) U) ∧ (∀ (i : Nat) (q : Nat × String), sTx[i]? = some q → vk_R "EmptyBoxes$LeaseText" q.1 q.2 (G.2.2.1 i) U) ∧ vk_S 7 sLen sByt G.2.2.1 G.2.2.2 A U U.heap ∧ va_Z "java/lang/String" "COMPACT_STRINGS" "Z" (.int 1) A U U.heap ∧ va_Zq "jdk/internal/util/Preconditions" "SIOOBE_FORMATTER" "Ljava/util/function/BiFunction;" A U U.heap
theorem ZS.call {G : Gt} {A B : Nat → Prop} {s U : State} {H : Heap} {locs : List Loc} (hZ : ZS G A s) (hW : s.WarmedH U.vm) (hS : va_S A s.heap H locs) (hU : U.heap = H) (hAB : ∀ q, B q → A q) : ZS G B U := by
  obtain ⟨h1, h2, h3, h4, h5⟩ := hZ
  have hk : ∀ a : Nat, a < s.heap.size → ¬ A a → U.heap[a]? = s.heap[a]? := fun a ha hn => by rw [hU]; exact hS.2.1 a ha hn
  exact ⟨fun q hq => va_Nw.warmM hW (h1 q hq), fun i q hq => vk_R.warm hW (h2 i q hq), ((h3.moved hW.alike).kept hk).narrow hAB, ((h4.moved hW.alike).kept hk).narrow hAB, ((h5.moved hW.alike).kept hk).narrow hAB⟩
theorem ZS.blind {G : Gt} {A : Nat → Prop} {U : State} {g : JFrame} {mk : MethodId} {a : Array Value} (hZ : ZS G A U) : ZS G A (U.calling g mk a) := by
  obtain ⟨h1, h2, h3, h4, h5⟩ := hZ
  exact ⟨fun q hq => va_Nw.same rfl (rfl : U.vm = (U.calling g mk a).vm) (h1 q hq), fun i q hq => vk_R.same (rfl : (U.calling g mk a).vm = U.vm) (h2 i q hq), vk_S.moved (u := U) (U := U.calling g mk a) (Vm.Alike.refl U.vm) h3, va_Z.moved (u := U) (U := U.calling g mk a) (Vm.Alike.refl U.vm) h4, va_Zq.moved (u := U) (U := U.calling g mk a) (Vm.Alike.refl U.vm) h5⟩
/-- a method's start: its world w0 in a heap of size sz -/
def Pre0 (G : Gt) (w0 : va_W) (sz : Nat) (U : State) : Prop := U.heap.size = sz ∧ va_P G.1 vwCl w0 U.heap ∧ va_K G.1 vwCl [(G.2.1, .int)] U ∧ va_D (fun _ => True) w0 ∧ ZS G (va_A w0 sz) U
theorem Pre0.blind {G : Gt} {w0 : va_W} {sz : Nat} {av : List Value} : FrameBlind (va_Pc av (Pre0 G w0 sz)) := by
  intro a U g mk q
  obtain ⟨q0, q1, qP, qK, qD, qZ⟩ := q
  exact ⟨q0, q1, qP, va_K.moved (u := U) (U := U.calling g mk a) (Vm.Alike.refl U.vm) qK, qD, qZ.blind⟩
/-- contracts: the answer is r, the world w0 becomes w1 (the same addresses), nothing is made -/
def CtI (G : Gt) (l : Launch) (y : MethodName) (wsy : List Cond) (rm : Room) (av : List Value) (w0 : va_W) (r : Int32) (w1 : va_W) : Prop :=
  ∀ sz : Nat, Met l y wsy rm (va_Pc av (Pre0 G w0 sz)) (va_Qi (fun (r' : Int32) (_ : Unit) => r' = r) (fun _ t => va_P G.1 vwCl w1 t.heap) (va_A w0 sz)) 0 0 (va_A w0 sz)
def CtV (G : Gt) (l : Launch) (y : MethodName) (wsy : List Cond) (rm : Room) (av : List Value) (w0 : va_W) (w1 : va_W) : Prop :=
  ∀ sz : Nat, Met l y wsy rm (va_Pc av (Pre0 G w0 sz)) (va_Qv (fun (_ : Unit) => True) (fun _ t => va_P G.1 vwCl w1 t.heap) (va_A w0 sz)) 0 0 (va_A w0 sz)
/-- the world inside a method's body -/
def Wo (G : Gt) (A : Nat → Prop) (s : State) (ws : va_W) (H : Heap) (locs : List Loc) : Prop :=
  va_K G.1 vwCl [(G.2.1, .int)] s ∧ va_P G.1 vwCl ws H ∧ va_D A ws ∧ va_S A s.heap H locs ∧ (∀ q, s.heap.size ≤ q → A q) ∧ ZS G A s
/-- a body's frame of facts -/
def Bx (p : Program) (s : State) (m : MethodId) (args : Array Value) (meth : Method) (c : Code) (cc : ByteArray) (nL : Nat) (Ts : List Cond) (own : String) (ret : Option FieldType) : Prop :=
  CallFix p m c cc nL s args Ts own ∧ meth.sig.returnType = ret ∧ meth.locks = false
abbrev QI (G : Gt) (A : Nat → Prop) (below : List Frame) (args : Array Value) (s : State) (r : Int32) (w1 : va_W) : State → Prop :=
  MQ below (va_Qi (fun (r' : Int32) (_ : Unit) => r' = r) (fun _ t => va_P G.1 vwCl w1 t.heap) A) args s 0 0 A
abbrev QV (G : Gt) (A : Nat → Prop) (below : List Frame) (args : Array Value) (s : State) (w1 : va_W) : State → Prop :=
  MQ below (va_Qv (fun (_ : Unit) => True) (fun _ t => va_P G.1 vwCl w1 t.heap) A) args s 0 0 A
theorem CtI.mk {G : Gt} {l : Launch} {y : MethodName} {wsy ws' : List Cond} {rm : Room} {cc : ByteArray} {maxL : Nat} {ret : Option FieldType} {av : List Value} {w0 w1 : va_W} {r : Int32} {own : String} (hy : plainName y.cls = true) (hw : wsy = Cond.code y cc maxL ret :: ws') (ho : y.cls = own) (hlen : (lg_sl av).length ≤ maxL)
    (body : ∀ (p : Program) (e : Env) (s : State) (m : MethodId) (below : List Frame) (meth : Method) (c : Code) (A : Nat → Prop), Bx p s m av.toArray meth c cc maxL wsy own ret → ∀ ls : Array Slot, lv_has ls maxL (lv_args 0 av) → Wo G A s w0 s.heap [] → W p l e rm s m av.toArray below meth c s.heap [] 0 0 (QI G A below av.toArray s r w1) (F0 m 0 ls [])) : CtI G l y wsy rm av w0 r w1 := by
  intro sz
  refine Met.ofW (cc := cc) (maxL := maxL) (ret := ret) hy hw ?_
  intro p e s m args below meth c s₁ B hml hv
  obtain ⟨rfl, hsz, hP, hK, hD0, hZ⟩ := hv
  subst hsz
  have hts := atoms_spec (ws := wsy) B.pre
  have hown : s.vm.findClass own = some m.cls := by rw [← ho]; exact findClass_of_methodNamed B.named
  have hl := lv_entry av (n := maxL) hlen
  rw [lg_entry_eq]
  exact body p e s m below meth c _ ⟨⟨B.exec, B.bytes, hml, hown, hts⟩, B.returns, B.notSynchronized⟩ _ hl ⟨hK, hP, hD0.self, va_S.rf, fun q h => Or.inr h, hZ⟩
theorem CtV.mk {G : Gt} {l : Launch} {y : MethodName} {wsy ws' : List Cond} {rm : Room} {cc : ByteArray} {maxL : Nat} {ret : Option FieldType} {av : List Value} {w0 w1 : va_W} {own : String} (hy : plainName y.cls = true) (hw : wsy = Cond.code y cc maxL ret :: ws') (ho : y.cls = own) (hlen : (lg_sl av).length ≤ maxL)
    (body : ∀ (p : Program) (e : Env) (s : State) (m : MethodId) (below : List Frame) (meth : Method) (c : Code) (A : Nat → Prop), Bx p s m av.toArray meth c cc maxL wsy own ret → ∀ ls : Array Slot, lv_has ls maxL (lv_args 0 av) → Wo G A s w0 s.heap [] → W p l e rm s m av.toArray below meth c s.heap [] 0 0 (QV G A below av.toArray s w1) (F0 m 0 ls [])) : CtV G l y wsy rm av w0 w1 := by
  intro sz
  refine Met.ofW (cc := cc) (maxL := maxL) (ret := ret) hy hw ?_
  intro p e s m args below meth c s₁ B hml hv
  obtain ⟨rfl, hsz, hP, hK, hD0, hZ⟩ := hv
  subst hsz
  have hts := atoms_spec (ws := wsy) B.pre
  have hown : s.vm.findClass own = some m.cls := by rw [← ho]; exact findClass_of_methodNamed B.named
  have hl := lv_entry av (n := maxL) hlen
  rw [lg_entry_eq]
  exact body p e s m below meth c _ ⟨⟨B.exec, B.bytes, hml, hown, hts⟩, B.returns, B.notSynchronized⟩ _ hl ⟨hK, hP, hD0.self, va_S.rf, fun q h => Or.inr h, hZ⟩
/-- a field of class ci, slot k, linked at the pool's place index -/
def Fk (Ts : List Cond) (own : String) (index ci k : Nat) : Prop := ∃ (C : String) (T : u_T) (N : Nat), vwCl[ci]? = some (C, T, N) ∧ (∀ w ∈ u_ws C T N, w ∈ Ts) ∧ k < N ∧ Cond.fieldLink own index (T k).1 (T k).2.1 (T k).2.2.1 ∈ Ts
/-- the same, of type ty, and it may be written -/
def Fp (Ts : List Cond) (own : String) (index ci k : Nat) (ty : FieldType) : Prop := ∃ (C : String) (T : u_T) (N : Nat) (ty0 : Nat → FieldType), vwCl[ci]? = some (C, T, N) ∧ (∀ w ∈ u_ws C T N, w ∈ Ts) ∧ k < N ∧ Cond.fieldLink own index (T k).1 (T k).2.1 (T k).2.2.1 ∈ Ts ∧ (∀ k, k < N → parseFieldDescriptor (T k).2.2.1 = some (ty0 k)) ∧ (∀ a, a < N → ∀ b, b < N → a ≠ b → (T a).2.1 ≠ (T b).2.1) ∧ (T k).2.2.2 = false ∧ parseFieldDescriptor (T k).2.2.1 = some ty
/-- an index in its row -/
def ix (i : Int32) (n : Nat) : Bool := decide (¬ (i < 0 ∨ n ≤ i.toNatClampNeg))
theorem ix_in {i : Int32} {n : Nat} (h : ix i n = true) : vp_in i n := by
  have h1 : ¬ (i < 0 ∨ n ≤ i.toNatClampNeg) := of_decide_eq_true h
  exact h1
/-- a guard -/
def gd {α : Type} (b : Bool) (x : Option α) : Option α := match b with
  | true => x
  | false => none
theorem gd_some {α : Type} {b : Bool} {x : Option α} {r : α} (h : gd b x = some r) : b = true ∧ x = some r := by
  cases b with
  | true => exact ⟨rfl, h⟩
  | false => cases h
/-- a number that a boolean may be -/
def zb (v : Int32) : Bool := decide (v = 0 ∨ v = 1)
theorem zb_n {v : Int32} (h : zb v = true) : narrow .boolean (.int v) = .int v := by
  have h1 : v = 0 ∨ v = 1 := of_decide_eq_true h
  rcases h1 with rfl | rfl <;> rfl
theorem zb_f {v : Int32} (h : zb v = true) : fits .boolean (.int v) = true := by
  have h1 : v = 0 ∨ v = 1 := of_decide_eq_true h
  rcases h1 with rfl | rfl <;> rfl
/-- replaced cells, by their places -/
def rpl (ws : va_W) : List Nat → va_W → va_W
  | i :: is, q :: w1 => rpl (ws.set i q) is w1
  | _, _ => ws
theorem rpl_get : ∀ (is : List Nat) (w1 ws : va_W) (k : Nat) (q : Nat × va_E), (rpl ws is w1)[k]? = some q → (∃ j : Nat, is[j]? = some k ∧ w1[j]? = some q) ∨ (ws[k]? = some q ∧ ∀ j : Nat, is[j]? = some k → w1[j]? = none)
  | [], w1, ws, k, q, h => by
    refine Or.inr ⟨?_, fun j hj => by simp at hj⟩
    cases w1 <;> exact h
  | i :: is, [], ws, k, q, h => Or.inr ⟨h, fun j _ => by simp⟩
  | i :: is, q0 :: w1, ws, k, q, h => by
    rcases rpl_get is w1 (ws.set i q0) k q h with ⟨j, h1, h2⟩ | ⟨h1, h2⟩
    · exact Or.inl ⟨j + 1, by rw [List.getElem?_cons_succ]; exact h1, by rw [List.getElem?_cons_succ]; exact h2⟩
    · by_cases hk : i = k
      · subst hk
        have hl : i < (ws.set i q0).length := (List.getElem?_eq_some_iff.mp h1).1
        rw [List.length_set] at hl
        rw [List.getElem?_set_self hl] at h1
        exact Or.inl ⟨0, rfl, h1⟩
      · rw [List.getElem?_set_ne hk] at h1
        refine Or.inr ⟨h1, fun j hj => ?_⟩
        cases j with
        | zero => exact absurd (Option.some.inj hj) hk
        | succ j => rw [List.getElem?_cons_succ] at hj ⊢; exact h2 j hj
theorem map_at {is : List Nat} {ws w0 : va_W} (hC : is.map (fun i => ws[i]?) = w0.map some) (k : Nat) (q : Nat × va_E) (hq : w0[k]? = some q) : ∃ i, is[k]? = some i ∧ ws[i]? = some q := by
  have h1 : (is.map (fun i => ws[i]?))[k]? = some (some q) := by rw [hC, List.getElem?_map, hq]; rfl
  rw [List.getElem?_map] at h1
  cases hi : is[k]? with
  | none => rw [hi] at h1; cases h1
  | some i => rw [hi] at h1; exact ⟨i, rfl, Option.some.inj h1⟩
theorem map_at' {is : List Nat} {ws w0 : va_W} (hC : is.map (fun i => ws[i]?) = w0.map some) (j i : Nat) (hi : is[j]? = some i) : ∃ q, w0[j]? = some q ∧ ws[i]? = some q := by
  have h1 : (is.map (fun i => ws[i]?))[j]? = some (ws[i]?) := by rw [List.getElem?_map, hi]; rfl
  rw [hC, List.getElem?_map] at h1
  cases hq : w0[j]? with
  | none => rw [hq] at h1; cases h1
  | some q => rw [hq] at h1; exact ⟨q, rfl, (Option.some.inj h1).symm⟩
theorem adr_at {w0 w1 : va_W} (ha : w1.map (fun q => q.1) = w0.map (fun q => q.1)) (j : Nat) : (∀ q, w1[j]? = some q → ∃ q', w0[j]? = some q' ∧ q'.1 = q.1) ∧ (w1[j]? = none → w0[j]? = none) := by
  have h1 : (w1.map (fun q => q.1))[j]? = (w0.map (fun q => q.1))[j]? := by rw [ha]
  rw [List.getElem?_map, List.getElem?_map] at h1
  constructor
  · intro q hq
    rw [hq] at h1
    cases hq' : w0[j]? with
    | none => rw [hq'] at h1; cases h1
    | some q' => rw [hq'] at h1; exact ⟨q', rfl, (Option.some.inj h1).symm⟩
  · intro hq
    rw [hq] at h1
    cases hq' : w0[j]? with
    | none => rfl
    | some q' => rw [hq'] at h1; cases h1
/-- behind a call: the callee's cells are replaced, the rest stands -/
theorem Wo.back {G : Gt} {A : Nat → Prop} {s : State} {ws w0 w1 : va_W} {H H1 : Heap} {locs locs1 : List Loc} {is : List Nat} (hW : Wo G A s ws H locs) (hC : is.map (fun i => ws[i]?) = w0.map some) (ha : w1.map (fun q => q.1) = w0.map (fun q => q.1)) (hk : ∀ q : Nat, q < H.size → ¬ va_A w0 H.size q → H1[q]? = H[q]?) (hP1 : va_P G.1 vwCl w1 H1) (hS1 : va_S A s.heap H1 locs1) : Wo G A s (rpl ws is w1) H1 locs1 := by
  obtain ⟨hK, hP, hD, hS, hA, hZ⟩ := hW
  have key : ∀ (k : Nat) (q : Nat × va_E), (rpl ws is w1)[k]? = some q → ∃ q0, ws[k]? = some q0 ∧ q0.1 = q.1 := by
    intro k q h
    rcases rpl_get is w1 ws k q h with ⟨j, h1, h2⟩ | ⟨h1, -⟩
    · obtain ⟨q', h3, h4⟩ := (adr_at ha j).1 q h2
      obtain ⟨q'', h5, h6⟩ := map_at' hC j k h1
      rw [h3] at h5
      cases h5
      exact ⟨q', h6, h4⟩
    · exact ⟨q, h1, rfl⟩
  refine ⟨hK, ?_, ⟨?_, ?_⟩, hS1, hA, hZ⟩
  · intro k q h
    rcases rpl_get is w1 ws k q h with ⟨j, h1, h2⟩ | ⟨h1, h2⟩
    · exact hP1 j q h2
    · have hl := (hP k q h1).lt
      refine (hP k q h1).kept (hk q.1 hl ?_)
      rintro (⟨j, e, hj⟩ | hj)
      · obtain ⟨i, h3, h4⟩ := map_at hC j (q.1, e) hj
        have hik := hD.1 k i q (q.1, e) h1 h4 rfl
        subst hik
        have := (adr_at ha j).2 (h2 j h3)
        rw [this] at hj
        cases hj
      · exact Nat.lt_irrefl _ (Nat.lt_of_lt_of_le hl hj)
  · intro i j x z hi hj hxz
    obtain ⟨x0, h1, h2⟩ := key i x hi
    obtain ⟨z0, h3, h4⟩ := key j z hj
    exact hD.1 i j x0 z0 h1 h3 (h2.trans (hxz.trans h4.symm))
  · intro k q h
    obtain ⟨q0, h1, h2⟩ := key k q h
    rw [← h2]
    exact hD.2 k q0 h1
section GROWS
variable {p : Program} {l : Launch} {e : Env} {R : Room} {s : State} {m : MethodId} {args : Array Value} {below : List Frame} {meth : Method} {c : Code} {H : Heap} {locs : List Loc} {cells slots : Nat} {Q : State → Prop} {cc : ByteArray} {nL : Nat} {Ts : List Cond} {own : String} {ret : Option FieldType} {G : Gt} {A : Nat → Prop} {ws : va_W} {ls : Array Slot} {pc : Nat} {rest : List Value} {a : Nat}
theorem g_get (X : Bx p s m args meth c cc nL Ts own ret) (hW : Wo G A s ws H locs) {index ci k : Nat} {fs : List Value} {v : Value} (F : Fk Ts own index ci k) (q0 : Nat) (he : ws[q0]? = some (a, .inr (ci, fs))) (hv : fs[k]? = some v) (hdg : decode cc pc = .ok (.getfield index, 3))
    (kk : W p l e R s m args below meth c H locs cells slots Q (F0 m (pc + 3) ls (v :: rest))) : W p l e R s m args below meth c H locs cells slots Q (F0 m pc ls (.ref a :: rest)) := by
  obtain ⟨C, T, N, h1, h2, h3, h4⟩ := F
  obtain ⟨⟨hx, hb, hml, hown, hts⟩, -, -⟩ := X
  exact va_get hx hb hts h2 hown hW.1 hW.2.1 q0 he h1 k h3 (hts _ h4) (fun _ h => h) hv hdg kk
theorem g_put (X : Bx p s m args meth c cc nL Ts own ret) (hW : Wo G A s ws H locs) {index ci k : Nat} {fs : List Value} {v : Value} {ty : FieldType} {ws' : va_W} (F : Fp Ts own index ci k ty) (q0 : Nat) (he : ws[q0]? = some (a, .inr (ci, fs))) (hl : k < fs.length) (hn : narrow ty v = v) (hfit : fits ty v = true) (hws : ws.set q0 (a, .inr (ci, fs.set k v)) = ws') (hdg : decode cc pc = .ok (.putfield index, 3))
    (kk : ∀ (H1 : Heap) (locs1 : List Loc), Wo G A s ws' H1 locs1 → W p l e R s m args below meth c H1 locs1 cells slots Q (F0 m (pc + 3) ls rest)) : W p l e R s m args below meth c H locs cells slots Q (F0 m pc ls (v :: .ref a :: rest)) := by
  obtain ⟨C, T, N, ty0, h1, h2, h3, h4, h5, h6, h7, h8⟩ := F
  obtain ⟨⟨hx, hb, hml, hown, hts⟩, -, -⟩ := X
  obtain ⟨hK, hP, hD, hS, hA, hZ⟩ := hW
  subst hws
  exact va_put hx hb hts h2 ty0 h5 h6 hown hK hP hD hS q0 he h1 k h3 (hts _ h4) (fun _ h => h) h7 h8 hn hfit hl hdg (fun H1 locs1 a1 a2 a3 => kk H1 locs1 ⟨hK, a1, a2, a3, hA, hZ⟩)
theorem g_ald (X : Bx p s m args meth c cc nL Ts own ret) (hW : Wo G A s ws H locs) (q0 : Nat) {n : Nat} {f : Nat → Int32} {i : Int32} (ha : ws[q0]? = some (a, .inl (G.2.1, n, .inl f))) (hin : ix i n = true) (hdg : decode cc pc = .ok (.iaload, 1))
    (kk : W p l e R s m args below meth c H locs cells slots Q (F0 m (pc + 1) ls (.int (f i.toNatClampNeg) :: rest))) : W p l e R s m args below meth c H locs cells slots Q (F0 m pc ls (.int i :: .ref a :: rest)) :=
  va_iald X.1.1 X.1.2.1 hW.1 hW.2.1 q0 0 ha rfl (ix_in hin) hdg kk
theorem g_ast (X : Bx p s m args meth c cc nL Ts own ret) (hW : Wo G A s ws H locs) (q0 : Nat) {n : Nat} {f : Nat → Int32} {i x : Int32} {ws' : va_W} (ha : ws[q0]? = some (a, .inl (G.2.1, n, .inl f))) (hin : ix i n = true) (hws : ws.set q0 (a, .inl (G.2.1, n, .inl (upd f i.toNatClampNeg x))) = ws') (hdg : decode cc pc = .ok (.iastore, 1))
    (kk : ∀ (H1 : Heap) (locs1 : List Loc), Wo G A s ws' H1 locs1 → W p l e R s m args below meth c H1 locs1 cells slots Q (F0 m (pc + 1) ls rest)) : W p l e R s m args below meth c H locs cells slots Q (F0 m pc ls (.int x :: .int i :: .ref a :: rest)) := by
  obtain ⟨hK, hP, hD, hS, hA, hZ⟩ := hW
  subst hws
  exact va_iast X.1.1 X.1.2.1 hK hP hD hS q0 0 ha rfl (ix_in hin) hdg (fun H1 locs1 a1 a2 a3 => kk H1 locs1 ⟨hK, a1, a2, a3, hA, hZ⟩)
theorem g_alen (X : Bx p s m args meth c cc nL Ts own ret) (hW : Wo G A s ws H locs) (q0 : Nat) {n : Nat} {f : Nat → Int32} (ha : ws[q0]? = some (a, .inl (G.2.1, n, .inl f))) (hdg : decode cc pc = .ok (.arraylength, 1))
    (kk : W p l e R s m args below meth c H locs cells slots Q (F0 m (pc + 1) ls (.int (nI n) :: rest))) : W p l e R s m args below meth c H locs cells slots Q (F0 m pc ls (.ref a :: rest)) :=
  va_alen X.1.1 X.1.2.1 hW.1 hW.2.1 q0 0 ha rfl (v := nI n) rfl hdg kk
theorem g_iret (X : Bx p s m args meth c cc nL Ts own (some .int)) (hW : Wo G A s ws H locs) {r : Int32} (hdg : decode cc pc = .ok (.ireturn, 1)) : W p l e R s m args below meth c H locs 0 0 (QI G A below args s r ws) (F0 m pc ls [.int r]) := by
  obtain ⟨⟨hx, hb, hml, hown, hts⟩, hr, hlocks⟩ := X
  obtain ⟨hK, hP, hD, hS, hA, hZ⟩ := hW
  exact W.iret (v := r) hx hb hr (fun t ht hW => ⟨⟨r, (), rfl, rfl, by show va_P G.1 vwCl ws t.heap; rw [ht]; exact hP⟩, hS.F ht⟩) hS.2.2 hdg hlocks
theorem g_zret (X : Bx p s m args meth c cc nL Ts own (some .boolean)) (hW : Wo G A s ws H locs) {r : Int32} (hz : zb r = true) (hdg : decode cc pc = .ok (.ireturn, 1)) : W p l e R s m args below meth c H locs 0 0 (QI G A below args s r ws) (F0 m pc ls [.int r]) := by
  obtain ⟨⟨hx, hb, hml, hown, hts⟩, hr, hlocks⟩ := X
  obtain ⟨hK, hP, hD, hS, hA, hZ⟩ := hW
  exact W.zret (v := r) hx hb hr (zb_n hz) (fun t ht hW => ⟨⟨r, (), rfl, rfl, by show va_P G.1 vwCl ws t.heap; rw [ht]; exact hP⟩, hS.F ht⟩) hS.2.2 hdg hlocks
theorem g_vret (X : Bx p s m args meth c cc nL Ts own none) (hW : Wo G A s ws H locs) (hdg : decode cc pc = .ok (.return_, 1)) : W p l e R s m args below meth c H locs 0 0 (QV G A below args s ws) (F0 m pc ls []) := by
  obtain ⟨⟨hx, hb, hml, hown, hts⟩, hr, hlocks⟩ := X
  obtain ⟨hK, hP, hD, hS, hA, hZ⟩ := hW
  exact W.vret hx hb hr (fun t ht hW => ⟨⟨(), rfl, trivial, by show va_P G.1 vwCl ws t.heap; rw [ht]; exact hP⟩, hS.F ht⟩) hS.2.2 hdg hlocks
/-- what a call of y by name needs of the tables: an instance method of class ci, a static one, a nest mate's static one -/
def CkV (Ts : List Cond) (own : String) (index : Nat) (y : MethodName) (wsy : List Cond) (bytes : ByteArray) (maxL : Nat) (ret : Option FieldType) (n ci : Nat) : Prop := ∃ (C : String) (T : u_T) (N : Nat) (ws' : List Cond), vwCl[ci]? = some (C, T, N) ∧ GoodIn Ts (wsV own index C y wsy) ∧ wsy = Cond.code y bytes maxL ret :: ws' ∧ y.cls = C ∧ y.cls ≠ "java/lang/invoke/MethodHandle" ∧ y.cls ≠ "java/lang/invoke/VarHandle" ∧ (parseMethodDescriptor y.desc).map (fun d => d.parameters.length) = some n
def CkS (Ts : List Cond) (own : String) (index : Nat) (y : MethodName) (wsy : List Cond) (bytes : ByteArray) (maxL : Nat) (ret : Option FieldType) (n : Nat) : Prop := ∃ (ws' : List Cond), GoodIn Ts (va_wsS own index y wsy) ∧ wsy = Cond.code y bytes maxL ret :: ws' ∧ y.cls ≠ "java/lang/invoke/MethodHandle" ∧ y.cls ≠ "java/lang/invoke/VarHandle" ∧ (parseMethodDescriptor y.desc).map (fun d => d.parameters.length) = some n
def CkN (Ts : List Cond) (own : String) (index : Nat) (y : MethodName) (wsy : List Cond) (bytes : ByteArray) (maxL : Nat) (ret : Option FieldType) (n : Nat) : Prop := ∃ (host : String) (ws' : List Cond), (own, index, y, host) ∈ nwL ∧ Cond.static y ∈ Ts ∧ Cond.initialized y.cls ∈ Ts ∧ GoodIn Ts wsy ∧ wsy = Cond.code y bytes maxL ret :: ws' ∧ y.cls ≠ "java/lang/invoke/MethodHandle" ∧ y.cls ≠ "java/lang/invoke/VarHandle" ∧ (parseMethodDescriptor y.desc).map (fun d => d.parameters.length) = some n
/-- the callee's room in the caller's -/
def Rok (R rm : Room) (maxL : Nat) : Prop := rm.cells = 0 ∧ rm.slots = 0 ∧ rm.frames + 1 ≤ R.frames ∧ 8 + (maxL + 11) + rm.locals ≤ R.locals
theorem Wo.pre {w0 : va_W} {is : List Nat} (hW : Wo G A s ws H locs) (hn : va_nd is = true) (hC : is.map (fun i => ws[i]?) = w0.map some) {U : State} (hU : U.heap = H) (hWm : s.WarmedH U.vm) : Pre0 G w0 H.size U := by
  obtain ⟨hK, hP, hD, hS, hA, hZ⟩ := hW
  refine ⟨by rw [hU], ?_, va_K.moved hWm.alike hK, (hD.sub is hn hC).weaken (fun _ _ _ _ => trivial), hZ.call hWm hS hU (va_free hD hS hA is hC)⟩
  intro k q hq
  obtain ⟨i, -, h2⟩ := map_at hC k q hq
  rw [hU]
  exact hP i q h2
theorem g_cvi (X : Bx p s m args meth c cc nL Ts own ret) (hW : Wo G A s ws H locs) {index maxL n ci : Nat} {y : MethodName} {wsy : List Cond} {bytes : ByteArray} {rt : Option FieldType} {rm : Room} {b : Nat} {As st0 : List Value} {w0 w1 ws' : va_W} {r : Int32} {fs : List Value} (K : CkV Ts own index y wsy bytes maxL rt n ci) (hM : CtI G l y wsy rm (.ref b :: As) w0 r w1) (hR : Rok R rm maxL) (is : List Nat) (hst : st0 = As.reverse ++ .ref b :: rest) (hn : va_nd is = true) (hC : is.map (fun i => ws[i]?) = w0.map some) (hb0 : w0[0]? = some (b, .inr (ci, fs))) (ha : w1.map (fun q => q.1) = w0.map (fun q => q.1)) (hws : rpl ws is w1 = ws') (hAs : As.length = n) (hsz : ls.size = nL) (h8 : (rest.map fun v => v.category).sum ≤ 8) (hcs : cells ≤ R.cells ∧ slots ≤ R.slots) (hdg : decode cc pc = .ok (.invokevirtual index, 3))
    (kk : ∀ (H1 : Heap) (locs1 : List Loc), Wo G A s ws' H1 locs1 → W p l e R s m args below meth c H1 locs1 cells slots Q (F0 m (pc + 3) ls (.int r :: rest))) : W p l e R s m args below meth c H locs cells slots Q (F0 m pc ls st0) := by
  obtain ⟨C, T, N, wr, k1, k2, k3, k4⟩ := K
  obtain ⟨r1, r2, r3, r4⟩ := hR
  have hW0 := hW
  obtain ⟨hK, hP, hD, hS, hA, hZ⟩ := hW
  subst hws
  have hFc := va_free hD hS hA is hC
  obtain ⟨i0, -, hi0⟩ := map_at hC 0 _ hb0
  refine va_calli (va_runV (As := As) (rest := rest) X.1 (hM H.size) (cwV n X.1.2.2.2.2 k2 k3 r1 r2 k4 ⟨r3, r4⟩) ⟨Pre0.blind, va_recv hK hP k1 hi0, fun U hU hWm => ⟨rfl, hW0.pre hn hC hU hWm⟩⟩ rfl hAs hsz hst (lv_room h8) hdg hcs) hS (fun q _ h => hFc q h) hFc (fun r' u t H1 locs1 ht hvm hw hB hz1 hk1 hS1 => ?_)
  subst hw
  rw [ht] at hB
  exact kk H1 locs1 (hW0.back hC ha hk1 hB hS1)
theorem g_cvv (X : Bx p s m args meth c cc nL Ts own ret) (hW : Wo G A s ws H locs) {index maxL n ci : Nat} {y : MethodName} {wsy : List Cond} {bytes : ByteArray} {rt : Option FieldType} {rm : Room} {b : Nat} {As st0 : List Value} {w0 w1 ws' : va_W} {fs : List Value} (K : CkV Ts own index y wsy bytes maxL rt n ci) (hM : CtV G l y wsy rm (.ref b :: As) w0 w1) (hR : Rok R rm maxL) (is : List Nat) (hst : st0 = As.reverse ++ .ref b :: rest) (hn : va_nd is = true) (hC : is.map (fun i => ws[i]?) = w0.map some) (hb0 : w0[0]? = some (b, .inr (ci, fs))) (ha : w1.map (fun q => q.1) = w0.map (fun q => q.1)) (hws : rpl ws is w1 = ws') (hAs : As.length = n) (hsz : ls.size = nL) (h8 : (rest.map fun v => v.category).sum ≤ 8) (hcs : cells ≤ R.cells ∧ slots ≤ R.slots) (hdg : decode cc pc = .ok (.invokevirtual index, 3))
    (kk : ∀ (H1 : Heap) (locs1 : List Loc), Wo G A s ws' H1 locs1 → W p l e R s m args below meth c H1 locs1 cells slots Q (F0 m (pc + 3) ls rest)) : W p l e R s m args below meth c H locs cells slots Q (F0 m pc ls st0) := by
  obtain ⟨C, T, N, wr, k1, k2, k3, k4⟩ := K
  obtain ⟨r1, r2, r3, r4⟩ := hR
  have hW0 := hW
  obtain ⟨hK, hP, hD, hS, hA, hZ⟩ := hW
  subst hws
  have hFc := va_free hD hS hA is hC
  obtain ⟨i0, -, hi0⟩ := map_at hC 0 _ hb0
  refine va_callv (va_runV (As := As) (rest := rest) X.1 (hM H.size) (cwV n X.1.2.2.2.2 k2 k3 r1 r2 k4 ⟨r3, r4⟩) ⟨Pre0.blind, va_recv hK hP k1 hi0, fun U hU hWm => ⟨rfl, hW0.pre hn hC hU hWm⟩⟩ rfl hAs hsz hst (lv_room h8) hdg hcs) hS (fun q _ h => hFc q h) hFc (fun u t H1 locs1 ht hvm hw hB hz1 hk1 hS1 => ?_)
  rw [ht] at hB
  exact kk H1 locs1 (hW0.back hC ha hk1 hB hS1)
theorem g_csi (X : Bx p s m args meth c cc nL Ts own ret) (hW : Wo G A s ws H locs) {index maxL n : Nat} {y : MethodName} {wsy : List Cond} {bytes : ByteArray} {rt : Option FieldType} {rm : Room} {As st0 : List Value} {w0 w1 ws' : va_W} {r : Int32} (K : CkS Ts own index y wsy bytes maxL rt n) (hM : CtI G l y wsy rm As w0 r w1) (hR : Rok R rm maxL) (is : List Nat) (hst : st0 = As.reverse ++ rest) (hn : va_nd is = true) (hC : is.map (fun i => ws[i]?) = w0.map some) (ha : w1.map (fun q => q.1) = w0.map (fun q => q.1)) (hws : rpl ws is w1 = ws') (hAs : As.length = n) (hsz : ls.size = nL) (h8 : (rest.map fun v => v.category).sum ≤ 8) (hcs : cells ≤ R.cells ∧ slots ≤ R.slots) (hdg : decode cc pc = .ok (.invokestatic index, 3))
    (kk : ∀ (H1 : Heap) (locs1 : List Loc), Wo G A s ws' H1 locs1 → W p l e R s m args below meth c H1 locs1 cells slots Q (F0 m (pc + 3) ls (.int r :: rest))) : W p l e R s m args below meth c H locs cells slots Q (F0 m pc ls st0) := by
  obtain ⟨wr, k2, k3, k4⟩ := K
  obtain ⟨r1, r2, r3, r4⟩ := hR
  have hW0 := hW
  obtain ⟨hK, hP, hD, hS, hA, hZ⟩ := hW
  subst hws
  have hFc := va_free hD hS hA is hC
  refine va_calli (va_runS (As := As) (rest := rest) X.1 (hM H.size) (va_cwS n X.1.2.2.2.2 k2 k3 r1 r2 k4 ⟨r3, r4⟩) ⟨Pre0.blind, fun U hU hWm => ⟨rfl, hW0.pre hn hC hU hWm⟩⟩ rfl hAs hsz hst (lv_room h8) hdg hcs) hS (fun q _ h => hFc q h) hFc (fun r' u t H1 locs1 ht hvm hw hB hz1 hk1 hS1 => ?_)
  subst hw
  rw [ht] at hB
  exact kk H1 locs1 (hW0.back hC ha hk1 hB hS1)
theorem g_cni (X : Bx p s m args meth c cc nL Ts own ret) (hW : Wo G A s ws H locs) {index maxL n : Nat} {y : MethodName} {wsy : List Cond} {bytes : ByteArray} {rt : Option FieldType} {rm : Room} {As st0 : List Value} {w0 w1 ws' : va_W} {r : Int32} (K : CkN Ts own index y wsy bytes maxL rt n) (hM : CtI G l y wsy rm As w0 r w1) (hR : Rok R rm maxL) (is : List Nat) (hst : st0 = As.reverse ++ rest) (hn : va_nd is = true) (hC : is.map (fun i => ws[i]?) = w0.map some) (ha : w1.map (fun q => q.1) = w0.map (fun q => q.1)) (hws : rpl ws is w1 = ws') (hAs : As.length = n) (hsz : ls.size = nL) (h8 : (rest.map fun v => v.category).sum ≤ 8) (hcs : cells ≤ R.cells ∧ slots ≤ R.slots) (hdg : decode cc pc = .ok (.invokestatic index, 3))
    (kk : ∀ (H1 : Heap) (locs1 : List Loc), Wo G A s ws' H1 locs1 → W p l e R s m args below meth c H1 locs1 cells slots Q (F0 m (pc + 3) ls (.int r :: rest))) : W p l e R s m args below meth c H locs cells slots Q (F0 m pc ls st0) := by
  obtain ⟨host, wr, n1, n2, n3, k2, k3, k4⟩ := K
  obtain ⟨r1, r2, r3, r4⟩ := hR
  have hW0 := hW
  obtain ⟨hK, hP, hD, hS, hA, hZ⟩ := hW
  subst hws
  have hFc := va_free hD hS hA is hC
  have hts := X.1.2.2.2.2
  refine va_calli (va_runSN (As := As) (rest := rest) X.1 (hM H.size) ⟨va_cnB (host := host) n hts k2 k3 r1 r2 (hZ.1 _ n1) (hts _ n3) k4 ⟨r3, r4⟩, hts _ n2, trivial⟩ ⟨Pre0.blind, fun U hU hWm => ⟨rfl, hW0.pre hn hC hU hWm⟩⟩ rfl hAs hsz hst (lv_room h8) hdg hcs) hS (fun q _ h => hFc q h) hFc (fun r' u t H1 locs1 ht hvm hw hB hz1 hk1 hS1 => ?_)
  subst hw
  rw [ht] at hB
  exact kk H1 locs1 (hW0.back hC ha hk1 hB hS1)
end GROWS
