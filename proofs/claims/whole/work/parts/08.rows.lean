/-! CONSTRUCTORS: contracts that make cells; the new addresses are u 0, u 1, .. -/
def CtC (G : Gt) (l : Launch) (y : MethodName) (wsy : List Cond) (rm : Room) (av : List Value) (w0 : va_W) (w1 : (Nat → Nat) → va_W) (mc ms : Nat) : Prop :=
  ∀ sz : Nat, Met l y wsy rm (va_Pc av (Pre0 G w0 sz)) (va_Qv (fun (_ : Nat → Nat) => True) (fun u t => va_P G.1 vwCl (w1 u) t.heap ∧ va_D (va_A w0 sz) (w1 u)) (va_A w0 sz)) mc ms (va_A w0 sz)
abbrev QC (G : Gt) (A : Nat → Prop) (below : List Frame) (args : Array Value) (s : State) (w1 : (Nat → Nat) → va_W) (mc ms : Nat) : State → Prop :=
  MQ below (va_Qv (fun (_ : Nat → Nat) => True) (fun u t => va_P G.1 vwCl (w1 u) t.heap ∧ va_D A (w1 u)) A) args s mc ms A
theorem CtC.mk {G : Gt} {l : Launch} {y : MethodName} {wsy ws' : List Cond} {rm : Room} {cc : ByteArray} {maxL : Nat} {av : List Value} {w0 : va_W} {w1 : (Nat → Nat) → va_W} {mc ms : Nat} {own : String} (hy : plainName y.cls = true) (hw : wsy = Cond.code y cc maxL none :: ws') (ho : y.cls = own) (hlen : (lg_sl av).length ≤ maxL)
    (body : ∀ (p : Program) (e : Env) (s : State) (m : MethodId) (below : List Frame) (meth : Method) (c : Code) (A : Nat → Prop), Bx p s m av.toArray meth c cc maxL wsy own none → meth.name = y.name → ∀ ls : Array Slot, lv_has ls maxL (lv_args 0 av) → Wo G A s w0 s.heap [] → W p l e rm s m av.toArray below meth c s.heap [] 0 0 (QC G A below av.toArray s w1 mc ms) (F0 m 0 ls [])) : CtC G l y wsy rm av w0 w1 mc ms := by
  intro sz
  refine Met.ofW (cc := cc) (maxL := maxL) (ret := none) hy hw ?_
  intro p e s m args below meth c s₁ B hml hv
  obtain ⟨rfl, hsz, hP, hK, hD0, hZ⟩ := hv
  subst hsz
  have hts := atoms_spec (ws := wsy) B.pre
  have hown : s.vm.findClass own = some m.cls := by rw [← ho]; exact findClass_of_methodNamed B.named
  have hl := lv_entry av (n := maxL) hlen
  have hin := (name_of_methodNamed B.named B.method).1
  rw [lg_entry_eq]
  exact body p e s m below meth c _ ⟨⟨B.exec, B.bytes, hml, hown, hts⟩, B.returns, B.notSynchronized⟩ hin _ hl ⟨hK, hP, hD0.self, va_S.rf, fun q h => Or.inr h, hZ⟩
theorem Wo.grow {G : Gt} {A : Nat → Prop} {s : State} {ws : va_W} {H H1 : Heap} {locs locs1 : List Loc} {i0 b : Nat} {e0 e1 : va_E} {nw : va_W} (hW : Wo G A s ws H locs) (hi : ws[i0]? = some (b, e0)) (hk : ∀ q : Nat, q < H.size → ¬ va_A [(b, e0)] H.size q → H1[q]? = H[q]?) (hP1 : va_P G.1 vwCl ((b, e1) :: nw) H1) (hD1 : va_D (va_A [(b, e0)] H.size) ((b, e1) :: nw)) (hS1 : va_S A s.heap H1 locs1) : Wo G A s (ws.set i0 (b, e1) ++ nw) H1 locs1 := by
  obtain ⟨hK, hP, hD, hS, hA, hZ⟩ := hW
  have hl := (List.getElem?_eq_some_iff.mp hi).1
  have hfree : ∀ q, va_A [(b, e0)] H.size q → q = b ∨ H.size ≤ q := by
    rintro q (⟨k, e, h⟩ | h)
    · cases k with
      | zero => cases h; exact Or.inl rfl
      | succ k => simp at h
    · exact Or.inr h
  have hA1 : ∀ q, va_A [(b, e0)] H.size q → A q := by
    intro q h
    rcases hfree q h with rfl | h
    · exact hD.2 i0 _ hi
    · exact hA q (Nat.le_trans hS.1 h)
  have hnew : ∀ (k : Nat) (q : Nat × va_E), nw[k]? = some q → H.size ≤ q.1 := by
    intro k q h
    rcases hfree q.1 (hD1.2 (k + 1) q (by rw [List.getElem?_cons_succ]; exact h)) with hb | hb
    · have := hD1.1 0 (k + 1) (b, e1) q rfl (by rw [List.getElem?_cons_succ]; exact h) hb.symm
      omega
    · exact hb
  have hDn : va_D A nw := ⟨fun i j x z h1 h2 h3 => by
    have := hD1.1 (i + 1) (j + 1) x z (by rw [List.getElem?_cons_succ]; exact h1) (by rw [List.getElem?_cons_succ]; exact h2) h3
    omega, fun k q h => hA1 q.1 (hD1.2 (k + 1) q (by rw [List.getElem?_cons_succ]; exact h))⟩
  have hadr : ∀ (k : Nat) (q : Nat × va_E), (ws.set i0 (b, e1))[k]? = some q → q.1 < H.size := by
    intro k q h
    by_cases hk0 : i0 = k
    · subst hk0
      rw [List.getElem?_set_self hl] at h
      cases h
      exact (hP i0 _ hi).lt
    · rw [List.getElem?_set_ne hk0] at h
      exact (hP k q h).lt
  refine ⟨hK, va_P.app ?_ (fun k q h => hP1 (k + 1) q (by rw [List.getElem?_cons_succ]; exact h)), (hD.set hi).app hDn ?_, hS1, hA, hZ⟩
  · intro k q h
    by_cases hk0 : i0 = k
    · subst hk0
      rw [List.getElem?_set_self hl] at h
      cases h
      exact hP1 0 _ rfl
    · rw [List.getElem?_set_ne hk0] at h
      have hlt := (hP k q h).lt
      refine (hP k q h).kept (hk q.1 hlt ?_)
      intro hz
      rcases hfree q.1 hz with hz | hz
      · exact hk0 (hD.1 i0 k (b, e0) q hi h hz.symm)
      · omega
  · intro i j x z h1 h2 h3
    have a1 := hadr i x h1
    have a2 := hnew j z h2
    omega
section GINIT
variable {p : Program} {l : Launch} {e : Env} {R : Room} {s : State} {m : MethodId} {args : Array Value} {below : List Frame} {meth : Method} {c : Code} {H : Heap} {locs : List Loc} {cells slots : Nat} {Q : State → Prop} {cc : ByteArray} {nL : Nat} {Ts : List Cond} {own : String} {ret : Option FieldType} {G : Gt} {A : Nat → Prop} {ws : va_W} {ls : Array Slot} {pc : Nat} {rest : List Value} {a : Nat}
def CkI (Ts : List Cond) (own : String) (index : Nat) (y : MethodName) (wsy : List Cond) (bytes : ByteArray) (maxL : Nat) (n : Nat) : Prop := ∃ (ws' : List Cond), GoodIn Ts wsy ∧ wsy = Cond.code y bytes maxL none :: ws' ∧ Cond.initialized y.cls ∈ Ts ∧ Cond.methodLink own index y ∈ Ts ∧ Cond.instanceMethod y ∈ Ts ∧ y.name = "<init>" ∧ y.cls ≠ "java/lang/invoke/MethodHandle" ∧ y.cls ≠ "java/lang/invoke/VarHandle" ∧ (parseMethodDescriptor y.desc).map (fun d => d.parameters.length) = some n
def CkIN (Ts : List Cond) (own : String) (index : Nat) (y : MethodName) (wsy : List Cond) (bytes : ByteArray) (maxL : Nat) (n : Nat) : Prop := ∃ (host : String) (ws' : List Cond), (own, index, y, host) ∈ nwL ∧ GoodIn Ts wsy ∧ wsy = Cond.code y bytes maxL none :: ws' ∧ Cond.initialized y.cls ∈ Ts ∧ Cond.instanceMethod y ∈ Ts ∧ y.name = "<init>" ∧ y.cls ≠ "java/lang/invoke/MethodHandle" ∧ y.cls ≠ "java/lang/invoke/VarHandle" ∧ (parseMethodDescriptor y.desc).map (fun d => d.parameters.length) = some n
theorem g_cc (X : Bx p s m args meth c cc nL Ts own ret) (hW : Wo G A s ws H locs) {index maxL n : Nat} {y : MethodName} {wsy : List Cond} {bytes : ByteArray} {rm : Room} {b : Nat} {As st0 : List Value} {e0 : va_E} {c1 : (Nat → Nat) → va_E} {nw : (Nat → Nat) → va_W} {mc ms : Nat} (K : CkI Ts own index y wsy bytes maxL n) (hM : CtC G l y wsy rm (.ref b :: As) [(b, e0)] (fun u => (b, c1 u) :: nw u) mc ms) (hR : rm.cells = mc ∧ rm.slots = ms ∧ rm.frames + 1 ≤ R.frames ∧ 8 + (maxL + 11) + rm.locals ≤ R.locals) (i0 : Nat) (hi : ws[i0]? = some (b, e0)) (hst : st0 = As.reverse ++ .ref b :: rest) (hAs : As.length = n) (hsz : ls.size = nL) (h8 : (rest.map fun v => v.category).sum ≤ 8) (hcs : cells + mc ≤ R.cells ∧ slots + ms ≤ R.slots) (hdg : decode cc pc = .ok (.invokespecial index, 3))
    (kk : ∀ (u : Nat → Nat) (H1 : Heap) (locs1 : List Loc), Wo G A s (ws.set i0 (b, c1 u) ++ nw u) H1 locs1 → W p l e R s m args below meth c H1 locs1 (cells + mc) (slots + ms) Q (F0 m (pc + 3) ls rest)) : W p l e R s m args below meth c H locs cells slots Q (F0 m pc ls st0) := by
  obtain ⟨wr, k2, k3, k4, k5, k6, k7, k8⟩ := K
  obtain ⟨r1, r2, r3, r4⟩ := hR
  have hW0 := hW
  obtain ⟨hK, hP, hD, hS, hA, hZ⟩ := hW
  have hts := X.1.2.2.2.2
  have hC : [i0].map (fun i => ws[i]?) = [(b, e0)].map some := by
    show [ws[i0]?] = _
    rw [hi]; rfl
  have hFc := va_free hD hS hA [i0] hC
  refine va_callv (va_runI (As := As) (rest := rest) X.1 (hM H.size) (cwI n hts k2 k3 r1 r2 (hts _ k4) (hts _ k5) (hts _ k6) k7 k8 ⟨r3, r4⟩) ⟨Pre0.blind, fun U hU hWm => ⟨rfl, hW0.pre rfl hC hU hWm⟩⟩ rfl hAs hsz hst (lv_room h8) hdg hcs) hS (fun q _ h => hFc q h) hFc (fun u t H1 locs1 ht hvm hw hB hz1 hk1 hS1 => ?_)
  rw [ht] at hB
  exact kk u H1 locs1 (hW0.grow hi hk1 hB.1 hB.2 hS1)
theorem g_ccn (X : Bx p s m args meth c cc nL Ts own ret) (hW : Wo G A s ws H locs) {index maxL n : Nat} {y : MethodName} {wsy : List Cond} {bytes : ByteArray} {rm : Room} {b : Nat} {As st0 : List Value} {e0 : va_E} {c1 : (Nat → Nat) → va_E} {nw : (Nat → Nat) → va_W} {mc ms : Nat} (K : CkIN Ts own index y wsy bytes maxL n) (hM : CtC G l y wsy rm (.ref b :: As) [(b, e0)] (fun u => (b, c1 u) :: nw u) mc ms) (hR : rm.cells = mc ∧ rm.slots = ms ∧ rm.frames + 1 ≤ R.frames ∧ 8 + (maxL + 11) + rm.locals ≤ R.locals) (i0 : Nat) (hi : ws[i0]? = some (b, e0)) (hst : st0 = As.reverse ++ .ref b :: rest) (hAs : As.length = n) (hsz : ls.size = nL) (h8 : (rest.map fun v => v.category).sum ≤ 8) (hcs : cells + mc ≤ R.cells ∧ slots + ms ≤ R.slots) (hdg : decode cc pc = .ok (.invokespecial index, 3))
    (kk : ∀ (u : Nat → Nat) (H1 : Heap) (locs1 : List Loc), Wo G A s (ws.set i0 (b, c1 u) ++ nw u) H1 locs1 → W p l e R s m args below meth c H1 locs1 (cells + mc) (slots + ms) Q (F0 m (pc + 3) ls rest)) : W p l e R s m args below meth c H locs cells slots Q (F0 m pc ls st0) := by
  obtain ⟨host, wr, k1, k2, k3, k4, k6, k7, k8⟩ := K
  obtain ⟨r1, r2, r3, r4⟩ := hR
  have hW0 := hW
  obtain ⟨hK, hP, hD, hS, hA, hZ⟩ := hW
  have hts := X.1.2.2.2.2
  have hC : [i0].map (fun i => ws[i]?) = [(b, e0)].map some := by
    show [ws[i0]?] = _
    rw [hi]; rfl
  have hFc := va_free hD hS hA [i0] hC
  refine va_callv (va_runIN (As := As) (rest := rest) X.1 (hM H.size) ⟨va_cnB (host := host) n hts k2 k3 r1 r2 (hZ.1 _ k1) (hts _ k4) k8 ⟨r3, r4⟩, k7, hts _ k6⟩ ⟨Pre0.blind, fun U hU hWm => ⟨rfl, hW0.pre rfl hC hU hWm⟩⟩ rfl hAs hsz hst (lv_room h8) hdg hcs) hS (fun q _ h => hFc q h) hFc (fun u t H1 locs1 ht hvm hw hB hz1 hk1 hS1 => ?_)
  rw [ht] at hB
  exact kk u H1 locs1 (hW0.grow hi hk1 hB.1 hB.2 hS1)
/-- a class that is made: its default fields -/
def CkNew (Ts : List Cond) (own : String) (index ci n : Nat) (fs : List Value) : Prop := ∃ (C : String) (T : u_T) (ty : Nat → FieldType), vwCl[ci]? = some (C, T, n) ∧ (∀ w ∈ u_ws C T n, w ∈ Ts) ∧ (∀ k, k < n → parseFieldDescriptor (T k).2.2.1 = some (ty k)) ∧ Cond.classLink own index C ∈ Ts ∧ Cond.instantiable C n ∈ Ts ∧ Cond.initialized C ∈ Ts ∧ ∀ j, j < n → defaultValue (ty j) = vp_V fs j
theorem g_new (X : Bx p s m args meth c cc nL Ts own ret) (hW : Wo G A s ws H locs) {index ci n : Nat} {fs : List Value} (K : CkNew Ts own index ci n fs) (hcs : cells + 1 ≤ R.cells ∧ slots + n ≤ R.slots) (hdg : decode cc pc = .ok (.new index, 3))
    (kk : ∀ (q : Nat) (H1 : Heap), Wo G A s (ws ++ [(q, .inr (ci, fs))]) H1 locs → W p l e R s m args below meth c H1 locs (cells + 1) (slots + n) Q (F0 m (pc + 3) ls (.ref q :: rest))) : W p l e R s m args below meth c H locs cells slots Q (F0 m pc ls rest) := by
  obtain ⟨C, T, ty, h1, h2, h3, h4, h5, h6, h7⟩ := K
  obtain ⟨⟨hx, hb, hml, hown, hts⟩, -, -⟩ := X
  obtain ⟨hK, hP, hD, hS, hA, hZ⟩ := hW
  exact va_new hx hb hts h2 ty h3 hown (hts _ h4) (hts _ h5) (hts _ h6) hK hP hD hS hA h1 h7 hcs.1 hcs.2 hdg (fun q H1 a1 a2 a3 => kk q H1 ⟨hK, a1, a2, a3, hA, hZ⟩)
theorem g_newa (X : Bx p s m args meth c cc nL Ts own ret) (hW : Wo G A s ws H locs) {n : Int32} {N : Nat} (K : Cond.arrayClass .int ∈ Ts) (hn : ¬ n < 0) (hN : n.toNatClampNeg = N) (hbytes : N ≤ 100000) (hcs : cells + 1 ≤ R.cells ∧ slots + N ≤ R.slots) (hdg : decode cc pc = .ok (.newarray .int, 2))
    (kk : ∀ (q : Nat) (H1 : Heap), Wo G A s (ws ++ [(q, .inl (G.2.1, N, .inl (fun _ => 0)))]) H1 locs → W p l e R s m args below meth c H1 locs (cells + 1) (slots + N) Q (F0 m (pc + 2) ls (.ref q :: rest))) : W p l e R s m args below meth c H locs cells slots Q (F0 m pc ls (.int n :: rest)) := by
  obtain ⟨⟨hx, hb, hml, hown, hts⟩, -, -⟩ := X
  obtain ⟨hK, hP, hD, hS, hA, hZ⟩ := hW
  refine va_newa (atype := .int) hx hb (hts _ K) (ty := .int) rfl hK hP hD hS hA (N' := N) (a0 := (N, .inl (fun _ => 0))) (fun cA => rfl) hn hN ?_ hcs.1 hcs.2 hdg (fun q cA H1 a0 a1 a2 a3 => ?_)
  · show N * 4 ≤ _
    omega
  · have e1 := (hK.2 0 (G.2.1, .int) rfl).2
    have e2 := (a0.2 1 (cA, .int) rfl).2
    have e3 : cA = G.2.1 := Option.some.inj (e2.symm.trans e1)
    subst e3
    exact kk q H1 ⟨hK, a1, a2, a3, hA, hZ⟩
/-- a final field of class ci, slot k, of type ty -/
def Ff (Ts : List Cond) (own : String) (index ci k : Nat) (ty : FieldType) : Prop := ∃ (C : String) (T : u_T) (N : Nat) (ty0 : Nat → FieldType), vwCl[ci]? = some (C, T, N) ∧ (∀ w ∈ u_ws C T N, w ∈ Ts) ∧ k < N ∧ Cond.fieldLink own index (T k).1 (T k).2.1 (T k).2.2.1 ∈ Ts ∧ (∀ k, k < N → parseFieldDescriptor (T k).2.2.1 = some (ty0 k)) ∧ (∀ a, a < N → ∀ b, b < N → a ≠ b → (T a).2.1 ≠ (T b).2.1) ∧ (T k).2.2.2 = true ∧ (T k).1 = own ∧ parseFieldDescriptor (T k).2.2.1 = some ty
theorem g_putF (X : Bx p s m args meth c cc nL Ts own ret) (hin : meth.name = "<init>") (hW : Wo G A s ws H locs) {index ci k : Nat} {fs : List Value} {v : Value} {ty : FieldType} {ws' : va_W} (F : Ff Ts own index ci k ty) (q0 : Nat) (he : ws[q0]? = some (a, .inr (ci, fs))) (hl : k < fs.length) (hn : narrow ty v = v) (hfit : fits ty v = true) (hws : ws.set q0 (a, .inr (ci, fs.set k v)) = ws') (hdg : decode cc pc = .ok (.putfield index, 3))
    (kk : ∀ (H1 : Heap) (locs1 : List Loc), Wo G A s ws' H1 locs1 → W p l e R s m args below meth c H1 locs1 cells slots Q (F0 m (pc + 3) ls rest)) : W p l e R s m args below meth c H locs cells slots Q (F0 m pc ls (v :: .ref a :: rest)) := by
  obtain ⟨C, T, N, ty0, h1, h2, h3, h4, h5, h6, h7, h9, h8⟩ := F
  obtain ⟨⟨hx, hb, hml, hown, hts⟩, -, -⟩ := X
  obtain ⟨hK, hP, hD, hS, hA, hZ⟩ := hW
  subst hws
  exact va_putF hx hb hts h2 ty0 h5 h6 hown hK hP hD hS q0 he h1 k h3 (hts _ h4) (fun _ h => h) h7 hin h9 h8 hn hfit hl hdg (fun H1 locs1 a1 a2 a3 => kk H1 locs1 ⟨hK, a1, a2, a3, hA, hZ⟩)
/-- the words of Object.<init> -/
abbrev CkO (Ts : List Cond) (own : String) (index : Nat) : Prop := Cond.methodLink own index objectInit ∈ Ts ∧ Cond.instanceMethod objectInit ∈ Ts ∧ Cond.code objectInit ⟨#[0xb1]⟩ 1 none ∈ Ts
theorem g_oinit (X : Bx p s m args meth c cc nL Ts own ret) {index : Nat} (K : CkO Ts own index) (hsz : ls.size = nL) (hf : 1 ≤ R.frames) (hl : (rest.map fun v => v.category).sum + 12 ≤ R.locals) (hdg : decode cc pc = .ok (.invokespecial index, 3)) (kk : W p l e R s m args below meth c H locs cells slots Q (F0 m (pc + 3) ls rest)) : W p l e R s m args below meth c H locs cells slots Q (F0 m pc ls (.ref a :: rest)) := by
  obtain ⟨⟨hx, hb, hml, hown, hts⟩, -, -⟩ := X
  exact W.objInit hx hb hown (hts _ K.1) (hts _ K.2.1) (hts _ K.2.2) rfl (by rw [hml]; exact hsz) rfl hdg hf (by show 2 * 0 + _ + 12 ≤ _; omega) kk
theorem g_cret (X : Bx p s m args meth c cc nL Ts own none) (hW : Wo G A s ws H locs) {w1 : (Nat → Nat) → va_W} {mc ms : Nat} (u : Nat → Nat) (hw : ws = w1 u) (hc : cells ≤ mc ∧ slots ≤ ms) (hdg : decode cc pc = .ok (.return_, 1)) : W p l e R s m args below meth c H locs cells slots (QC G A below args s w1 mc ms) (F0 m pc ls []) := by
  obtain ⟨⟨hx, hb, hml, hown, hts⟩, hr, hlocks⟩ := X
  obtain ⟨hK, hP, hD, hS, hA, hZ⟩ := hW
  refine W.widen (k := mc) (n := ms) hc.1 hc.2 ?_
  exact W.vret hx hb hr (fun t ht hW => ⟨⟨u, rfl, trivial, by show va_P G.1 vwCl (w1 u) t.heap; rw [ht, ← hw]; exact hP, by rw [← hw]; exact hD⟩, hS.F ht⟩) hS.2.2 hdg hlocks
end GINIT
