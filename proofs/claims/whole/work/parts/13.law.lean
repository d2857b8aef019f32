/-! THE CLAIM OUT OF ONE WALK OF THE LAW'S BODY. Your part is whole_start (and what it stands on); all else here is the same for every law, but numbers. -/
def R_law : String := "EmptyBoxesLaw"
def lw_P (b : Addr) (xs : List Int32) (args : Array Value) (s : State) : Prop := args = #[.ref b] ∧ s.IntsAt b xs ∧ xs.length ≤ 3584 ∧ (Jvm.Cond.and given_1 narrow_1).before args s = true
def lw_Q (_ : Array Value) (s : State) (o : Outcome) (t : State) : Prop := o = .returned (some (.int 1)) ∧ Framed s o t [] 600000 7302250
def lw_Z (below : List Frame) (a : Array Value) (s : State) : State → Prop := fun t => ∃ o, t.status = .running ∧ Ended t below o ∧ lw_Q a s o t
/-- the law's own end, with 1 on the stack, nothing written that was there before, its room as the claim has it -/
theorem lw_ret {p : Program} {l : Launch} {e : Env} {s : State} {m : MethodId} {below : List Frame} {meth : Method} {c : Code} {b : Nat} (hx : p.tables.exec = Jvm.exec) (hb : c.code = code) (hr : meth.sig.returnType = ret) (hlocks : meth.locks = false) {pc : Nat} {H : Heap} {ls : Array Slot} (hdg : decode code pc = .ok (.ireturn, 1)) : W p l e room_1 s m #[Value.ref b] below meth c H [] 600000 7302250 (lw_Z below #[Value.ref b] s) (F0 m pc ls [.int 1]) := by
  intro T hT X
  obtain ⟨fs, hret, hrun, hended, hW, hframe⟩ := X.leave (v := some (.int 1)) (hlocks := hlocks) (fun h => by rw [hr] at h; cases h)
  have hmeth' : T.vm.method? m = some meth := X.method'
  refine ⟨T.setFrames fs, ?_, .returned (some (.int 1)), hrun, hended, rfl, ⟨_, rfl⟩, hW, hframe⟩
  jvm_step X.here [X.here.top, hx, hb, hdg, hmeth', hr, ret, narrow_b1]
  (try refine ⟨rfl, ?_⟩); (try refine ⟨rfl, ?_⟩)
  first | (intro acts; rw [hret _ acts rfl rfl rfl]) | rw [hret _ _ rfl rfl rfl]
  exact Steps.refl _
/-- what holds at the law's entry: the machine, the code, the tables' words (any of lw_tbl by 'hts w (by decide +kernel)'), the script of L ints xs at the cell b, what the Statement gives of the start (any of its parts by flat_of_before) -/
def lw_At (p : Program) (s : State) (m : MethodId) (meth : Method) (c : Code) (b L : Nat) (xs : Nat → Int32) : Prop :=
  p.tables.exec = Jvm.exec ∧ c.code = code ∧ meth.sig.returnType = ret ∧ c.maxLocals = 4 ∧ s.vm.findClass R_law = some m.cls ∧ (∀ w ∈ lw_tbl, w.before #[Value.ref b] s = true) ∧ va_X b L xs s s.heap ∧ b < s.heap.size ∧ meth.locks = false ∧ (Jvm.Cond.and given_1 narrow_1).before #[Value.ref b] s = true

set_option maxHeartbeats 16000000 in
set_option maxRecDepth 100000 in
/-- THE LAW'S LOOP -/
theorem law_loop {p : Program} {l : Launch} {e : Env} {s : State} {m : MethodId} {below : List Frame} {meth : Method} {c : Code} {G : Gt} {a : Nat → Nat} {b L : Nat} {xs : Nat → Int32} (hL : L ≤ 3584) (X : Bx p s m #[Value.ref b] meth c code 4 lw_tbl RL ret) (hX : va_X b L xs s s.heap) (hbl : b < s.heap.size) (Inv : (Nat → Int32) → (Nat → Nat → Int32) → (Nat → Int32) → (Nat → Nat → Int32) → Prop) (hops : OpsOk Inv) : ∀ (n i : Nat) (x3 : Int32), i ≤ L + 7 → L + 8 ≤ i + n → x3 = nI i → ∀ (E : Nat → Int32) (F : Nat → Nat → Int32) (M : Nat → Int32) (N : Nat → Nat → Int32), Inv E F M N → ∀ (H : Heap) (locs : List Loc), Wo G (fun q : Nat => s.heap.size ≤ q) s (lawW G a E F M N) H locs → ∀ ls : Array Slot, lv_has ls 4 [(0, .ref b), (1, .ref (a 0)), (2, .ref (a 56)), (3, .int x3)] → W p l e room_1 s m #[Value.ref b] below meth c H locs 600000 7302250 (lw_Z below #[Value.ref b] s) (F0 m 18 ls []) := by
  obtain ⟨hx, hb, -⟩ := id X.1
  have hbA : ¬ (fun q : Nat => s.heap.size ≤ q) b := Nat.not_le.mpr hbl
  obtain ⟨o_0, o_1, o_2, o_3, o_4, o_5, o_6, o_7, o_8, o_9, o_10, o_11, o_12, o_13, o_14, o_15, o_16, o_17, o_18, o_19, o_20, o_21, o_22, o_23, o_24, o_25, o_26, o_27, o_28, o_29, o_30, o_31, o_32⟩ := hops
  intro n
  induction n with
  | zero => intro i x3 h1 h2; exact absurd h2 (by omega)
  | succ n ih =>
    intro i x3 hi hin ex3 E F M N hI H locs hW ls hl
    refine lv_iload_n hx hb dL_law_18 rfl (lv_at hl 3 rfl) ?_
    refine lv_aload_n hx hb dL_law_19 rfl (lv_at hl 0 rfl) ?_
    refine va_slen hx hb hX hbl hbA hW.2.2.2.1 dL_law_20 ?_
    refine lv_bipush (v := 7) hx hb dL_law_21 (by decide) ?_
    refine lv_isub hx hb dL_law_23 ?_
    have hd : (nI L - 7).toInt = (L : Int) - 7 := pk_sub_toInt (a := L) (b := 7) (by omega) (by omega)
    have hi3 : x3.toInt = (i : Int) := by rw [ex3]; exact nI_toInt (by omega)
    refine lv_icmp_gt (tgt := 1339) hx hb dL_law_24 (by decide) (fun c1 => ?_) (fun c1 => ?_)
    · refine lv_iconst (v := 1) hx hb dL_law_1339 (by decide) ?_
      refine va_forget (fun q hq => hW.2.2.2.1.2.2 q hq) ?_
      exact lw_ret hx hb X.2.1 X.2.2 dL_law_1340
    · have hle : i + 7 ≤ L := by
        have h1 : ¬ (nI L - 7).toInt < x3.toInt := fun h => c1 (Int32.lt_iff_toInt_lt.mpr h)
        rw [hd, hi3] at h1
        omega
      have hv : ∀ j : Nat, j < 7 → vp_in (x3 + nI j) L := fun j hj => by rw [ex3, nI_add]; exact vp_in_nI (by omega) (by omega)
      have h_0 : vp_in x3 L := by rw [ex3]; exact vp_in_nI (by omega) (by omega)
      have h_1 : vp_in (x3 + (1 : Int32)) L := hv 1 (by omega)
      have h_2 : vp_in (x3 + (2 : Int32)) L := hv 2 (by omega)
      have h_3 : vp_in (x3 + (3 : Int32)) L := hv 3 (by omega)
      have h_4 : vp_in (x3 + (4 : Int32)) L := hv 4 (by omega)
      have h_5 : vp_in (x3 + (5 : Int32)) L := hv 5 (by omega)
      have h_6 : vp_in (x3 + (6 : Int32)) L := hv 6 (by omega)
      have Hk : ∀ (E : Nat → Int32) (F : Nat → Nat → Int32) (M : Nat → Int32) (N : Nat → Nat → Int32), Inv E F M N → ∀ (H : Heap) (locs : List Loc), Wo G (fun q : Nat => s.heap.size ≤ q) s (lawW G a E F M N) H locs → W p l e room_1 s m #[Value.ref b] below meth c H locs 600000 7302250 (lw_Z below #[Value.ref b] s) (F0 m 1333 ls []) := by
        intro E F M N hI H locs hW
        refine lv_iinc (v := x3 + 7) (lv' := [(3, .int (x3 + 7)), (0, .ref b), (1, .ref (a 0)), (2, .ref (a 56))]) hx hb dL_law_1333 hl (k := 3) rfl (congrArg (fun z => x3 + z) (by decide)) (by decide) rfl (fun ls hl => ?_)
        refine lv_goto (tgt := 18) hx hb dL_law_1336 (by decide) ?_
        exact ih (i + 7) (x3 + 7) (by omega) (by omega) (by rw [ex3]; exact nI_add i 7) E F M N hI H locs hW ls (lv_sub hl [1, 2, 3, 0] rfl)
      refine lv_aload_n hx hb dL_law_27 rfl (lv_at hl 0 rfl) ?_
      refine lv_iload_n hx hb dL_law_28 rfl (lv_at hl 3 rfl) ?_
      refine va_sld hx hb hX hbl hbA hW.2.2.2.1 h_0 dL_law_29 ?_
      refine lv_bipush (v := 63) hx hb dL_law_30 (by decide) ?_
      refine lv_iand hx hb dL_law_32 ?_
      refine lv_topi (fun v ev => ?_)
      by_cases q0 : v = (0 : Int32)
      · refine lv_tableIn (tgt := 180) hx hb dL_law_33 (by rw [q0]; decide) (by rw [q0]; decide) (by rw [q0]; rfl) (by decide) ?_
        exact law_days X hX hbl Inv o_0 E F M N hI x3 h_1 h_2 h_3 h_4 h_5 h_6 H locs hW ls hl Hk
      by_cases q1 : v = (1 : Int32)
      · refine lv_tableIn (tgt := 203) hx hb dL_law_33 (by rw [q1]; decide) (by rw [q1]; decide) (by rw [q1]; rfl) (by decide) ?_
        exact law_box X hX hbl Inv o_1 E F M N hI x3 h_1 h_2 h_3 h_4 h_5 h_6 H locs hW ls hl Hk
      by_cases q2 : v = (2 : Int32)
      · refine lv_tableIn (tgt := 256) hx hb dL_law_33 (by rw [q2]; decide) (by rw [q2]; decide) (by rw [q2]; rfl) (by decide) ?_
        exact law_check X hX hbl Inv o_2 E F M N hI x3 h_1 h_2 h_3 h_4 h_5 h_6 H locs hW ls hl Hk
      by_cases q3 : v = (3 : Int32)
      · refine lv_tableIn (tgt := 279) hx hb dL_law_33 (by rw [q3]; decide) (by rw [q3]; decide) (by rw [q3]; rfl) (by decide) ?_
        exact law_find X hX hbl Inv o_3 E F M N hI x3 h_1 h_2 h_3 h_4 h_5 h_6 H locs hW ls hl Hk
      by_cases q4 : v = (4 : Int32)
      · refine lv_tableIn (tgt := 302) hx hb dL_law_33 (by rw [q4]; decide) (by rw [q4]; decide) (by rw [q4]; rfl) (by decide) ?_
        exact law_of X hX hbl Inv o_4 E F M N hI x3 h_1 h_2 h_3 h_4 h_5 h_6 H locs hW ls hl Hk
      by_cases q5 : v = (5 : Int32)
      · refine lv_tableIn (tgt := 335) hx hb dL_law_33 (by rw [q5]; decide) (by rw [q5]; decide) (by rw [q5]; rfl) (by decide) ?_
        exact law_word X hX hbl Inv o_5 E F M N hI x3 h_1 h_2 h_3 h_4 h_5 h_6 H locs hW ls hl Hk
      by_cases q6 : v = (6 : Int32)
      · refine lv_tableIn (tgt := 388) hx hb dL_law_33 (by rw [q6]; decide) (by rw [q6]; decide) (by rw [q6]; rfl) (by decide) ?_
        exact law_where X hX hbl Inv o_6 E F M N hI x3 h_1 h_2 h_3 h_4 h_5 h_6 H locs hW ls hl Hk
      by_cases q7 : v = (7 : Int32)
      · refine lv_tableIn (tgt := 431) hx hb dL_law_33 (by rw [q7]; decide) (by rw [q7]; decide) (by rw [q7]; rfl) (by decide) ?_
        exact law_since X hX hbl Inv o_7 E F M N hI x3 h_1 h_2 h_3 h_4 h_5 h_6 H locs hW ls hl Hk
      by_cases q8 : v = (8 : Int32)
      · refine lv_tableIn (tgt := 474) hx hb dL_law_33 (by rw [q8]; decide) (by rw [q8]; decide) (by rw [q8]; rfl) (by decide) ?_
        exact law_quarrels X hX hbl Inv o_8 E F M N hI x3 h_1 h_2 h_3 h_4 h_5 h_6 H locs hW ls hl Hk
      by_cases q9 : v = (9 : Int32)
      · refine lv_tableIn (tgt := 507) hx hb dL_law_33 (by rw [q9]; decide) (by rw [q9]; decide) (by rw [q9]; rfl) (by decide) ?_
        exact law_count X hX hbl Inv o_9 E F M N hI x3 h_1 h_2 h_3 h_4 h_5 h_6 H locs hW ls hl Hk
      by_cases q10 : v = (10 : Int32)
      · refine lv_tableIn (tgt := 530) hx hb dL_law_33 (by rw [q10]; decide) (by rw [q10]; decide) (by rw [q10]; rfl) (by decide) ?_
        exact law_week X hX hbl Inv o_10 E F M N hI x3 h_1 h_2 h_3 h_4 h_5 h_6 H locs hW ls hl Hk
      by_cases q11 : v = (11 : Int32)
      · refine lv_tableIn (tgt := 583) hx hb dL_law_33 (by rw [q11]; decide) (by rw [q11]; decide) (by rw [q11]; rfl) (by decide) ?_
        exact law_route X hX hbl Inv o_11 E F M N hI x3 h_1 h_2 h_3 h_4 h_5 h_6 H locs hW ls hl Hk
      by_cases q12 : v = (12 : Int32)
      · refine lv_tableIn (tgt := 636) hx hb dL_law_33 (by rw [q12]; decide) (by rw [q12]; decide) (by rw [q12]; rfl) (by decide) ?_
        exact law_lack X hX hbl Inv o_12 E F M N hI x3 h_1 h_2 h_3 h_4 h_5 h_6 H locs hW ls hl Hk
      by_cases q13 : v = (13 : Int32)
      · refine lv_tableIn (tgt := 659) hx hb dL_law_33 (by rw [q13]; decide) (by rw [q13]; decide) (by rw [q13]; rfl) (by decide) ?_
        exact law_least X hX hbl Inv o_13 E F M N hI x3 h_1 h_2 h_3 h_4 h_5 h_6 H locs hW ls hl Hk
      by_cases q14 : v = (14 : Int32)
      · refine lv_tableIn (tgt := 672) hx hb dL_law_33 (by rw [q14]; decide) (by rw [q14]; decide) (by rw [q14]; rfl) (by decide) ?_
        exact law_worth X hX hbl Inv o_14 E F M N hI x3 h_1 h_2 h_3 h_4 h_5 h_6 H locs hW ls hl Hk
      by_cases q15 : v = (15 : Int32)
      · refine lv_tableIn (tgt := 705) hx hb dL_law_33 (by rw [q15]; decide) (by rw [q15]; decide) (by rw [q15]; rfl) (by decide) ?_
        exact law_turn X hX hbl Inv o_15 E F M N hI x3 h_1 h_2 h_3 h_4 h_5 h_6 H locs hW ls hl Hk
      by_cases q16 : v = (16 : Int32)
      · refine lv_tableIn (tgt := 796) hx hb dL_law_33 (by rw [q16]; decide) (by rw [q16]; decide) (by rw [q16]; rfl) (by decide) ?_
        exact law_leave X hX hbl Inv o_16 E F M N hI x3 h_1 h_2 h_3 h_4 h_5 h_6 H locs hW ls hl Hk
      by_cases q17 : v = (17 : Int32)
      · refine lv_tableIn (tgt := 855) hx hb dL_law_33 (by rw [q17]; decide) (by rw [q17]; decide) (by rw [q17]; rfl) (by decide) ?_
        exact law_suits X hX hbl Inv o_17 E F M N hI x3 h_1 h_2 h_3 h_4 h_5 h_6 H locs hW ls hl Hk
      by_cases q18 : v = (18 : Int32)
      · refine lv_tableIn (tgt := 888) hx hb dL_law_33 (by rw [q18]; decide) (by rw [q18]; decide) (by rw [q18]; rfl) (by decide) ?_
        exact law_match X hX hbl Inv o_18 E F M N hI x3 h_1 h_2 h_3 h_4 h_5 h_6 H locs hW ls hl Hk
      by_cases q19 : v = (19 : Int32)
      · refine lv_tableIn (tgt := 911) hx hb dL_law_33 (by rw [q19]; decide) (by rw [q19]; decide) (by rw [q19]; rfl) (by decide) ?_
        exact law_clear X hX hbl Inv o_19 E F M N hI x3 h_1 h_2 h_3 h_4 h_5 h_6 H locs hW ls hl Hk
      by_cases q20 : v = (20 : Int32)
      · refine lv_tableIn (tgt := 924) hx hb dL_law_33 (by rw [q20]; decide) (by rw [q20]; decide) (by rw [q20]; rfl) (by decide) ?_
        exact law_feed X hX hbl Inv o_20 E F M N hI x3 h_1 h_2 h_3 h_4 h_5 h_6 H locs hW ls hl Hk
      by_cases q21 : v = (21 : Int32)
      · refine lv_tableIn (tgt := 987) hx hb dL_law_33 (by rw [q21]; decide) (by rw [q21]; decide) (by rw [q21]; rfl) (by decide) ?_
        exact law_read X hX hbl Inv o_21 E F M N hI x3 h_1 h_2 h_3 h_4 h_5 h_6 H locs hW ls hl Hk
      by_cases q22 : v = (22 : Int32)
      · refine lv_tableIn (tgt := 1010) hx hb dL_law_33 (by rw [q22]; decide) (by rw [q22]; decide) (by rw [q22]; rfl) (by decide) ?_
        exact law_lease X hX hbl Inv o_22 E F M N hI x3 h_1 h_2 h_3 h_4 h_5 h_6 H locs hW ls hl Hk
      by_cases q23 : v = (23 : Int32)
      · refine lv_tableIn (tgt := 1043) hx hb dL_law_33 (by rw [q23]; decide) (by rw [q23]; decide) (by rw [q23]; rfl) (by decide) ?_
        exact law_giveBack X hX hbl Inv o_23 E F M N hI x3 h_1 h_2 h_3 h_4 h_5 h_6 H locs hW ls hl Hk
      by_cases q24 : v = (24 : Int32)
      · refine lv_tableIn (tgt := 1076) hx hb dL_law_33 (by rw [q24]; decide) (by rw [q24]; decide) (by rw [q24]; rfl) (by decide) ?_
        exact law_writeOff X hX hbl Inv o_24 E F M N hI x3 h_1 h_2 h_3 h_4 h_5 h_6 H locs hW ls hl Hk
      by_cases q25 : v = (25 : Int32)
      · refine lv_tableIn (tgt := 1099) hx hb dL_law_33 (by rw [q25]; decide) (by rw [q25]; decide) (by rw [q25]; rfl) (by decide) ?_
        exact law_rate X hX hbl Inv o_25 E F M N hI x3 h_1 h_2 h_3 h_4 h_5 h_6 H locs hW ls hl Hk
      by_cases q26 : v = (26 : Int32)
      · refine lv_tableIn (tgt := 1132) hx hb dL_law_33 (by rw [q26]; decide) (by rw [q26]; decide) (by rw [q26]; rfl) (by decide) ?_
        exact law_use X hX hbl Inv o_26 E F M N hI x3 h_1 h_2 h_3 h_4 h_5 h_6 H locs hW ls hl Hk
      by_cases q27 : v = (27 : Int32)
      · refine lv_tableIn (tgt := 1185) hx hb dL_law_33 (by rw [q27]; decide) (by rw [q27]; decide) (by rw [q27]; rfl) (by decide) ?_
        exact law_strike X hX hbl Inv o_27 E F M N hI x3 h_1 h_2 h_3 h_4 h_5 h_6 H locs hW ls hl Hk
      by_cases q28 : v = (28 : Int32)
      · refine lv_tableIn (tgt := 1208) hx hb dL_law_33 (by rw [q28]; decide) (by rw [q28]; decide) (by rw [q28]; rfl) (by decide) ?_
        exact law_net X hX hbl Inv o_28 E F M N hI x3 h_1 h_2 h_3 h_4 h_5 h_6 H locs hW ls hl Hk
      by_cases q29 : v = (29 : Int32)
      · refine lv_tableIn (tgt := 1241) hx hb dL_law_33 (by rw [q29]; decide) (by rw [q29]; decide) (by rw [q29]; rfl) (by decide) ?_
        exact law_owes X hX hbl Inv o_29 E F M N hI x3 h_1 h_2 h_3 h_4 h_5 h_6 H locs hW ls hl Hk
      by_cases q30 : v = (30 : Int32)
      · refine lv_tableIn (tgt := 1284) hx hb dL_law_33 (by rw [q30]; decide) (by rw [q30]; decide) (by rw [q30]; rfl) (by decide) ?_
        exact law_many X hX hbl Inv o_30 E F M N hI x3 h_1 h_2 h_3 h_4 h_5 h_6 H locs hW ls hl Hk
      by_cases q31 : v = (31 : Int32)
      · refine lv_tableIn (tgt := 1307) hx hb dL_law_33 (by rw [q31]; decide) (by rw [q31]; decide) (by rw [q31]; rfl) (by decide) ?_
        exact law_keep X hX hbl Inv o_31 E F M N hI x3 h_1 h_2 h_3 h_4 h_5 h_6 H locs hW ls hl Hk
      by_cases q32 : v = (32 : Int32)
      · refine lv_tableIn (tgt := 1320) hx hb dL_law_33 (by rw [q32]; decide) (by rw [q32]; decide) (by rw [q32]; rfl) (by decide) ?_
        exact law_back X hX hbl Inv o_32 E F M N hI x3 h_1 h_2 h_3 h_4 h_5 h_6 H locs hW ls hl Hk
      have q0 := lv_neT (a := 0) q0 (by decide)
      have q1 := lv_neT (a := 1) q1 (by decide)
      have q2 := lv_neT (a := 2) q2 (by decide)
      have q3 := lv_neT (a := 3) q3 (by decide)
      have q4 := lv_neT (a := 4) q4 (by decide)
      have q5 := lv_neT (a := 5) q5 (by decide)
      have q6 := lv_neT (a := 6) q6 (by decide)
      have q7 := lv_neT (a := 7) q7 (by decide)
      have q8 := lv_neT (a := 8) q8 (by decide)
      have q9 := lv_neT (a := 9) q9 (by decide)
      have q10 := lv_neT (a := 10) q10 (by decide)
      have q11 := lv_neT (a := 11) q11 (by decide)
      have q12 := lv_neT (a := 12) q12 (by decide)
      have q13 := lv_neT (a := 13) q13 (by decide)
      have q14 := lv_neT (a := 14) q14 (by decide)
      have q15 := lv_neT (a := 15) q15 (by decide)
      have q16 := lv_neT (a := 16) q16 (by decide)
      have q17 := lv_neT (a := 17) q17 (by decide)
      have q18 := lv_neT (a := 18) q18 (by decide)
      have q19 := lv_neT (a := 19) q19 (by decide)
      have q20 := lv_neT (a := 20) q20 (by decide)
      have q21 := lv_neT (a := 21) q21 (by decide)
      have q22 := lv_neT (a := 22) q22 (by decide)
      have q23 := lv_neT (a := 23) q23 (by decide)
      have q24 := lv_neT (a := 24) q24 (by decide)
      have q25 := lv_neT (a := 25) q25 (by decide)
      have q26 := lv_neT (a := 26) q26 (by decide)
      have q27 := lv_neT (a := 27) q27 (by decide)
      have q28 := lv_neT (a := 28) q28 (by decide)
      have q29 := lv_neT (a := 29) q29 (by decide)
      have q30 := lv_neT (a := 30) q30 (by decide)
      have q31 := lv_neT (a := 31) q31 (by decide)
      have q32 := lv_neT (a := 32) q32 (by decide)
      refine lv_tableOut (tgt := 1333) hx hb dL_law_33 (by omega) (by decide) ?_
      exact Hk E F M N hI H locs hW
def E_0 : Nat → Int32 := fun i => ([0, 0, 0, 100, 5, 2, 0, 0, 30, 0, 0, 0, 4, 3, 0, 0, 100, 5, 2, 0, 0, 30, 0, 0, 0, 4, 3, 0, 0, 0, 0, 0, 0, 0, 0, 0, 0, 0, 0, 0] : List Int32).getD i 0
def F_0 : Nat → Nat → Int32 := fun _ _ => 0
def M_0 : Nat → Int32 := fun _ => 0
def num_0 : Nat → Int32 := (upd (upd (upd (upd (upd (upd (upd (upd (upd (upd (fun _ => (0 : Int32)) (0 : Int32).toNatClampNeg (0 : Int32)) (1 : Int32).toNatClampNeg (0 : Int32)) (2 : Int32).toNatClampNeg (0 : Int32)) (3 : Int32).toNatClampNeg (0 : Int32)) (4 : Int32).toNatClampNeg (0 : Int32)) (5 : Int32).toNatClampNeg (0 : Int32)) (6 : Int32).toNatClampNeg (0 : Int32)) (7 : Int32).toNatClampNeg (5 : Int32)) (8 : Int32).toNatClampNeg (2 : Int32)) (9 : Int32).toNatClampNeg (100 : Int32))
def N_0 : Nat → Nat → Int32 := fun k => match k with
  | 0 => num_0
  | _ => fun _ => 0
/-- where the cells lie -/
def lawA (q0 : Nat) (u : Nat → Nat) (q1 : Nat) (w : Nat → Nat) : Nat → Nat := fun i => if i = 0 then q0 else if i < 56 then u (i - 1) else if i = 56 then q1 else w (i - 57)
set_option maxHeartbeats 16000000 in
set_option maxRecDepth 100000 in
/-- what stands beside the world, at the law's entry -/
theorem law_zs {s : State} {b : Nat} (hts : ∀ w ∈ lw_tbl, w.before #[Value.ref b] s = true) (hgv : (Jvm.Cond.and given_1 narrow_1).before #[Value.ref b] s = true) : ∃ adK adV : Nat → Nat, ∀ (D : va_G) (cI : ClassId), ZS (D, cI, adK, adV) (fun q : Nat => s.heap.size ≤ q) s := by
  have hs := flat_of_before _ hgv
  have hA : ∀ a : Nat, a < s.heap.size → ¬ (fun q : Nat => s.heap.size ≤ q) a := fun a h => Nat.not_le.mpr h
  obtain ⟨adK, adV, h1, h2⟩ := vk_Sof (args := #[Value.ref b]) (s := s) (N := 7) (tm := fun i => Term.string "EmptyBoxes$LeaseText" ((sTx.map (fun q => q.1)).getD i 0)) (len := sLen) (byt := sByt) (A := (fun q : Nat => s.heap.size ≤ q)) (by decide)
    (fun i hi => by rcases (show i = 0 ∨ i = 1 ∨ i = 2 ∨ i = 3 ∨ i = 4 ∨ i = 5 ∨ i = 6 by omega) with rfl | rfl | rfl | rfl | rfl | rfl | rfl <;> exact hs _ (by decide +kernel))
    (fun i hi => by rcases (show i = 0 ∨ i = 1 ∨ i = 2 ∨ i = 3 ∨ i = 4 ∨ i = 5 ∨ i = 6 by omega) with rfl | rfl | rfl | rfl | rfl | rfl | rfl <;> exact hs _ (by decide +kernel))
    (fun i hi => by rcases (show i = 0 ∨ i = 1 ∨ i = 2 ∨ i = 3 ∨ i = 4 ∨ i = 5 ∨ i = 6 by omega) with rfl | rfl | rfl | rfl | rfl | rfl | rfl <;> exact hs _ (by decide +kernel))
    (fun i hi => by rcases (show i = 0 ∨ i = 1 ∨ i = 2 ∨ i = 3 ∨ i = 4 ∨ i = 5 ∨ i = 6 by omega) with rfl | rfl | rfl | rfl | rfl | rfl | rfl <;> exact hs _ (by decide +kernel))
    (fun i hi j hj => by
      rcases (show i = 0 ∨ i = 1 ∨ i = 2 ∨ i = 3 ∨ i = 4 ∨ i = 5 ∨ i = 6 by omega) with rfl | rfl | rfl | rfl | rfl | rfl | rfl
      · have hj : j < 4 := hj
        rcases (show j = 0 ∨ j = 1 ∨ j = 2 ∨ j = 3 by omega) with rfl | rfl | rfl | rfl <;> exact hs _ (by decide +kernel)
      · have hj : j < 3 := hj
        rcases (show j = 0 ∨ j = 1 ∨ j = 2 by omega) with rfl | rfl | rfl <;> exact hs _ (by decide +kernel)
      · have hj : j < 4 := hj
        rcases (show j = 0 ∨ j = 1 ∨ j = 2 ∨ j = 3 by omega) with rfl | rfl | rfl | rfl <;> exact hs _ (by decide +kernel)
      · have hj : j < 4 := hj
        rcases (show j = 0 ∨ j = 1 ∨ j = 2 ∨ j = 3 by omega) with rfl | rfl | rfl | rfl <;> exact hs _ (by decide +kernel)
      · have hj : j < 4 := hj
        rcases (show j = 0 ∨ j = 1 ∨ j = 2 ∨ j = 3 by omega) with rfl | rfl | rfl | rfl <;> exact hs _ (by decide +kernel)
      · have hj : j < 4 := hj
        rcases (show j = 0 ∨ j = 1 ∨ j = 2 ∨ j = 3 by omega) with rfl | rfl | rfl | rfl <;> exact hs _ (by decide +kernel)
      · have hj : j < 1 := hj
        obtain rfl : j = 0 := by omega
        exact hs _ (by decide +kernel)
      )
    (fun i j hi hj hij => by
      rcases (show i = 0 ∨ i = 1 ∨ i = 2 ∨ i = 3 ∨ i = 4 ∨ i = 5 ∨ i = 6 by omega) with rfl | rfl | rfl | rfl | rfl | rfl | rfl <;> rcases (show j = 0 ∨ j = 1 ∨ j = 2 ∨ j = 3 ∨ j = 4 ∨ j = 5 ∨ j = 6 by omega) with rfl | rfl | rfl | rfl | rfl | rfl | rfl <;> first | exact absurd rfl hij | exact Or.inl (hs _ (by decide +kernel)) | exact Or.inr (hs _ (by decide +kernel)))
    hA
  refine ⟨adK, adV, fun D cI => ⟨?_, ?_, h1, ?_, ?_⟩⟩
  · intro q hq
    simp only [nwL, List.mem_cons, List.not_mem_nil, or_false] at hq
    rcases hq with rfl | rfl | rfl | rfl | rfl | rfl | rfl | rfl
    · exact va_Nw.of rfl (hts _ nsL_0)
    · exact va_Nw.of rfl (hts _ nsL_1)
    · exact va_Nw.of rfl (hts _ nsL_2)
    · exact va_Nw.of rfl (hts _ nsL_3)
    · exact va_Nw.of rfl (hts _ nsL_4)
    · exact va_Nw.of rfl (hts _ nsL_5)
    · exact va_Nw.of rfl (hts _ nsL_6)
    · exact va_Nw.of rfl (hts _ nsL_7)
  · intro i q hq
    have hi : i < 7 := (List.getElem?_eq_some_iff.mp hq).1
    rcases (show i = 0 ∨ i = 1 ∨ i = 2 ∨ i = 3 ∨ i = 4 ∨ i = 5 ∨ i = 6 by omega) with rfl | rfl | rfl | rfl | rfl | rfl | rfl
    · cases hq; exact vk_R.of (hts _ srL_0) (h2 0 (by omega))
    · cases hq; exact vk_R.of (hts _ srL_1) (h2 1 (by omega))
    · cases hq; exact vk_R.of (hts _ srL_2) (h2 2 (by omega))
    · cases hq; exact vk_R.of (hts _ srL_3) (h2 3 (by omega))
    · cases hq; exact vk_R.of (hts _ srL_4) (h2 4 (by omega))
    · cases hq; exact vk_R.of (hts _ srL_5) (h2 5 (by omega))
    · cases hq; exact vk_R.of (hts _ srL_6) (h2 6 (by omega))
  · exact va_Zof (hts _ lsL_0) (hts _ inL_0) (va_eqt (hs _ (by decide +kernel))) hA
  · exact va_Zqof (hts _ lsL_1) (hts _ inL_1) (hs _ (by decide +kernel)) hA
set_option maxHeartbeats 16000000 in
set_option maxRecDepth 100000 in
/-- THE LAW, from its entry, for any invariant that holds at first and that the calls keep -/
theorem law_whole (Inv : (Nat → Int32) → (Nat → Nat → Int32) → (Nat → Int32) → (Nat → Nat → Int32) → Prop) (hops : OpsOk Inv) (hI0 : Inv E_0 F_0 M_0 N_0) {p : Program} {e : Env} {s : State} {m : MethodId} {below : List Frame} {meth : Method} {c : Code} (l : Launch) {b L : Nat} {xs : Nat → Int32} (hL : L ≤ 3584) (C0 : lw_At p s m meth c b L xs) : W p l e room_1 s m #[Value.ref b] below meth c s.heap [] 0 0 (lw_Z below #[Value.ref b] s) (entryFrame m ([Value.ref b] : List Value).toArray 4) := by
  obtain ⟨hx, hb, hr, hml, hown, hts, hX, hbl, hlocks, hgv⟩ := id C0
  obtain ⟨adK, adV, hZ0⟩ := law_zs hts hgv
  obtain ⟨c0, iS0, hKn0⟩ := u_known (C := RX0) (T := TX0) (N := 13) (n := 13) hts inX0 (hts _ isL_X0)
  obtain ⟨c1, iS1, hKn1⟩ := u_known (C := RX1) (T := TX1) (N := 3) (n := 3) hts inX1 (hts _ isL_X1)
  obtain ⟨c2, iS2, hKn2⟩ := u_known (C := RX2) (T := TX2) (N := 7) (n := 7) hts inX2 (hts _ isL_X2)
  obtain ⟨c3, iS3, hKn3⟩ := u_known (C := RX3) (T := TX3) (N := 11) (n := 11) hts inX3 (hts _ isL_X3)
  obtain ⟨c4, iS4, hKn4⟩ := u_known (C := RX4) (T := TX4) (N := 4) (n := 4) hts inX4 (hts _ isL_X4)
  obtain ⟨c5, iS5, hKn5⟩ := u_known (C := RX5) (T := TX5) (N := 4) (n := 4) hts inX5 (hts _ isL_X5)
  obtain ⟨c6, iS6, hKn6⟩ := u_known (C := RX6) (T := TX6) (N := 8) (n := 8) hts inX6 (hts _ isL_X6)
  obtain ⟨c7, iS7, hKn7⟩ := u_known (C := RX7) (T := TX7) (N := 28) (n := 28) hts inX7 (hts _ isL_X7)
  obtain ⟨dC, dI, hKc⟩ : ∃ (dC : Nat → ClassId) (dI : Nat → Nat → Nat), ∀ (k : Nat) (q : vw_C), vwCl[k]? = some q → u_Kn s q.1 q.2.1 q.2.2 (dC k) (dI k) := by
    refine ⟨fun k => match k with | 0 => c0 | 1 => c1 | 2 => c2 | 3 => c3 | 4 => c4 | 5 => c5 | 6 => c6 | _ => c7, fun k => match k with | 0 => iS0 | 1 => iS1 | 2 => iS2 | 3 => iS3 | 4 => iS4 | 5 => iS5 | 6 => iS6 | _ => iS7, ?_⟩
    intro k q hq
    match k, hq with
    | 0, hq => cases hq; exact hKn0
    | 1, hq => cases hq; exact hKn1
    | 2, hq => cases hq; exact hKn2
    | 3, hq => cases hq; exact hKn3
    | 4, hq => cases hq; exact hKn4
    | 5, hq => cases hq; exact hKn5
    | 6, hq => cases hq; exact hKn6
    | 7, hq => cases hq; exact hKn7
    | k + 8, hq => simp [vwCl] at hq
  obtain ⟨cI, kA, comp, hfind, hk, hkind⟩ := Cond.arrayClass_spec (hts _ acL)
  have hK : va_K (dC, dI) vwCl [(cI, .int)] s := ⟨hKc, fun k q h => by
    cases k with
    | zero => cases h; exact ⟨fun n z => ⟨fun k h => (by cases h), kA, hk, comp, hkind⟩, hfind⟩
    | succ k => simp at h⟩
  have hA : ∀ q : Nat, s.heap.size ≤ q → (fun q : Nat => s.heap.size ≤ q) q := fun _ h => h
  obtain ⟨G, hG⟩ : ∃ G : Gt, G = ((dC, dI), cI, adK, adV) := ⟨_, rfl⟩
  have hW : Wo G (fun q : Nat => s.heap.size ≤ q) s [] s.heap [] := by
    rw [hG]
    exact ⟨hK, fun k q h => by simp at h, ⟨fun i j p q h => by simp at h, fun k q h => by simp at h⟩, va_S.rf, hA, hZ0 _ _⟩
  have X : Bx p s m #[Value.ref b] meth c code 4 lw_tbl RL ret := ⟨⟨hx, hb, hml, hown, hts⟩, hr, hlocks⟩
  have hl := lv_entry ([.ref b]) (n := 4) (Nat.le_of_ble_eq_true rfl)
  rw [lg_entry_eq]
  generalize (lg_sl ([.ref b]) ++ List.replicate (4 - (lg_sl ([.ref b])).length) Slot.unset).toArray = ls at hl ⊢
  have hl : lv_has ls 4 [(0, .ref b)] := hl
  refine g_new X hW nwL_X6 ⟨by decide, by decide⟩ dL_law_0 (fun q0 H hW => ?_)
  have hW : Wo G (fun q : Nat => s.heap.size ≤ q) s [(q0, .inr (6, [.null, .null, .null, .null, .null, .null, .int 0, .int 0]))] H _ := hW
  refine lv_dup hx hb dL_law_3 rfl ?_
  refine g_cc X hW (As := []) ckL_X6_init (knX6_init (l := l) G q0) ⟨rfl, rfl, by decide, by decide⟩ 0 rfl rfl rfl hl.1 (Nat.le_of_ble_eq_true rfl) ⟨by decide, by decide⟩ dL_law_4 (fun u4 H locs hW => ?_)
  have hW : Wo G (fun q : Nat => s.heap.size ≤ q) s [(q0, .inr (6, [.ref (u4 0), .ref (u4 19), .ref (u4 38), .ref (u4 40), .ref (u4 42), .ref (u4 51), .int (0 : Int32), .int (0 : Int32)])), ((u4 0), .inr (0, [.ref (u4 1), .ref (u4 3), .ref (u4 5), .ref (u4 7), .ref (u4 9), .ref (u4 11), .ref (u4 13), .ref (u4 15), .ref (u4 17), .int (0 : Int32), .int (100 : Int32), .int (5 : Int32), .int (2 : Int32)])), ((u4 1), .inr (4, [.ref (u4 2), .int (9 : Int32), .int (24 : Int32), .int (0 : Int32)])), ((u4 2), .inl (G.2.1, 216, .inl (fun _ => (0 : Int32)))), ((u4 3), .inr (4, [.ref (u4 4), .int (5 : Int32), .int (60 : Int32), .int (0 : Int32)])), ((u4 4), .inl (G.2.1, 300, .inl (fun _ => (0 : Int32)))), ((u4 5), .inr (4, [.ref (u4 6), .int (2 : Int32), .int (30 : Int32), .int (30 : Int32)])), ((u4 6), .inl (G.2.1, 60, .inl (fun _ => (0 : Int32)))), ((u4 7), .inr (4, [.ref (u4 8), .int (5 : Int32), .int (10 : Int32), .int (0 : Int32)])), ((u4 8), .inl (G.2.1, 50, .inl (fun _ => (0 : Int32)))), ((u4 9), .inr (4, [.ref (u4 10), .int (5 : Int32), .int (7 : Int32), .int (0 : Int32)])), ((u4 10), .inl (G.2.1, 35, .inl (fun _ => (0 : Int32)))), ((u4 11), .inr (4, [.ref (u4 12), .int (5 : Int32), .int (7 : Int32), .int (0 : Int32)])), ((u4 12), .inl (G.2.1, 35, .inl (fun _ => (0 : Int32)))), ((u4 13), .inr (4, [.ref (u4 14), .int (4 : Int32), .int (4 : Int32), .int (4 : Int32)])), ((u4 14), .inl (G.2.1, 16, .inl (fun _ => (0 : Int32)))), ((u4 15), .inr (4, [.ref (u4 16), .int (17 : Int32), .int (3 : Int32), .int (3 : Int32)])), ((u4 16), .inl (G.2.1, 51, .inl (fun _ => (0 : Int32)))), ((u4 17), .inr (4, [.ref (u4 18), .int (6 : Int32), .int (40 : Int32), .int (0 : Int32)])), ((u4 18), .inl (G.2.1, 240, .inl (fun _ => (0 : Int32)))), ((u4 19), .inr (0, [.ref (u4 20), .ref (u4 22), .ref (u4 24), .ref (u4 26), .ref (u4 28), .ref (u4 30), .ref (u4 32), .ref (u4 34), .ref (u4 36), .int (0 : Int32), .int (100 : Int32), .int (5 : Int32), .int (2 : Int32)])), ((u4 20), .inr (4, [.ref (u4 21), .int (9 : Int32), .int (24 : Int32), .int (0 : Int32)])), ((u4 21), .inl (G.2.1, 216, .inl (fun _ => (0 : Int32)))), ((u4 22), .inr (4, [.ref (u4 23), .int (5 : Int32), .int (60 : Int32), .int (0 : Int32)])), ((u4 23), .inl (G.2.1, 300, .inl (fun _ => (0 : Int32)))), ((u4 24), .inr (4, [.ref (u4 25), .int (2 : Int32), .int (30 : Int32), .int (30 : Int32)])), ((u4 25), .inl (G.2.1, 60, .inl (fun _ => (0 : Int32)))), ((u4 26), .inr (4, [.ref (u4 27), .int (5 : Int32), .int (10 : Int32), .int (0 : Int32)])), ((u4 27), .inl (G.2.1, 50, .inl (fun _ => (0 : Int32)))), ((u4 28), .inr (4, [.ref (u4 29), .int (5 : Int32), .int (7 : Int32), .int (0 : Int32)])), ((u4 29), .inl (G.2.1, 35, .inl (fun _ => (0 : Int32)))), ((u4 30), .inr (4, [.ref (u4 31), .int (5 : Int32), .int (7 : Int32), .int (0 : Int32)])), ((u4 31), .inl (G.2.1, 35, .inl (fun _ => (0 : Int32)))), ((u4 32), .inr (4, [.ref (u4 33), .int (4 : Int32), .int (4 : Int32), .int (4 : Int32)])), ((u4 33), .inl (G.2.1, 16, .inl (fun _ => (0 : Int32)))), ((u4 34), .inr (4, [.ref (u4 35), .int (17 : Int32), .int (3 : Int32), .int (3 : Int32)])), ((u4 35), .inl (G.2.1, 51, .inl (fun _ => (0 : Int32)))), ((u4 36), .inr (4, [.ref (u4 37), .int (6 : Int32), .int (40 : Int32), .int (0 : Int32)])), ((u4 37), .inl (G.2.1, 240, .inl (fun _ => (0 : Int32)))), ((u4 38), .inr (5, [.ref (u4 39), .int 0, .int 0, .int 0])), ((u4 39), .inl (G.2.1, 120, .inl (fun _ => (0 : Int32)))), ((u4 40), .inr (1, [.ref (u4 41), .int 0, .int 0])), ((u4 41), .inl (G.2.1, 16, .inl (fun _ => (0 : Int32)))), ((u4 42), .inr (3, [.ref (u4 43), .ref (u4 44), .ref (u4 45), .ref (u4 46), .ref (u4 47), .ref (u4 48), .ref (u4 49), .ref (u4 50), .int 0, .int 0, .int 0])), ((u4 43), .inl (G.2.1, 148, .inl (fun _ => (0 : Int32)))), ((u4 44), .inl (G.2.1, 148, .inl (fun _ => (0 : Int32)))), ((u4 45), .inl (G.2.1, 148, .inl (fun _ => (0 : Int32)))), ((u4 46), .inl (G.2.1, 148, .inl (fun _ => (0 : Int32)))), ((u4 47), .inl (G.2.1, 30, .inl (fun _ => (0 : Int32)))), ((u4 48), .inl (G.2.1, 30, .inl (fun _ => (0 : Int32)))), ((u4 49), .inl (G.2.1, 30, .inl (fun _ => (0 : Int32)))), ((u4 50), .inl (G.2.1, 30, .inl (fun _ => (0 : Int32)))), ((u4 51), .inr (2, [.ref (u4 52), .ref (u4 53), .ref (u4 54), .int 0, .int 0, .int 0, .int 0])), ((u4 52), .inl (G.2.1, 49, .inl (fun _ => (0 : Int32)))), ((u4 53), .inl (G.2.1, 1024, .inl (fun _ => (0 : Int32)))), ((u4 54), .inl (G.2.1, 7, .inl (fun _ => (0 : Int32))))] H locs := hW
  refine lv_astore_n (lv' := [(1, .ref q0), (0, .ref b)]) hx hb dL_law_7 rfl hl (by decide) rfl (fun ls hl => ?_)
  refine g_new X hW nwL_X7 ⟨by decide, by decide⟩ dL_law_8 (fun q8 H hW => ?_)
  have hW : Wo G (fun q : Nat => s.heap.size ≤ q) s [(q0, .inr (6, [.ref (u4 0), .ref (u4 19), .ref (u4 38), .ref (u4 40), .ref (u4 42), .ref (u4 51), .int (0 : Int32), .int (0 : Int32)])), ((u4 0), .inr (0, [.ref (u4 1), .ref (u4 3), .ref (u4 5), .ref (u4 7), .ref (u4 9), .ref (u4 11), .ref (u4 13), .ref (u4 15), .ref (u4 17), .int (0 : Int32), .int (100 : Int32), .int (5 : Int32), .int (2 : Int32)])), ((u4 1), .inr (4, [.ref (u4 2), .int (9 : Int32), .int (24 : Int32), .int (0 : Int32)])), ((u4 2), .inl (G.2.1, 216, .inl (fun _ => (0 : Int32)))), ((u4 3), .inr (4, [.ref (u4 4), .int (5 : Int32), .int (60 : Int32), .int (0 : Int32)])), ((u4 4), .inl (G.2.1, 300, .inl (fun _ => (0 : Int32)))), ((u4 5), .inr (4, [.ref (u4 6), .int (2 : Int32), .int (30 : Int32), .int (30 : Int32)])), ((u4 6), .inl (G.2.1, 60, .inl (fun _ => (0 : Int32)))), ((u4 7), .inr (4, [.ref (u4 8), .int (5 : Int32), .int (10 : Int32), .int (0 : Int32)])), ((u4 8), .inl (G.2.1, 50, .inl (fun _ => (0 : Int32)))), ((u4 9), .inr (4, [.ref (u4 10), .int (5 : Int32), .int (7 : Int32), .int (0 : Int32)])), ((u4 10), .inl (G.2.1, 35, .inl (fun _ => (0 : Int32)))), ((u4 11), .inr (4, [.ref (u4 12), .int (5 : Int32), .int (7 : Int32), .int (0 : Int32)])), ((u4 12), .inl (G.2.1, 35, .inl (fun _ => (0 : Int32)))), ((u4 13), .inr (4, [.ref (u4 14), .int (4 : Int32), .int (4 : Int32), .int (4 : Int32)])), ((u4 14), .inl (G.2.1, 16, .inl (fun _ => (0 : Int32)))), ((u4 15), .inr (4, [.ref (u4 16), .int (17 : Int32), .int (3 : Int32), .int (3 : Int32)])), ((u4 16), .inl (G.2.1, 51, .inl (fun _ => (0 : Int32)))), ((u4 17), .inr (4, [.ref (u4 18), .int (6 : Int32), .int (40 : Int32), .int (0 : Int32)])), ((u4 18), .inl (G.2.1, 240, .inl (fun _ => (0 : Int32)))), ((u4 19), .inr (0, [.ref (u4 20), .ref (u4 22), .ref (u4 24), .ref (u4 26), .ref (u4 28), .ref (u4 30), .ref (u4 32), .ref (u4 34), .ref (u4 36), .int (0 : Int32), .int (100 : Int32), .int (5 : Int32), .int (2 : Int32)])), ((u4 20), .inr (4, [.ref (u4 21), .int (9 : Int32), .int (24 : Int32), .int (0 : Int32)])), ((u4 21), .inl (G.2.1, 216, .inl (fun _ => (0 : Int32)))), ((u4 22), .inr (4, [.ref (u4 23), .int (5 : Int32), .int (60 : Int32), .int (0 : Int32)])), ((u4 23), .inl (G.2.1, 300, .inl (fun _ => (0 : Int32)))), ((u4 24), .inr (4, [.ref (u4 25), .int (2 : Int32), .int (30 : Int32), .int (30 : Int32)])), ((u4 25), .inl (G.2.1, 60, .inl (fun _ => (0 : Int32)))), ((u4 26), .inr (4, [.ref (u4 27), .int (5 : Int32), .int (10 : Int32), .int (0 : Int32)])), ((u4 27), .inl (G.2.1, 50, .inl (fun _ => (0 : Int32)))), ((u4 28), .inr (4, [.ref (u4 29), .int (5 : Int32), .int (7 : Int32), .int (0 : Int32)])), ((u4 29), .inl (G.2.1, 35, .inl (fun _ => (0 : Int32)))), ((u4 30), .inr (4, [.ref (u4 31), .int (5 : Int32), .int (7 : Int32), .int (0 : Int32)])), ((u4 31), .inl (G.2.1, 35, .inl (fun _ => (0 : Int32)))), ((u4 32), .inr (4, [.ref (u4 33), .int (4 : Int32), .int (4 : Int32), .int (4 : Int32)])), ((u4 33), .inl (G.2.1, 16, .inl (fun _ => (0 : Int32)))), ((u4 34), .inr (4, [.ref (u4 35), .int (17 : Int32), .int (3 : Int32), .int (3 : Int32)])), ((u4 35), .inl (G.2.1, 51, .inl (fun _ => (0 : Int32)))), ((u4 36), .inr (4, [.ref (u4 37), .int (6 : Int32), .int (40 : Int32), .int (0 : Int32)])), ((u4 37), .inl (G.2.1, 240, .inl (fun _ => (0 : Int32)))), ((u4 38), .inr (5, [.ref (u4 39), .int 0, .int 0, .int 0])), ((u4 39), .inl (G.2.1, 120, .inl (fun _ => (0 : Int32)))), ((u4 40), .inr (1, [.ref (u4 41), .int 0, .int 0])), ((u4 41), .inl (G.2.1, 16, .inl (fun _ => (0 : Int32)))), ((u4 42), .inr (3, [.ref (u4 43), .ref (u4 44), .ref (u4 45), .ref (u4 46), .ref (u4 47), .ref (u4 48), .ref (u4 49), .ref (u4 50), .int 0, .int 0, .int 0])), ((u4 43), .inl (G.2.1, 148, .inl (fun _ => (0 : Int32)))), ((u4 44), .inl (G.2.1, 148, .inl (fun _ => (0 : Int32)))), ((u4 45), .inl (G.2.1, 148, .inl (fun _ => (0 : Int32)))), ((u4 46), .inl (G.2.1, 148, .inl (fun _ => (0 : Int32)))), ((u4 47), .inl (G.2.1, 30, .inl (fun _ => (0 : Int32)))), ((u4 48), .inl (G.2.1, 30, .inl (fun _ => (0 : Int32)))), ((u4 49), .inl (G.2.1, 30, .inl (fun _ => (0 : Int32)))), ((u4 50), .inl (G.2.1, 30, .inl (fun _ => (0 : Int32)))), ((u4 51), .inr (2, [.ref (u4 52), .ref (u4 53), .ref (u4 54), .int 0, .int 0, .int 0, .int 0])), ((u4 52), .inl (G.2.1, 49, .inl (fun _ => (0 : Int32)))), ((u4 53), .inl (G.2.1, 1024, .inl (fun _ => (0 : Int32)))), ((u4 54), .inl (G.2.1, 7, .inl (fun _ => (0 : Int32)))), (q8, .inr (7, [.null, .null, .null, .null, .null, .null, .null, .null, .null, .null, .null, .null, .null, .int 0, .null, .null, .null, .null, .int 0, .int 0, .int 0, .int 0, .int 0, .int 0, .int 0, .int 0, .null, .int 0]))] H _ := hW
  refine lv_dup hx hb dL_law_11 rfl ?_
  refine g_cc X hW (As := []) ckL_X7_init (knX7_init (l := l) G q8) ⟨rfl, rfl, by decide, by decide⟩ 56 rfl rfl rfl hl.1 (Nat.le_of_ble_eq_true rfl) ⟨by decide, by decide⟩ dL_law_12 (fun u12 H locs hW => ?_)
  have hW : Wo G (fun q : Nat => s.heap.size ≤ q) s [(q0, .inr (6, [.ref (u4 0), .ref (u4 19), .ref (u4 38), .ref (u4 40), .ref (u4 42), .ref (u4 51), .int (0 : Int32), .int (0 : Int32)])), ((u4 0), .inr (0, [.ref (u4 1), .ref (u4 3), .ref (u4 5), .ref (u4 7), .ref (u4 9), .ref (u4 11), .ref (u4 13), .ref (u4 15), .ref (u4 17), .int (0 : Int32), .int (100 : Int32), .int (5 : Int32), .int (2 : Int32)])), ((u4 1), .inr (4, [.ref (u4 2), .int (9 : Int32), .int (24 : Int32), .int (0 : Int32)])), ((u4 2), .inl (G.2.1, 216, .inl (fun _ => (0 : Int32)))), ((u4 3), .inr (4, [.ref (u4 4), .int (5 : Int32), .int (60 : Int32), .int (0 : Int32)])), ((u4 4), .inl (G.2.1, 300, .inl (fun _ => (0 : Int32)))), ((u4 5), .inr (4, [.ref (u4 6), .int (2 : Int32), .int (30 : Int32), .int (30 : Int32)])), ((u4 6), .inl (G.2.1, 60, .inl (fun _ => (0 : Int32)))), ((u4 7), .inr (4, [.ref (u4 8), .int (5 : Int32), .int (10 : Int32), .int (0 : Int32)])), ((u4 8), .inl (G.2.1, 50, .inl (fun _ => (0 : Int32)))), ((u4 9), .inr (4, [.ref (u4 10), .int (5 : Int32), .int (7 : Int32), .int (0 : Int32)])), ((u4 10), .inl (G.2.1, 35, .inl (fun _ => (0 : Int32)))), ((u4 11), .inr (4, [.ref (u4 12), .int (5 : Int32), .int (7 : Int32), .int (0 : Int32)])), ((u4 12), .inl (G.2.1, 35, .inl (fun _ => (0 : Int32)))), ((u4 13), .inr (4, [.ref (u4 14), .int (4 : Int32), .int (4 : Int32), .int (4 : Int32)])), ((u4 14), .inl (G.2.1, 16, .inl (fun _ => (0 : Int32)))), ((u4 15), .inr (4, [.ref (u4 16), .int (17 : Int32), .int (3 : Int32), .int (3 : Int32)])), ((u4 16), .inl (G.2.1, 51, .inl (fun _ => (0 : Int32)))), ((u4 17), .inr (4, [.ref (u4 18), .int (6 : Int32), .int (40 : Int32), .int (0 : Int32)])), ((u4 18), .inl (G.2.1, 240, .inl (fun _ => (0 : Int32)))), ((u4 19), .inr (0, [.ref (u4 20), .ref (u4 22), .ref (u4 24), .ref (u4 26), .ref (u4 28), .ref (u4 30), .ref (u4 32), .ref (u4 34), .ref (u4 36), .int (0 : Int32), .int (100 : Int32), .int (5 : Int32), .int (2 : Int32)])), ((u4 20), .inr (4, [.ref (u4 21), .int (9 : Int32), .int (24 : Int32), .int (0 : Int32)])), ((u4 21), .inl (G.2.1, 216, .inl (fun _ => (0 : Int32)))), ((u4 22), .inr (4, [.ref (u4 23), .int (5 : Int32), .int (60 : Int32), .int (0 : Int32)])), ((u4 23), .inl (G.2.1, 300, .inl (fun _ => (0 : Int32)))), ((u4 24), .inr (4, [.ref (u4 25), .int (2 : Int32), .int (30 : Int32), .int (30 : Int32)])), ((u4 25), .inl (G.2.1, 60, .inl (fun _ => (0 : Int32)))), ((u4 26), .inr (4, [.ref (u4 27), .int (5 : Int32), .int (10 : Int32), .int (0 : Int32)])), ((u4 27), .inl (G.2.1, 50, .inl (fun _ => (0 : Int32)))), ((u4 28), .inr (4, [.ref (u4 29), .int (5 : Int32), .int (7 : Int32), .int (0 : Int32)])), ((u4 29), .inl (G.2.1, 35, .inl (fun _ => (0 : Int32)))), ((u4 30), .inr (4, [.ref (u4 31), .int (5 : Int32), .int (7 : Int32), .int (0 : Int32)])), ((u4 31), .inl (G.2.1, 35, .inl (fun _ => (0 : Int32)))), ((u4 32), .inr (4, [.ref (u4 33), .int (4 : Int32), .int (4 : Int32), .int (4 : Int32)])), ((u4 33), .inl (G.2.1, 16, .inl (fun _ => (0 : Int32)))), ((u4 34), .inr (4, [.ref (u4 35), .int (17 : Int32), .int (3 : Int32), .int (3 : Int32)])), ((u4 35), .inl (G.2.1, 51, .inl (fun _ => (0 : Int32)))), ((u4 36), .inr (4, [.ref (u4 37), .int (6 : Int32), .int (40 : Int32), .int (0 : Int32)])), ((u4 37), .inl (G.2.1, 240, .inl (fun _ => (0 : Int32)))), ((u4 38), .inr (5, [.ref (u4 39), .int 0, .int 0, .int 0])), ((u4 39), .inl (G.2.1, 120, .inl (fun _ => (0 : Int32)))), ((u4 40), .inr (1, [.ref (u4 41), .int 0, .int 0])), ((u4 41), .inl (G.2.1, 16, .inl (fun _ => (0 : Int32)))), ((u4 42), .inr (3, [.ref (u4 43), .ref (u4 44), .ref (u4 45), .ref (u4 46), .ref (u4 47), .ref (u4 48), .ref (u4 49), .ref (u4 50), .int 0, .int 0, .int 0])), ((u4 43), .inl (G.2.1, 148, .inl (fun _ => (0 : Int32)))), ((u4 44), .inl (G.2.1, 148, .inl (fun _ => (0 : Int32)))), ((u4 45), .inl (G.2.1, 148, .inl (fun _ => (0 : Int32)))), ((u4 46), .inl (G.2.1, 148, .inl (fun _ => (0 : Int32)))), ((u4 47), .inl (G.2.1, 30, .inl (fun _ => (0 : Int32)))), ((u4 48), .inl (G.2.1, 30, .inl (fun _ => (0 : Int32)))), ((u4 49), .inl (G.2.1, 30, .inl (fun _ => (0 : Int32)))), ((u4 50), .inl (G.2.1, 30, .inl (fun _ => (0 : Int32)))), ((u4 51), .inr (2, [.ref (u4 52), .ref (u4 53), .ref (u4 54), .int 0, .int 0, .int 0, .int 0])), ((u4 52), .inl (G.2.1, 49, .inl (fun _ => (0 : Int32)))), ((u4 53), .inl (G.2.1, 1024, .inl (fun _ => (0 : Int32)))), ((u4 54), .inl (G.2.1, 7, .inl (fun _ => (0 : Int32)))), (q8, .inr (7, [.ref (u12 0), .ref (u12 1), .ref (u12 2), .ref (u12 3), .ref (u12 4), .ref (u12 5), .ref (u12 6), .ref (u12 7), .ref (u12 8), .ref (u12 9), .ref (u12 10), .ref (u12 11), .ref (u12 12), .int 0, .ref (u12 13), .ref (u12 14), .ref (u12 15), .ref (u12 16), .int 0, .int 0, .int 0, .int 0, .int 0, .int 0, .int 0, .int 0, .ref (u12 17), .int 0])), ((u12 0), .inl (G.2.1, 10, .inl (upd (upd (upd (upd (upd (upd (upd (upd (upd (upd (fun _ => (0 : Int32)) (0 : Int32).toNatClampNeg (0 : Int32)) (1 : Int32).toNatClampNeg (0 : Int32)) (2 : Int32).toNatClampNeg (0 : Int32)) (3 : Int32).toNatClampNeg (0 : Int32)) (4 : Int32).toNatClampNeg (0 : Int32)) (5 : Int32).toNatClampNeg (0 : Int32)) (6 : Int32).toNatClampNeg (0 : Int32)) (7 : Int32).toNatClampNeg (5 : Int32)) (8 : Int32).toNatClampNeg (2 : Int32)) (9 : Int32).toNatClampNeg (100 : Int32)))), ((u12 1), .inl (G.2.1, 216, .inl (fun _ => (0 : Int32)))), ((u12 2), .inl (G.2.1, 300, .inl (fun _ => (0 : Int32)))), ((u12 3), .inl (G.2.1, 60, .inl (fun _ => (0 : Int32)))), ((u12 4), .inl (G.2.1, 50, .inl (fun _ => (0 : Int32)))), ((u12 5), .inl (G.2.1, 70, .inl (fun _ => (0 : Int32)))), ((u12 6), .inl (G.2.1, 16, .inl (fun _ => (0 : Int32)))), ((u12 7), .inl (G.2.1, 68, .inl (fun _ => (0 : Int32)))), ((u12 8), .inl (G.2.1, 240, .inl (fun _ => (0 : Int32)))), ((u12 9), .inl (G.2.1, 300, .inl (fun _ => (0 : Int32)))), ((u12 10), .inl (G.2.1, 300, .inl (fun _ => (0 : Int32)))), ((u12 11), .inl (G.2.1, 300, .inl (fun _ => (0 : Int32)))), ((u12 12), .inl (G.2.1, 300, .inl (fun _ => (0 : Int32)))), ((u12 13), .inl (G.2.1, 32, .inl (fun _ => (0 : Int32)))), ((u12 14), .inl (G.2.1, 32, .inl (fun _ => (0 : Int32)))), ((u12 15), .inl (G.2.1, 1024, .inl (fun _ => (0 : Int32)))), ((u12 16), .inl (G.2.1, 120, .inl (fun _ => (0 : Int32)))), ((u12 17), .inl (G.2.1, 1030, .inl (fun _ => (0 : Int32))))] H locs := hW
  have hW : Wo G (fun q : Nat => s.heap.size ≤ q) s (lawW G (lawA q0 u4 q8 u12) E_0 F_0 M_0 N_0) H locs := hW
  refine lv_astore_n (lv' := [(2, .ref q8), (1, .ref q0), (0, .ref b)]) hx hb dL_law_15 rfl hl (by decide) rfl (fun ls hl => ?_)
  refine lv_iconst (v := 0) hx hb dL_law_16 (by decide) ?_
  refine lv_istore_n (lv' := [(3, .int 0), (2, .ref q8), (1, .ref q0), (0, .ref b)]) hx hb dL_law_17 rfl hl (by decide) rfl (fun ls hl => ?_)
  refine W.widen (k := 600000) (n := 7302250) (by decide) (by decide) ?_
  exact law_loop hL X hX hbl Inv hops (L + 8) 0 0 (by omega) (by omega) nI_0.symm E_0 F_0 M_0 N_0 hI0 H locs hW ls (lv_sub hl [3, 2, 1, 0] rfl)
