theorem qB_m3 : (Int8.ofInt (-3)).toInt32 = (-3 : Int32) := by decide
theorem qI_0 : Int32.ofInt (0) = (0 : Int32) := by decide
theorem qI_1 : Int32.ofInt (1) = (1 : Int32) := by decide
/-! EmptyBoxes$Table.holds -/
section MX4_holds
theorem hdX4_holds : yX4_holds.cls = RX4 ∧ yX4_holds.cls ≠ "java/lang/invoke/MethodHandle" ∧ yX4_holds.cls ≠ "java/lang/invoke/VarHandle" ∧ (parseMethodDescriptor yX4_holds.desc).map (fun d => d.parameters.length) = some 2 := by decide +kernel
abbrev wX4_holds (G : Gt) (a_tb a_tb_a : Nat) (tb_c : Int32) (tb_m : Int32) (tb_r : Int32) : va_W := [(a_tb, .inr (4, [.ref a_tb_a, .int tb_c, .int tb_m, .int tb_r]))]
abbrev rmX4_holds : Room := { frames := 0, cells := 0, slots := 0, locals := 0 }
theorem iX4_holds_X4 : ∀ w ∈ wsX40, w ∈ wsX4_holds := by decide +kernel
theorem eX4_holds_21 : Fk wsX4_holds RX4 21 4 1 := ⟨RX4, TX4, 4, rfl, iX4_holds_X4, by decide, by decide +kernel⟩
theorem eX4_holds_28 : Fk wsX4_holds RX4 28 4 3 := ⟨RX4, TX4, 4, rfl, iX4_holds_X4, by decide, by decide +kernel⟩
variable {p : Program} {l : Launch} {e : Env} {s : State} {m : MethodId} {args : Array Value} {below : List Frame} {meth : Method} {c : Code} {A : Nat → Prop} {G : Gt} {a_tb a_tb_a : Nat} {tb_c : Int32} {tb_m : Int32} {tb_r : Int32} {res : Int32}
set_option maxHeartbeats 4000000 in
set_option maxRecDepth 100000 in
theorem k0X4_holds {l : Launch} (G : Gt) (a_tb a_tb_a : Nat) (v1 : Int32) (v2 : Int32) (tb_c : Int32) (tb_m : Int32) (tb_r : Int32) {res : Int32} (h : fX4_holds v1 v2 tb_c tb_r = some res) : CtI G l yX4_holds wsX4_holds rmX4_holds [.ref a_tb, .int v1, .int v2] (wX4_holds G a_tb a_tb_a tb_c tb_m tb_r) res (wX4_holds G a_tb a_tb_a tb_c tb_m tb_r) := by
  refine CtI.mk (cc := cX4_holds) (maxL := 3) (ret := (some .boolean)) (own := RX4) (by decide) rfl rfl (Nat.le_of_ble_eq_true rfl) ?_
  intro p e s m below meth c A X ls hl hW
  obtain ⟨hx, hb, -⟩ := id X.1
  have hl : lv_has ls 3 [(0, .ref a_tb), (1, .int v1), (2, .int v2)] := hl
  generalize hH : s.heap = H at hW ⊢
  generalize hLo : ([] : List Loc) = locs at hW ⊢
  rw [fX4_holds] at h
  refine lv_iload_n hx hb dX4_holds_0 rfl (lv_at hl 1 rfl) ?_
  refine lv_if_lt (tgt := 28) hx hb dX4_holds_1 (by decide) (fun c2 => ?_) (fun c2 => ?_)
  · have h := (if_pos c2).symm.trans h
    refine lv_iconst hx hb dX4_holds_28 qI_0 ?_
    obtain rfl := Option.some.inj h
    exact g_zret X hW rfl dX4_holds_29
  · have h := (if_neg c2).symm.trans h
    refine lv_iload_n hx hb dX4_holds_4 rfl (lv_at hl 1 rfl) ?_
    refine lv_aload_n hx hb dX4_holds_5 rfl (lv_at hl 0 rfl) ?_
    refine g_get X hW eX4_holds_28 0 rfl rfl dX4_holds_6 ?_
    refine lv_icmp_ge (tgt := 28) hx hb dX4_holds_9 (by decide) (fun c8 => ?_) (fun c8 => ?_)
    · have h := (if_pos c8).symm.trans h
      refine lv_iconst hx hb dX4_holds_28 qI_0 ?_
      obtain rfl := Option.some.inj h
      exact g_zret X hW rfl dX4_holds_29
    · have h := (if_neg c8).symm.trans h
      refine lv_iload_n hx hb dX4_holds_12 rfl (lv_at hl 2 rfl) ?_
      refine lv_if_lt (tgt := 28) hx hb dX4_holds_13 (by decide) (fun c12 => ?_) (fun c12 => ?_)
      · have h := (if_pos c12).symm.trans h
        refine lv_iconst hx hb dX4_holds_28 qI_0 ?_
        obtain rfl := Option.some.inj h
        exact g_zret X hW rfl dX4_holds_29
      · have h := (if_neg c12).symm.trans h
        refine lv_iload_n hx hb dX4_holds_16 rfl (lv_at hl 2 rfl) ?_
        refine lv_aload_n hx hb dX4_holds_17 rfl (lv_at hl 0 rfl) ?_
        refine g_get X hW eX4_holds_21 0 rfl rfl dX4_holds_18 ?_
        refine lv_icmp_ge (tgt := 28) hx hb dX4_holds_21 (by decide) (fun c18 => ?_) (fun c18 => ?_)
        · have h := (if_pos c18).symm.trans h
          refine lv_iconst hx hb dX4_holds_28 qI_0 ?_
          obtain rfl := Option.some.inj h
          exact g_zret X hW rfl dX4_holds_29
        · have h := (if_neg c18).symm.trans h
          refine lv_iconst hx hb dX4_holds_24 qI_1 ?_
          refine lv_goto (tgt := 29) hx hb dX4_holds_25 (by decide) ?_
          obtain rfl := Option.some.inj h
          exact g_zret X hW rfl dX4_holds_29
theorem kcX4_holds {l : Launch} (G : Gt) (a_tb a_tb_a : Nat) (v1 : Int32) (v2 : Int32) (tb_c : Int32) (tb_m : Int32) (tb_r : Int32) {r : Int32}  (h : fX4_holds v1 v2 tb_c tb_r = some r) : CtI G l yX4_holds wsX4_holds rmX4_holds [.ref a_tb, .int v1, .int v2] (wX4_holds G a_tb a_tb_a tb_c tb_m tb_r) r (wX4_holds G a_tb a_tb_a tb_c tb_m tb_r) := k0X4_holds G a_tb a_tb_a v1 v2 tb_c tb_m tb_r h
end MX4_holds
/-! EmptyBoxes$Table.cell -/
section MX4_cell
theorem hdX4_cell : yX4_cell.cls = RX4 ∧ yX4_cell.cls ≠ "java/lang/invoke/MethodHandle" ∧ yX4_cell.cls ≠ "java/lang/invoke/VarHandle" ∧ (parseMethodDescriptor yX4_cell.desc).map (fun d => d.parameters.length) = some 2 := by decide +kernel
abbrev wX4_cell (G : Gt) (a_tb a_tb_a : Nat) (tb_c : Int32) (tb_m : Int32) (tb_r : Int32) (tb_n : Nat) (tb_f : (Nat → Int32)) : va_W := [(a_tb, .inr (4, [.ref a_tb_a, .int tb_c, .int tb_m, .int tb_r])), (a_tb_a, .inl (G.2.1, tb_n, .inl tb_f))]
abbrev rmX4_cell : Room := { frames := 1, cells := 0, slots := 0, locals := 22 }
theorem iX4_cell_X4 : ∀ w ∈ wsX40, w ∈ wsX4_cell := by decide +kernel
theorem eX4_cell_21 : Fk wsX4_cell RX4 21 4 1 := ⟨RX4, TX4, 4, rfl, iX4_cell_X4, by decide, by decide +kernel⟩
theorem eX4_cell_24 : Fk wsX4_cell RX4 24 4 0 := ⟨RX4, TX4, 4, rfl, iX4_cell_X4, by decide, by decide +kernel⟩
theorem ckX4_cell_X4_holds_31 : CkV wsX4_cell RX4 31 yX4_holds wsX4_holds cX4_holds 3 (some .boolean) 2 4 := ⟨RX4, TX4, 4, _, rfl, gX4_cell_X4_holds, rfl, hdX4_holds⟩
variable {p : Program} {l : Launch} {e : Env} {s : State} {m : MethodId} {args : Array Value} {below : List Frame} {meth : Method} {c : Code} {A : Nat → Prop} {G : Gt} {a_tb a_tb_a : Nat} {tb_c : Int32} {tb_m : Int32} {tb_r : Int32} {tb_n : Nat} {tb_f : (Nat → Int32)} {res : Int32}
set_option maxHeartbeats 4000000 in
set_option maxRecDepth 100000 in
theorem k0X4_cell {l : Launch} (G : Gt) (a_tb a_tb_a : Nat) (v1 : Int32) (v2 : Int32) (tb_c : Int32) (tb_m : Int32) (tb_r : Int32) (tb_n : Nat) (tb_f : (Nat → Int32)) {res : Int32} (h : fX4_cell v1 v2 tb_c tb_r tb_n tb_f = some res) : CtI G l yX4_cell wsX4_cell rmX4_cell [.ref a_tb, .int v1, .int v2] (wX4_cell G a_tb a_tb_a tb_c tb_m tb_r tb_n tb_f) res (wX4_cell G a_tb a_tb_a tb_c tb_m tb_r tb_n tb_f) := by
  refine CtI.mk (cc := cX4_cell) (maxL := 3) (ret := (some .int)) (own := RX4) (by decide) rfl rfl (Nat.le_of_ble_eq_true rfl) ?_
  intro p e s m below meth c A X ls hl hW
  obtain ⟨hx, hb, -⟩ := id X.1
  have hl : lv_has ls 3 [(0, .ref a_tb), (1, .int v1), (2, .int v2)] := hl
  generalize hH : s.heap = H at hW ⊢
  generalize hLo : ([] : List Loc) = locs at hW ⊢
  rw [fX4_cell] at h
  refine lv_aload_n hx hb dX4_cell_0 rfl (lv_at hl 0 rfl) ?_
  refine lv_iload_n hx hb dX4_cell_1 rfl (lv_at hl 1 rfl) ?_
  refine lv_iload_n hx hb dX4_cell_2 rfl (lv_at hl 2 rfl) ?_
  obtain ⟨r4, hq, h⟩ := bn1_some h
  refine g_cvi X hW (As := [.int v1, .int v2]) (ws' := (wX4_cell G a_tb a_tb_a tb_c tb_m tb_r tb_n tb_f)) ckX4_cell_X4_holds_31 (kcX4_holds (l := l) G a_tb a_tb_a v1 v2 tb_c tb_m tb_r hq) ⟨rfl, rfl, Nat.le_of_ble_eq_true rfl, Nat.le_of_ble_eq_true rfl⟩ [0] rfl rfl rfl rfl rfl rfl rfl hl.1 (Nat.le_of_ble_eq_true rfl) ⟨Nat.zero_le _, Nat.zero_le _⟩ dX4_cell_3 (fun H locs hW => ?_)
  refine lv_if_eq (tgt := 25) hx hb dX4_cell_6 (by decide) (fun c5 => ?_) (fun c5 => ?_)
  · have h := (if_pos c5).symm.trans h
    refine lv_bipush hx hb dX4_cell_25 qB_m3 ?_
    obtain rfl := Option.some.inj h
    exact g_iret X hW dX4_cell_27
  · have h := (if_neg c5).symm.trans h
    refine lv_aload_n hx hb dX4_cell_9 rfl (lv_at hl 0 rfl) ?_
    refine g_get X hW eX4_cell_24 0 rfl rfl dX4_cell_10 ?_
    refine lv_iload_n hx hb dX4_cell_13 rfl (lv_at hl 1 rfl) ?_
    refine lv_aload_n hx hb dX4_cell_14 rfl (lv_at hl 0 rfl) ?_
    refine g_get X hW eX4_cell_21 0 rfl rfl dX4_cell_15 ?_
    refine lv_imul hx hb dX4_cell_18 ?_
    refine lv_iload_n hx hb dX4_cell_19 rfl (lv_at hl 2 rfl) ?_
    refine lv_iadd hx hb dX4_cell_20 ?_
    obtain ⟨g16, h⟩ := gd_some h
    refine g_ald X hW 1 rfl g16 dX4_cell_21 ?_
    refine lv_goto (tgt := 27) hx hb dX4_cell_22 (by decide) ?_
    obtain rfl := Option.some.inj h
    exact g_iret X hW dX4_cell_27
theorem kcX4_cell {l : Launch} (G : Gt) (a_tb a_tb_a : Nat) (v1 : Int32) (v2 : Int32) (tb_c : Int32) (tb_m : Int32) (tb_r : Int32) (tb_n : Nat) (tb_f : (Nat → Int32)) {r : Int32}  (h : fX4_cell v1 v2 tb_c tb_r tb_n tb_f = some r) : CtI G l yX4_cell wsX4_cell rmX4_cell [.ref a_tb, .int v1, .int v2] (wX4_cell G a_tb a_tb_a tb_c tb_m tb_r tb_n tb_f) r (wX4_cell G a_tb a_tb_a tb_c tb_m tb_r tb_n tb_f) := k0X4_cell G a_tb a_tb_a v1 v2 tb_c tb_m tb_r tb_n tb_f h
end MX4_cell
/-! EmptyBoxes$Table.size -/
section MX4_size
theorem hdX4_size : yX4_size.cls = RX4 ∧ yX4_size.cls ≠ "java/lang/invoke/MethodHandle" ∧ yX4_size.cls ≠ "java/lang/invoke/VarHandle" ∧ (parseMethodDescriptor yX4_size.desc).map (fun d => d.parameters.length) = some 0 := by decide +kernel
abbrev wX4_size (G : Gt) (a_tb a_tb_a : Nat) (tb_c : Int32) (tb_m : Int32) (tb_r : Int32) : va_W := [(a_tb, .inr (4, [.ref a_tb_a, .int tb_c, .int tb_m, .int tb_r]))]
abbrev rmX4_size : Room := { frames := 0, cells := 0, slots := 0, locals := 0 }
theorem iX4_size_X4 : ∀ w ∈ wsX40, w ∈ wsX4_size := by decide +kernel
theorem eX4_size_28 : Fk wsX4_size RX4 28 4 3 := ⟨RX4, TX4, 4, rfl, iX4_size_X4, by decide, by decide +kernel⟩
variable {p : Program} {l : Launch} {e : Env} {s : State} {m : MethodId} {args : Array Value} {below : List Frame} {meth : Method} {c : Code} {A : Nat → Prop} {G : Gt} {a_tb a_tb_a : Nat} {tb_c : Int32} {tb_m : Int32} {tb_r : Int32} {res : Int32}
set_option maxHeartbeats 4000000 in
set_option maxRecDepth 100000 in
theorem k0X4_size {l : Launch} (G : Gt) (a_tb a_tb_a : Nat)  (tb_c : Int32) (tb_m : Int32) (tb_r : Int32) {res : Int32} (h : fX4_size tb_r = some res) : CtI G l yX4_size wsX4_size rmX4_size [.ref a_tb] (wX4_size G a_tb a_tb_a tb_c tb_m tb_r) res (wX4_size G a_tb a_tb_a tb_c tb_m tb_r) := by
  refine CtI.mk (cc := cX4_size) (maxL := 1) (ret := (some .int)) (own := RX4) (by decide) rfl rfl (Nat.le_of_ble_eq_true rfl) ?_
  intro p e s m below meth c A X ls hl hW
  obtain ⟨hx, hb, -⟩ := id X.1
  have hl : lv_has ls 1 [(0, .ref a_tb)] := hl
  generalize hH : s.heap = H at hW ⊢
  generalize hLo : ([] : List Loc) = locs at hW ⊢
  rw [fX4_size] at h
  refine lv_aload_n hx hb dX4_size_0 rfl (lv_at hl 0 rfl) ?_
  refine g_get X hW eX4_size_28 0 rfl rfl dX4_size_1 ?_
  obtain rfl := Option.some.inj h
  exact g_iret X hW dX4_size_4
theorem kcX4_size {l : Launch} (G : Gt) (a_tb a_tb_a : Nat)  (tb_c : Int32) (tb_m : Int32) (tb_r : Int32) {r : Int32}  (h : fX4_size tb_r = some r) : CtI G l yX4_size wsX4_size rmX4_size [.ref a_tb] (wX4_size G a_tb a_tb_a tb_c tb_m tb_r) r (wX4_size G a_tb a_tb_a tb_c tb_m tb_r) := k0X4_size G a_tb a_tb_a tb_c tb_m tb_r h
end MX4_size
/-! EmptyBoxes.boxOfMark -/
section MX6_boxOfMark
theorem hdX6_boxOfMark : yX6_boxOfMark.cls = RX6 ∧ yX6_boxOfMark.cls ≠ "java/lang/invoke/MethodHandle" ∧ yX6_boxOfMark.cls ≠ "java/lang/invoke/VarHandle" ∧ (parseMethodDescriptor yX6_boxOfMark.desc).map (fun d => d.parameters.length) = some 1 := by decide +kernel
abbrev wX6_boxOfMark (G : Gt) (a_eb a_desk a_desk_boxes a_desk_boxes_a a_kept a_tape a_text a_plan a_mat a_desk_words a_desk_weeks a_desk_routes a_desk_offers a_desk_wants a_desk_leaves a_desk_leases a_desk_uses : Nat) (isKept : Int32) (planStands : Int32) (today : Int32) (lack : Int32) (rate : Int32) (free : Int32) (boxes_r : Int32) (boxes_f : (Nat → Int32)) : va_W := [(a_eb, .inr (6, [.ref a_desk, .ref a_kept, .ref a_tape, .ref a_text, .ref a_plan, .ref a_mat, .int isKept, .int planStands])), (a_desk, .inr (0, [.ref a_desk_boxes, .ref a_desk_words, .ref a_desk_weeks, .ref a_desk_routes, .ref a_desk_offers, .ref a_desk_wants, .ref a_desk_leaves, .ref a_desk_leases, .ref a_desk_uses, .int today, .int lack, .int rate, .int free])), (a_desk_boxes, .inr (4, [.ref a_desk_boxes_a, .int (9 : Int32), .int (24 : Int32), .int boxes_r])), (a_desk_boxes_a, .inl (G.2.1, 216, .inl boxes_f))]
abbrev rmX6_boxOfMark : Room := { frames := 2, cells := 0, slots := 0, locals := 44 }
theorem iX6_boxOfMark_X0 : ∀ w ∈ wsX00, w ∈ wsX6_boxOfMark := by decide +kernel
theorem iX6_boxOfMark_X6 : ∀ w ∈ wsX60, w ∈ wsX6_boxOfMark := by decide +kernel
theorem eX6_boxOfMark_12 : Fk wsX6_boxOfMark RX6 12 6 0 := ⟨RX6, TX6, 8, rfl, iX6_boxOfMark_X6, by decide, by decide +kernel⟩
theorem eX6_boxOfMark_82 : Fk wsX6_boxOfMark RX6 82 0 0 := ⟨RX0, TX0, 13, rfl, iX6_boxOfMark_X0, by decide, by decide +kernel⟩
theorem ckX6_boxOfMark_X4_cell_113 : CkV wsX6_boxOfMark RX6 113 yX4_cell wsX4_cell cX4_cell 3 (some .int) 2 4 := ⟨RX4, TX4, 4, _, rfl, gX6_boxOfMark_X4_cell, rfl, hdX4_cell⟩
theorem ckX6_boxOfMark_X4_size_117 : CkV wsX6_boxOfMark RX6 117 yX4_size wsX4_size cX4_size 1 (some .int) 0 4 := ⟨RX4, TX4, 4, _, rfl, gX6_boxOfMark_X4_size, rfl, hdX4_size⟩
variable {p : Program} {l : Launch} {e : Env} {s : State} {m : MethodId} {args : Array Value} {below : List Frame} {meth : Method} {c : Code} {A : Nat → Prop} {G : Gt} {a_eb a_desk a_desk_boxes a_desk_boxes_a a_kept a_tape a_text a_plan a_mat a_desk_words a_desk_weeks a_desk_routes a_desk_offers a_desk_wants a_desk_leaves a_desk_leases a_desk_uses : Nat} {isKept : Int32} {planStands : Int32} {today : Int32} {lack : Int32} {rate : Int32} {free : Int32} {boxes_r : Int32} {boxes_f : (Nat → Int32)} {res : Int32}
set_option maxHeartbeats 4000000 in
set_option maxRecDepth 100000 in
theorem tX6_boxOfMark_2 (X : Bx p s m args meth c cX6_boxOfMark 3 wsX6_boxOfMark RX6 (some .int)) (v1 : Int32)   : ∀ (n : Nat) (v2 : Int32), fX6_boxOfMark_2 v1 boxes_r boxes_f n v2 = some res → ∀ (H : Heap) (locs : List Loc), Wo G A s (wX6_boxOfMark G a_eb a_desk a_desk_boxes a_desk_boxes_a a_kept a_tape a_text a_plan a_mat a_desk_words a_desk_weeks a_desk_routes a_desk_offers a_desk_wants a_desk_leaves a_desk_leases a_desk_uses isKept planStands today lack rate free boxes_r boxes_f) H locs → ∀ ls : Array Slot, lv_has ls 3 [(0, .ref a_eb), (1, .int v1), (2, .int v2)] → W p l e rmX6_boxOfMark s m args below meth c H locs 0 0 (QI G A below args s res (wX6_boxOfMark G a_eb a_desk a_desk_boxes a_desk_boxes_a a_kept a_tape a_text a_plan a_mat a_desk_words a_desk_weeks a_desk_routes a_desk_offers a_desk_wants a_desk_leaves a_desk_leases a_desk_uses isKept planStands today lack rate free boxes_r boxes_f)) (F0 m 2 ls []) := by
  obtain ⟨hx, hb, -⟩ := id X.1
  intro n
  induction n with
  | zero => intro v2 h; rw [fX6_boxOfMark_2] at h; cases h
  | succ n ih =>
    intro v2 h H locs hW ls hl
    rw [fX6_boxOfMark_2] at h
    refine lv_iload_n hx hb dX6_boxOfMark_2 rfl (lv_at hl 2 rfl) ?_
    refine lv_aload_n hx hb dX6_boxOfMark_3 rfl (lv_at hl 0 rfl) ?_
    refine g_get X hW eX6_boxOfMark_12 0 rfl rfl dX6_boxOfMark_4 ?_
    refine g_get X hW eX6_boxOfMark_82 1 rfl rfl dX6_boxOfMark_7 ?_
    obtain ⟨r5, hq, h⟩ := bn1_some h
    refine g_cvi X hW (As := []) (ws' := (wX6_boxOfMark G a_eb a_desk a_desk_boxes a_desk_boxes_a a_kept a_tape a_text a_plan a_mat a_desk_words a_desk_weeks a_desk_routes a_desk_offers a_desk_wants a_desk_leaves a_desk_leases a_desk_uses isKept planStands today lack rate free boxes_r boxes_f)) ckX6_boxOfMark_X4_size_117 (kcX4_size (l := l) G a_desk_boxes a_desk_boxes_a (9 : Int32) (24 : Int32) boxes_r hq) ⟨rfl, rfl, Nat.le_of_ble_eq_true rfl, Nat.le_of_ble_eq_true rfl⟩ [2] rfl rfl rfl rfl rfl rfl rfl hl.1 (Nat.le_of_ble_eq_true rfl) ⟨Nat.zero_le _, Nat.zero_le _⟩ dX6_boxOfMark_10 (fun H locs hW => ?_)
    refine lv_icmp_ge (tgt := 40) hx hb dX6_boxOfMark_13 (by decide) (fun c6 => ?_) (fun c6 => ?_)
    · have h := (if_pos c6).symm.trans h
      refine lv_bipush hx hb dX6_boxOfMark_40 qB_m3 ?_
      obtain rfl := Option.some.inj h
      exact g_iret X hW dX6_boxOfMark_42
    · have h := (if_neg c6).symm.trans h
      refine lv_aload_n hx hb dX6_boxOfMark_16 rfl (lv_at hl 0 rfl) ?_
      refine g_get X hW eX6_boxOfMark_12 0 rfl rfl dX6_boxOfMark_17 ?_
      refine g_get X hW eX6_boxOfMark_82 1 rfl rfl dX6_boxOfMark_20 ?_
      refine lv_iload_n hx hb dX6_boxOfMark_23 rfl (lv_at hl 2 rfl) ?_
      refine lv_iconst hx hb dX6_boxOfMark_24 qI_0 ?_
      obtain ⟨r14, hq, h⟩ := bn1_some h
      refine g_cvi X hW (As := [.int v2, .int (0 : Int32)]) (ws' := (wX6_boxOfMark G a_eb a_desk a_desk_boxes a_desk_boxes_a a_kept a_tape a_text a_plan a_mat a_desk_words a_desk_weeks a_desk_routes a_desk_offers a_desk_wants a_desk_leaves a_desk_leases a_desk_uses isKept planStands today lack rate free boxes_r boxes_f)) ckX6_boxOfMark_X4_cell_113 (kcX4_cell (l := l) G a_desk_boxes a_desk_boxes_a v2 (0 : Int32) (9 : Int32) (24 : Int32) boxes_r 216 boxes_f hq) ⟨rfl, rfl, Nat.le_of_ble_eq_true rfl, Nat.le_of_ble_eq_true rfl⟩ [2, 3] rfl rfl rfl rfl rfl rfl rfl hl.1 (Nat.le_of_ble_eq_true rfl) ⟨Nat.zero_le _, Nat.zero_le _⟩ dX6_boxOfMark_25 (fun H locs hW => ?_)
      refine lv_iload_n hx hb dX6_boxOfMark_28 rfl (lv_at hl 1 rfl) ?_
      refine lv_icmp_ne (tgt := 34) hx hb dX6_boxOfMark_29 (by decide) (fun c16 => ?_) (fun c16 => ?_)
      · have h := (if_neg c16).symm.trans h
        refine lv_iinc (v := (v2 + (1 : Int32))) (lv' := [(2, .int (v2 + (1 : Int32))), (0, .ref a_eb), (1, .int v1)]) hx hb dX6_boxOfMark_34 hl (k := 2) rfl (congrArg (fun z => v2 + z) qI_1) (by decide) rfl (fun ls hl => ?_)
        refine lv_goto (tgt := 2) hx hb dX6_boxOfMark_37 (by decide) ?_
        exact ih (v2 + (1 : Int32)) h H locs hW ls (lv_sub hl [1, 2, 0] rfl)
      · have h := (if_pos c16).symm.trans h
        refine lv_iload_n hx hb dX6_boxOfMark_32 rfl (lv_at hl 2 rfl) ?_
        obtain rfl := Option.some.inj h
        exact g_iret X hW dX6_boxOfMark_33
set_option maxHeartbeats 4000000 in
set_option maxRecDepth 100000 in
theorem k0X6_boxOfMark {l : Launch} (G : Gt) (a_eb a_desk a_desk_boxes a_desk_boxes_a a_kept a_tape a_text a_plan a_mat a_desk_words a_desk_weeks a_desk_routes a_desk_offers a_desk_wants a_desk_leaves a_desk_leases a_desk_uses : Nat) (v1 : Int32) (isKept : Int32) (planStands : Int32) (today : Int32) (lack : Int32) (rate : Int32) (free : Int32) (boxes_r : Int32) (boxes_f : (Nat → Int32)) {res : Int32} (h : fX6_boxOfMark v1 boxes_r boxes_f = some res) : CtI G l yX6_boxOfMark wsX6_boxOfMark rmX6_boxOfMark [.ref a_eb, .int v1] (wX6_boxOfMark G a_eb a_desk a_desk_boxes a_desk_boxes_a a_kept a_tape a_text a_plan a_mat a_desk_words a_desk_weeks a_desk_routes a_desk_offers a_desk_wants a_desk_leaves a_desk_leases a_desk_uses isKept planStands today lack rate free boxes_r boxes_f) res (wX6_boxOfMark G a_eb a_desk a_desk_boxes a_desk_boxes_a a_kept a_tape a_text a_plan a_mat a_desk_words a_desk_weeks a_desk_routes a_desk_offers a_desk_wants a_desk_leaves a_desk_leases a_desk_uses isKept planStands today lack rate free boxes_r boxes_f) := by
  refine CtI.mk (cc := cX6_boxOfMark) (maxL := 3) (ret := (some .int)) (own := RX6) (by decide) rfl rfl (Nat.le_of_ble_eq_true rfl) ?_
  intro p e s m below meth c A X ls hl hW
  obtain ⟨hx, hb, -⟩ := id X.1
  have hl : lv_has ls 3 [(0, .ref a_eb), (1, .int v1)] := hl
  generalize hH : s.heap = H at hW ⊢
  generalize hLo : ([] : List Loc) = locs at hW ⊢
  rw [fX6_boxOfMark] at h
  refine lv_iconst hx hb dX6_boxOfMark_0 qI_0 ?_
  refine lv_istore_n (lv' := [(2, .int (0 : Int32)), (0, .ref a_eb), (1, .int v1)]) hx hb dX6_boxOfMark_1 rfl hl (by decide) rfl (fun ls hl => ?_)
  exact tX6_boxOfMark_2 X v1 FU (0 : Int32) h H locs hW ls (lv_sub hl [1, 2, 0] rfl)
theorem kcX6_boxOfMark {l : Launch} (G : Gt) (a_eb a_desk a_desk_boxes a_desk_boxes_a a_kept a_tape a_text a_plan a_mat a_desk_words a_desk_weeks a_desk_routes a_desk_offers a_desk_wants a_desk_leaves a_desk_leases a_desk_uses : Nat) (v1 : Int32) (isKept : Int32) (planStands : Int32) (today : Int32) (lack : Int32) (rate : Int32) (free : Int32) (boxes_r : Int32) (boxes_f : (Nat → Int32)) {r : Int32}  (h : fX6_boxOfMark v1 boxes_r boxes_f = some r) : CtI G l yX6_boxOfMark wsX6_boxOfMark rmX6_boxOfMark [.ref a_eb, .int v1] (wX6_boxOfMark G a_eb a_desk a_desk_boxes a_desk_boxes_a a_kept a_tape a_text a_plan a_mat a_desk_words a_desk_weeks a_desk_routes a_desk_offers a_desk_wants a_desk_leaves a_desk_leases a_desk_uses isKept planStands today lack rate free boxes_r boxes_f) r (wX6_boxOfMark G a_eb a_desk a_desk_boxes a_desk_boxes_a a_kept a_tape a_text a_plan a_mat a_desk_words a_desk_weeks a_desk_routes a_desk_offers a_desk_wants a_desk_leaves a_desk_leases a_desk_uses isKept planStands today lack rate free boxes_r boxes_f) := k0X6_boxOfMark G a_eb a_desk a_desk_boxes a_desk_boxes_a a_kept a_tape a_text a_plan a_mat a_desk_words a_desk_weeks a_desk_routes a_desk_offers a_desk_wants a_desk_leaves a_desk_leases a_desk_uses v1 isKept planStands today lack rate free boxes_r boxes_f h
end MX6_boxOfMark
/-! EmptyBoxes$Table.put -/
section MX4_put
theorem hdX4_put : yX4_put.cls = RX4 ∧ yX4_put.cls ≠ "java/lang/invoke/MethodHandle" ∧ yX4_put.cls ≠ "java/lang/invoke/VarHandle" ∧ (parseMethodDescriptor yX4_put.desc).map (fun d => d.parameters.length) = some 3 := by decide +kernel
abbrev wX4_put (G : Gt) (a_tb a_tb_a : Nat) (tb_c : Int32) (tb_m : Int32) (tb_r : Int32) (tb_n : Nat) (tb_f : (Nat → Int32)) : va_W := [(a_tb, .inr (4, [.ref a_tb_a, .int tb_c, .int tb_m, .int tb_r])), (a_tb_a, .inl (G.2.1, tb_n, .inl tb_f))]
abbrev rmX4_put : Room := { frames := 1, cells := 0, slots := 0, locals := 22 }
theorem iX4_put_X4 : ∀ w ∈ wsX40, w ∈ wsX4_put := by decide +kernel
theorem eX4_put_21 : Fk wsX4_put RX4 21 4 1 := ⟨RX4, TX4, 4, rfl, iX4_put_X4, by decide, by decide +kernel⟩
theorem eX4_put_24 : Fk wsX4_put RX4 24 4 0 := ⟨RX4, TX4, 4, rfl, iX4_put_X4, by decide, by decide +kernel⟩
theorem ckX4_put_X4_holds_31 : CkV wsX4_put RX4 31 yX4_holds wsX4_holds cX4_holds 3 (some .boolean) 2 4 := ⟨RX4, TX4, 4, _, rfl, gX4_put_X4_holds, rfl, hdX4_holds⟩
variable {p : Program} {l : Launch} {e : Env} {s : State} {m : MethodId} {args : Array Value} {below : List Frame} {meth : Method} {c : Code} {A : Nat → Prop} {G : Gt} {a_tb a_tb_a : Nat} {tb_c : Int32} {tb_m : Int32} {tb_r : Int32} {tb_n : Nat} {res : (Nat → Int32)}
set_option maxHeartbeats 4000000 in
set_option maxRecDepth 100000 in
theorem k0X4_put {l : Launch} (G : Gt) (a_tb a_tb_a : Nat) (v1 : Int32) (v2 : Int32) (v3 : Int32) (tb_c : Int32) (tb_m : Int32) (tb_r : Int32) (tb_n : Nat) (tb_f : (Nat → Int32)) {res : (Nat → Int32)} (h : fX4_put v1 v2 v3 tb_c tb_r tb_n tb_f = some res) : CtV G l yX4_put wsX4_put rmX4_put [.ref a_tb, .int v1, .int v2, .int v3] (wX4_put G a_tb a_tb_a tb_c tb_m tb_r tb_n tb_f) (wX4_put G a_tb a_tb_a tb_c tb_m tb_r tb_n res) := by
  refine CtV.mk (cc := cX4_put) (maxL := 4) (ret := none) (own := RX4) (by decide) rfl rfl (Nat.le_of_ble_eq_true rfl) ?_
  intro p e s m below meth c A X ls hl hW
  obtain ⟨hx, hb, -⟩ := id X.1
  have hl : lv_has ls 4 [(0, .ref a_tb), (1, .int v1), (2, .int v2), (3, .int v3)] := hl
  generalize hH : s.heap = H at hW ⊢
  generalize hLo : ([] : List Loc) = locs at hW ⊢
  rw [fX4_put] at h
  refine lv_aload_n hx hb dX4_put_0 rfl (lv_at hl 0 rfl) ?_
  refine lv_iload_n hx hb dX4_put_1 rfl (lv_at hl 1 rfl) ?_
  refine lv_iload_n hx hb dX4_put_2 rfl (lv_at hl 2 rfl) ?_
  obtain ⟨r4, hq, h⟩ := bn1_some h
  refine g_cvi X hW (As := [.int v1, .int v2]) (ws' := (wX4_put G a_tb a_tb_a tb_c tb_m tb_r tb_n tb_f)) ckX4_put_X4_holds_31 (kcX4_holds (l := l) G a_tb a_tb_a v1 v2 tb_c tb_m tb_r hq) ⟨rfl, rfl, Nat.le_of_ble_eq_true rfl, Nat.le_of_ble_eq_true rfl⟩ [0] rfl rfl rfl rfl rfl rfl rfl hl.1 (Nat.le_of_ble_eq_true rfl) ⟨Nat.zero_le _, Nat.zero_le _⟩ dX4_put_3 (fun H locs hW => ?_)
  refine lv_if_eq (tgt := 23) hx hb dX4_put_6 (by decide) (fun c5 => ?_) (fun c5 => ?_)
  · have h := (if_pos c5).symm.trans h
    obtain rfl := Option.some.inj h
    exact g_vret X hW dX4_put_23
  · have h := (if_neg c5).symm.trans h
    refine lv_aload_n hx hb dX4_put_9 rfl (lv_at hl 0 rfl) ?_
    refine g_get X hW eX4_put_24 0 rfl rfl dX4_put_10 ?_
    refine lv_iload_n hx hb dX4_put_13 rfl (lv_at hl 1 rfl) ?_
    refine lv_aload_n hx hb dX4_put_14 rfl (lv_at hl 0 rfl) ?_
    refine g_get X hW eX4_put_21 0 rfl rfl dX4_put_15 ?_
    refine lv_imul hx hb dX4_put_18 ?_
    refine lv_iload_n hx hb dX4_put_19 rfl (lv_at hl 2 rfl) ?_
    refine lv_iadd hx hb dX4_put_20 ?_
    refine lv_iload_n hx hb dX4_put_21 rfl (lv_at hl 3 rfl) ?_
    obtain ⟨g16, h⟩ := gd_some h
    refine g_ast X hW (ws' := (wX4_put G a_tb a_tb_a tb_c tb_m tb_r tb_n (upd tb_f ((v1 * tb_c) + v2).toNatClampNeg v3))) 1 rfl g16 rfl dX4_put_22 (fun H locs hW => ?_)
    obtain rfl := Option.some.inj h
    exact g_vret X hW dX4_put_23
theorem kcX4_put {l : Launch} (G : Gt) (a_tb a_tb_a : Nat) (v1 : Int32) (v2 : Int32) (v3 : Int32) (tb_c : Int32) (tb_m : Int32) (tb_r : Int32) (tb_n : Nat) (tb_f : (Nat → Int32))  {o_tb_f : (Nat → Int32)} (h : fX4_put v1 v2 v3 tb_c tb_r tb_n tb_f = some o_tb_f) : CtV G l yX4_put wsX4_put rmX4_put [.ref a_tb, .int v1, .int v2, .int v3] (wX4_put G a_tb a_tb_a tb_c tb_m tb_r tb_n tb_f) (wX4_put G a_tb a_tb_a tb_c tb_m tb_r tb_n o_tb_f) := k0X4_put G a_tb a_tb_a v1 v2 v3 tb_c tb_m tb_r tb_n tb_f h
end MX4_put
/-! EmptyBoxes$Table.isFull -/
section MX4_isFull
theorem hdX4_isFull : yX4_isFull.cls = RX4 ∧ yX4_isFull.cls ≠ "java/lang/invoke/MethodHandle" ∧ yX4_isFull.cls ≠ "java/lang/invoke/VarHandle" ∧ (parseMethodDescriptor yX4_isFull.desc).map (fun d => d.parameters.length) = some 0 := by decide +kernel
abbrev wX4_isFull (G : Gt) (a_tb a_tb_a : Nat) (tb_c : Int32) (tb_m : Int32) (tb_r : Int32) : va_W := [(a_tb, .inr (4, [.ref a_tb_a, .int tb_c, .int tb_m, .int tb_r]))]
abbrev rmX4_isFull : Room := { frames := 0, cells := 0, slots := 0, locals := 0 }
theorem iX4_isFull_X4 : ∀ w ∈ wsX40, w ∈ wsX4_isFull := by decide +kernel
theorem eX4_isFull_15 : Fk wsX4_isFull RX4 15 4 2 := ⟨RX4, TX4, 4, rfl, iX4_isFull_X4, by decide, by decide +kernel⟩
theorem eX4_isFull_28 : Fk wsX4_isFull RX4 28 4 3 := ⟨RX4, TX4, 4, rfl, iX4_isFull_X4, by decide, by decide +kernel⟩
variable {p : Program} {l : Launch} {e : Env} {s : State} {m : MethodId} {args : Array Value} {below : List Frame} {meth : Method} {c : Code} {A : Nat → Prop} {G : Gt} {a_tb a_tb_a : Nat} {tb_c : Int32} {tb_m : Int32} {tb_r : Int32} {res : Int32}
set_option maxHeartbeats 4000000 in
set_option maxRecDepth 100000 in
theorem k0X4_isFull {l : Launch} (G : Gt) (a_tb a_tb_a : Nat)  (tb_c : Int32) (tb_m : Int32) (tb_r : Int32) {res : Int32} (h : fX4_isFull tb_m tb_r = some res) : CtI G l yX4_isFull wsX4_isFull rmX4_isFull [.ref a_tb] (wX4_isFull G a_tb a_tb_a tb_c tb_m tb_r) res (wX4_isFull G a_tb a_tb_a tb_c tb_m tb_r) := by
  refine CtI.mk (cc := cX4_isFull) (maxL := 1) (ret := (some .boolean)) (own := RX4) (by decide) rfl rfl (Nat.le_of_ble_eq_true rfl) ?_
  intro p e s m below meth c A X ls hl hW
  obtain ⟨hx, hb, -⟩ := id X.1
  have hl : lv_has ls 1 [(0, .ref a_tb)] := hl
  generalize hH : s.heap = H at hW ⊢
  generalize hLo : ([] : List Loc) = locs at hW ⊢
  rw [fX4_isFull] at h
  refine lv_aload_n hx hb dX4_isFull_0 rfl (lv_at hl 0 rfl) ?_
  refine g_get X hW eX4_isFull_28 0 rfl rfl dX4_isFull_1 ?_
  refine lv_aload_n hx hb dX4_isFull_4 rfl (lv_at hl 0 rfl) ?_
  refine g_get X hW eX4_isFull_15 0 rfl rfl dX4_isFull_5 ?_
  refine lv_icmp_lt (tgt := 15) hx hb dX4_isFull_8 (by decide) (fun c5 => ?_) (fun c5 => ?_)
  · have h := (if_pos c5).symm.trans h
    refine lv_iconst hx hb dX4_isFull_15 qI_0 ?_
    obtain rfl := Option.some.inj h
    exact g_zret X hW rfl dX4_isFull_16
  · have h := (if_neg c5).symm.trans h
    refine lv_iconst hx hb dX4_isFull_11 qI_1 ?_
    refine lv_goto (tgt := 16) hx hb dX4_isFull_12 (by decide) ?_
    obtain rfl := Option.some.inj h
    exact g_zret X hW rfl dX4_isFull_16
theorem kcX4_isFull {l : Launch} (G : Gt) (a_tb a_tb_a : Nat)  (tb_c : Int32) (tb_m : Int32) (tb_r : Int32) {r : Int32}  (h : fX4_isFull tb_m tb_r = some r) : CtI G l yX4_isFull wsX4_isFull rmX4_isFull [.ref a_tb] (wX4_isFull G a_tb a_tb_a tb_c tb_m tb_r) r (wX4_isFull G a_tb a_tb_a tb_c tb_m tb_r) := k0X4_isFull G a_tb a_tb_a tb_c tb_m tb_r h
end MX4_isFull
/-! EmptyBoxes$Table.grow -/
section MX4_grow
theorem hdX4_grow : yX4_grow.cls = RX4 ∧ yX4_grow.cls ≠ "java/lang/invoke/MethodHandle" ∧ yX4_grow.cls ≠ "java/lang/invoke/VarHandle" ∧ (parseMethodDescriptor yX4_grow.desc).map (fun d => d.parameters.length) = some 0 := by decide +kernel
abbrev wX4_grow (G : Gt) (a_tb a_tb_a : Nat) (tb_c : Int32) (tb_m : Int32) (tb_r : Int32) : va_W := [(a_tb, .inr (4, [.ref a_tb_a, .int tb_c, .int tb_m, .int tb_r]))]
abbrev rmX4_grow : Room := { frames := 1, cells := 0, slots := 0, locals := 20 }
theorem iX4_grow_X4 : ∀ w ∈ wsX40, w ∈ wsX4_grow := by decide +kernel
theorem eX4_grow_28 : Fk wsX4_grow RX4 28 4 3 := ⟨RX4, TX4, 4, rfl, iX4_grow_X4, by decide, by decide +kernel⟩
theorem pX4_grow_28 : Fp wsX4_grow RX4 28 4 3 .int := ⟨RX4, TX4, 4, tyX4, rfl, iX4_grow_X4, by decide, by decide +kernel, tyX4_ok, nmX4, rfl, by decide +kernel⟩
theorem ckX4_grow_X4_isFull_35 : CkV wsX4_grow RX4 35 yX4_isFull wsX4_isFull cX4_isFull 1 (some .boolean) 0 4 := ⟨RX4, TX4, 4, _, rfl, gX4_grow_X4_isFull, rfl, hdX4_isFull⟩
variable {p : Program} {l : Launch} {e : Env} {s : State} {m : MethodId} {args : Array Value} {below : List Frame} {meth : Method} {c : Code} {A : Nat → Prop} {G : Gt} {a_tb a_tb_a : Nat} {tb_c : Int32} {tb_m : Int32} {res : Int32 × Int32}
set_option maxHeartbeats 4000000 in
set_option maxRecDepth 100000 in
theorem k0X4_grow {l : Launch} (G : Gt) (a_tb a_tb_a : Nat)  (tb_c : Int32) (tb_m : Int32) (tb_r : Int32) {res : Int32 × Int32} (h : fX4_grow tb_m tb_r = some res) : CtI G l yX4_grow wsX4_grow rmX4_grow [.ref a_tb] (wX4_grow G a_tb a_tb_a tb_c tb_m tb_r) res.1 (wX4_grow G a_tb a_tb_a tb_c tb_m res.2) := by
  refine CtI.mk (cc := cX4_grow) (maxL := 1) (ret := (some .int)) (own := RX4) (by decide) rfl rfl (Nat.le_of_ble_eq_true rfl) ?_
  intro p e s m below meth c A X ls hl hW
  obtain ⟨hx, hb, -⟩ := id X.1
  have hl : lv_has ls 1 [(0, .ref a_tb)] := hl
  generalize hH : s.heap = H at hW ⊢
  generalize hLo : ([] : List Loc) = locs at hW ⊢
  rw [fX4_grow] at h
  refine lv_aload_n hx hb dX4_grow_0 rfl (lv_at hl 0 rfl) ?_
  obtain ⟨r2, hq, h⟩ := bn1_some h
  refine g_cvi X hW (As := []) (ws' := (wX4_grow G a_tb a_tb_a tb_c tb_m tb_r)) ckX4_grow_X4_isFull_35 (kcX4_isFull (l := l) G a_tb a_tb_a tb_c tb_m tb_r hq) ⟨rfl, rfl, Nat.le_of_ble_eq_true rfl, Nat.le_of_ble_eq_true rfl⟩ [0] rfl rfl rfl rfl rfl rfl rfl hl.1 (Nat.le_of_ble_eq_true rfl) ⟨Nat.zero_le _, Nat.zero_le _⟩ dX4_grow_1 (fun H locs hW => ?_)
  refine lv_if_eq (tgt := 10) hx hb dX4_grow_4 (by decide) (fun c3 => ?_) (fun c3 => ?_)
  · have h := (if_pos c3).symm.trans h
    refine lv_aload_n hx hb dX4_grow_10 rfl (lv_at hl 0 rfl) ?_
    refine lv_dup hx hb dX4_grow_11 rfl ?_
    refine g_get X hW eX4_grow_28 0 rfl rfl dX4_grow_12 ?_
    refine lv_iconst hx hb dX4_grow_15 qI_1 ?_
    refine lv_iadd hx hb dX4_grow_16 ?_
    refine g_put X hW (ws' := (wX4_grow G a_tb a_tb_a tb_c tb_m (tb_r + (1 : Int32)))) pX4_grow_28 0 rfl (Nat.le_of_ble_eq_true rfl) rfl rfl rfl dX4_grow_17 (fun H locs hW => ?_)
    refine lv_aload_n hx hb dX4_grow_20 rfl (lv_at hl 0 rfl) ?_
    refine g_get X hW eX4_grow_28 0 rfl rfl dX4_grow_21 ?_
    refine lv_iconst hx hb dX4_grow_24 qI_1 ?_
    refine lv_isub hx hb dX4_grow_25 ?_
    obtain rfl := Option.some.inj h
    exact g_iret X hW dX4_grow_26
  · have h := (if_neg c3).symm.trans h
    refine lv_bipush hx hb dX4_grow_7 qB_m3 ?_
    obtain rfl := Option.some.inj h
    exact g_iret X hW dX4_grow_9
theorem kcX4_grow {l : Launch} (G : Gt) (a_tb a_tb_a : Nat)  (tb_c : Int32) (tb_m : Int32) (tb_r : Int32) {r : Int32} {o_tb_r : Int32} (h : fX4_grow tb_m tb_r = some (r, o_tb_r)) : CtI G l yX4_grow wsX4_grow rmX4_grow [.ref a_tb] (wX4_grow G a_tb a_tb_a tb_c tb_m tb_r) r (wX4_grow G a_tb a_tb_a tb_c tb_m o_tb_r) := k0X4_grow G a_tb a_tb_a tb_c tb_m tb_r h
end MX4_grow
/-! EmptyBoxes.isWithin -/
section MX6_isWithin
theorem hdX6_isWithin : yX6_isWithin.cls = RX6 ∧ yX6_isWithin.cls ≠ "java/lang/invoke/MethodHandle" ∧ yX6_isWithin.cls ≠ "java/lang/invoke/VarHandle" ∧ (parseMethodDescriptor yX6_isWithin.desc).map (fun d => d.parameters.length) = some 3 := by decide +kernel
abbrev rmX6_isWithin : Room := { frames := 0, cells := 0, slots := 0, locals := 0 }
variable {p : Program} {l : Launch} {e : Env} {s : State} {m : MethodId} {args : Array Value} {below : List Frame} {meth : Method} {c : Code} {A : Nat → Prop} {G : Gt} {res : Int32}
set_option maxHeartbeats 4000000 in
set_option maxRecDepth 100000 in
theorem k0X6_isWithin {l : Launch} (G : Gt) (v0 : Int32) (v1 : Int32) (v2 : Int32)  {res : Int32} (h : fX6_isWithin v0 v1 v2 = some res) : CtI G l yX6_isWithin wsX6_isWithin rmX6_isWithin [.int v0, .int v1, .int v2] ([] : va_W) res ([] : va_W) := by
  refine CtI.mk (cc := cX6_isWithin) (maxL := 3) (ret := (some .boolean)) (own := RX6) (by decide) rfl rfl (Nat.le_of_ble_eq_true rfl) ?_
  intro p e s m below meth c A X ls hl hW
  obtain ⟨hx, hb, -⟩ := id X.1
  have hl : lv_has ls 3 [(0, .int v0), (1, .int v1), (2, .int v2)] := hl
  generalize hH : s.heap = H at hW ⊢
  generalize hLo : ([] : List Loc) = locs at hW ⊢
  rw [fX6_isWithin] at h
  refine lv_iload_n hx hb dX6_isWithin_0 rfl (lv_at hl 0 rfl) ?_
  refine lv_iload_n hx hb dX6_isWithin_1 rfl (lv_at hl 1 rfl) ?_
  refine lv_icmp_lt (tgt := 14) hx hb dX6_isWithin_2 (by decide) (fun c3 => ?_) (fun c3 => ?_)
  · have h := (if_pos c3).symm.trans h
    refine lv_iconst hx hb dX6_isWithin_14 qI_0 ?_
    obtain rfl := Option.some.inj h
    exact g_zret X hW rfl dX6_isWithin_15
  · have h := (if_neg c3).symm.trans h
    refine lv_iload_n hx hb dX6_isWithin_5 rfl (lv_at hl 0 rfl) ?_
    refine lv_iload_n hx hb dX6_isWithin_6 rfl (lv_at hl 2 rfl) ?_
    refine lv_icmp_gt (tgt := 14) hx hb dX6_isWithin_7 (by decide) (fun c8 => ?_) (fun c8 => ?_)
    · have h := (if_pos c8).symm.trans h
      refine lv_iconst hx hb dX6_isWithin_14 qI_0 ?_
      obtain rfl := Option.some.inj h
      exact g_zret X hW rfl dX6_isWithin_15
    · have h := (if_neg c8).symm.trans h
      refine lv_iconst hx hb dX6_isWithin_10 qI_1 ?_
      refine lv_goto (tgt := 15) hx hb dX6_isWithin_11 (by decide) ?_
      obtain rfl := Option.some.inj h
      exact g_zret X hW rfl dX6_isWithin_15
theorem kcX6_isWithin {l : Launch} (G : Gt) (v0 : Int32) (v1 : Int32) (v2 : Int32)  {r : Int32}  (h : fX6_isWithin v0 v1 v2 = some r) : CtI G l yX6_isWithin wsX6_isWithin rmX6_isWithin [.int v0, .int v1, .int v2] ([] : va_W) r ([] : va_W) := k0X6_isWithin G v0 v1 v2 h
end MX6_isWithin
