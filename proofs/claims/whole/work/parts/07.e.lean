/-! EmptyBoxesModel.in -/
section MX7_in
theorem hdX7_in : yX7_in.cls = RX7 ∧ yX7_in.cls ≠ "java/lang/invoke/MethodHandle" ∧ yX7_in.cls ≠ "java/lang/invoke/VarHandle" ∧ (parseMethodDescriptor yX7_in.desc).map (fun d => d.parameters.length) = some 3 := by decide +kernel
abbrev rmX7_in : Room := { frames := 0, cells := 0, slots := 0, locals := 0 }
variable {p : Program} {l : Launch} {e : Env} {s : State} {m : MethodId} {args : Array Value} {below : List Frame} {meth : Method} {c : Code} {A : Nat → Prop} {G : Gt} {res : Int32}
set_option maxHeartbeats 4000000 in
set_option maxRecDepth 100000 in
theorem k0X7_in {l : Launch} (G : Gt) (v0 : Int32) (v1 : Int32) (v2 : Int32)  {res : Int32} (h : fX7_in v0 v1 v2 = some res) : CtI G l yX7_in wsX7_in rmX7_in [.int v0, .int v1, .int v2] ([] : va_W) res ([] : va_W) := by
  refine CtI.mk (cc := cX7_in) (maxL := 3) (ret := (some .boolean)) (own := RX7) (by decide) rfl rfl (Nat.le_of_ble_eq_true rfl) ?_
  intro p e s m below meth c A X ls hl hW
  obtain ⟨hx, hb, -⟩ := id X.1
  have hl : lv_has ls 3 [(0, .int v0), (1, .int v1), (2, .int v2)] := hl
  generalize hH : s.heap = H at hW ⊢
  generalize hLo : ([] : List Loc) = locs at hW ⊢
  rw [fX7_in] at h
  refine lv_iload_n hx hb dX7_in_0 rfl (lv_at hl 0 rfl) ?_
  refine lv_iload_n hx hb dX7_in_1 rfl (lv_at hl 1 rfl) ?_
  refine lv_icmp_lt (tgt := 14) hx hb dX7_in_2 (by decide) (fun c3 => ?_) (fun c3 => ?_)
  · have h := (if_pos c3).symm.trans h
    refine lv_iconst hx hb dX7_in_14 qI_0 ?_
    obtain rfl := Option.some.inj h
    exact g_zret X hW rfl dX7_in_15
  · have h := (if_neg c3).symm.trans h
    refine lv_iload_n hx hb dX7_in_5 rfl (lv_at hl 0 rfl) ?_
    refine lv_iload_n hx hb dX7_in_6 rfl (lv_at hl 2 rfl) ?_
    refine lv_icmp_gt (tgt := 14) hx hb dX7_in_7 (by decide) (fun c8 => ?_) (fun c8 => ?_)
    · have h := (if_pos c8).symm.trans h
      refine lv_iconst hx hb dX7_in_14 qI_0 ?_
      obtain rfl := Option.some.inj h
      exact g_zret X hW rfl dX7_in_15
    · have h := (if_neg c8).symm.trans h
      refine lv_iconst hx hb dX7_in_10 qI_1 ?_
      refine lv_goto (tgt := 15) hx hb dX7_in_11 (by decide) ?_
      obtain rfl := Option.some.inj h
      exact g_zret X hW rfl dX7_in_15
theorem kcX7_in {l : Launch} (G : Gt) (v0 : Int32) (v1 : Int32) (v2 : Int32)  {r : Int32}  (h : fX7_in v0 v1 v2 = some r) : CtI G l yX7_in wsX7_in rmX7_in [.int v0, .int v1, .int v2] ([] : va_W) r ([] : va_W) := k0X7_in G v0 v1 v2 h
end MX7_in
/-! EmptyBoxesModel.isBox -/
section MX7_isBox
theorem hdX7_isBox : yX7_isBox.cls = RX7 ∧ yX7_isBox.cls ≠ "java/lang/invoke/MethodHandle" ∧ yX7_isBox.cls ≠ "java/lang/invoke/VarHandle" ∧ (parseMethodDescriptor yX7_isBox.desc).map (fun d => d.parameters.length) = some 1 := by decide +kernel
abbrev wX7_isBox (G : Gt) (a_mo a_mo_numbers a_mo_boxes a_mo_words a_mo_weeks a_mo_routes a_mo_turns a_mo_leave a_mo_leases a_mo_uses a_mo_arcFrom a_mo_arcTo a_mo_arcRoom a_mo_arcCost a_mo_far a_mo_by a_mo_best a_mo_tape a_mo_kept : Nat) (m_arcs : Int32) (m_tapeMany : Int32) (m_tokenKind : Int32) (m_tokenAt : Int32) (m_tokenEnd : Int32) (m_tokenValue : Int32) (m_fault : Int32) (m_seen : Int32) (m_isKept : Int32) (m_place : Int32) (m_numbers : (Nat → Int32)) : va_W := [(a_mo, .inr (7, [.ref a_mo_numbers, .ref a_mo_boxes, .ref a_mo_words, .ref a_mo_weeks, .ref a_mo_routes, .ref a_mo_turns, .ref a_mo_leave, .ref a_mo_leases, .ref a_mo_uses, .ref a_mo_arcFrom, .ref a_mo_arcTo, .ref a_mo_arcRoom, .ref a_mo_arcCost, .int m_arcs, .ref a_mo_far, .ref a_mo_by, .ref a_mo_best, .ref a_mo_tape, .int m_tapeMany, .int m_tokenKind, .int m_tokenAt, .int m_tokenEnd, .int m_tokenValue, .int m_fault, .int m_seen, .int m_isKept, .ref a_mo_kept, .int m_place])), (a_mo_numbers, .inl (G.2.1, 10, .inl m_numbers))]
abbrev rmX7_isBox : Room := { frames := 1, cells := 0, slots := 0, locals := 22 }
theorem iX7_isBox_X7 : ∀ w ∈ wsX70, w ∈ wsX7_isBox := by decide +kernel
theorem eX7_isBox_7 : Fk wsX7_isBox RX7 7 7 0 := ⟨RX7, TX7, 28, rfl, iX7_isBox_X7, by decide, by decide +kernel⟩
theorem ckX7_isBox_X7_in_64 : CkS wsX7_isBox RX7 64 yX7_in wsX7_in cX7_in 3 (some .boolean) 3 := ⟨_, gX7_isBox_X7_in, rfl, hdX7_in.2⟩
variable {p : Program} {l : Launch} {e : Env} {s : State} {m : MethodId} {args : Array Value} {below : List Frame} {meth : Method} {c : Code} {A : Nat → Prop} {G : Gt} {a_mo a_mo_numbers a_mo_boxes a_mo_words a_mo_weeks a_mo_routes a_mo_turns a_mo_leave a_mo_leases a_mo_uses a_mo_arcFrom a_mo_arcTo a_mo_arcRoom a_mo_arcCost a_mo_far a_mo_by a_mo_best a_mo_tape a_mo_kept : Nat} {m_arcs : Int32} {m_tapeMany : Int32} {m_tokenKind : Int32} {m_tokenAt : Int32} {m_tokenEnd : Int32} {m_tokenValue : Int32} {m_fault : Int32} {m_seen : Int32} {m_isKept : Int32} {m_place : Int32} {m_numbers : (Nat → Int32)} {res : Int32}
set_option maxHeartbeats 4000000 in
set_option maxRecDepth 100000 in
theorem k0X7_isBox {l : Launch} (G : Gt) (a_mo a_mo_numbers a_mo_boxes a_mo_words a_mo_weeks a_mo_routes a_mo_turns a_mo_leave a_mo_leases a_mo_uses a_mo_arcFrom a_mo_arcTo a_mo_arcRoom a_mo_arcCost a_mo_far a_mo_by a_mo_best a_mo_tape a_mo_kept : Nat) (v1 : Int32) (m_arcs : Int32) (m_tapeMany : Int32) (m_tokenKind : Int32) (m_tokenAt : Int32) (m_tokenEnd : Int32) (m_tokenValue : Int32) (m_fault : Int32) (m_seen : Int32) (m_isKept : Int32) (m_place : Int32) (m_numbers : (Nat → Int32)) {res : Int32} (h : fX7_isBox v1 m_numbers = some res) : CtI G l yX7_isBox wsX7_isBox rmX7_isBox [.ref a_mo, .int v1] (wX7_isBox G a_mo a_mo_numbers a_mo_boxes a_mo_words a_mo_weeks a_mo_routes a_mo_turns a_mo_leave a_mo_leases a_mo_uses a_mo_arcFrom a_mo_arcTo a_mo_arcRoom a_mo_arcCost a_mo_far a_mo_by a_mo_best a_mo_tape a_mo_kept m_arcs m_tapeMany m_tokenKind m_tokenAt m_tokenEnd m_tokenValue m_fault m_seen m_isKept m_place m_numbers) res (wX7_isBox G a_mo a_mo_numbers a_mo_boxes a_mo_words a_mo_weeks a_mo_routes a_mo_turns a_mo_leave a_mo_leases a_mo_uses a_mo_arcFrom a_mo_arcTo a_mo_arcRoom a_mo_arcCost a_mo_far a_mo_by a_mo_best a_mo_tape a_mo_kept m_arcs m_tapeMany m_tokenKind m_tokenAt m_tokenEnd m_tokenValue m_fault m_seen m_isKept m_place m_numbers) := by
  refine CtI.mk (cc := cX7_isBox) (maxL := 2) (ret := (some .boolean)) (own := RX7) (by decide) rfl rfl (Nat.le_of_ble_eq_true rfl) ?_
  intro p e s m below meth c A X ls hl hW
  obtain ⟨hx, hb, -⟩ := id X.1
  have hl : lv_has ls 2 [(0, .ref a_mo), (1, .int v1)] := hl
  generalize hH : s.heap = H at hW ⊢
  generalize hLo : ([] : List Loc) = locs at hW ⊢
  rw [fX7_isBox] at h
  refine lv_iload_n hx hb dX7_isBox_0 rfl (lv_at hl 1 rfl) ?_
  refine lv_iconst hx hb dX7_isBox_1 qI_0 ?_
  refine lv_aload_n hx hb dX7_isBox_2 rfl (lv_at hl 0 rfl) ?_
  refine g_get X hW eX7_isBox_7 0 rfl rfl dX7_isBox_3 ?_
  refine lv_iconst hx hb dX7_isBox_6 qI_1 ?_
  obtain ⟨g6, h⟩ := gd_some h
  refine g_ald X hW 1 rfl g6 dX7_isBox_7 ?_
  refine lv_iconst hx hb dX7_isBox_8 qI_1 ?_
  refine lv_isub hx hb dX7_isBox_9 ?_
  obtain ⟨r9, hq, h⟩ := bn1_some h
  refine g_csi X hW (As := [.int v1, .int (0 : Int32), .int ((m_numbers (1 : Int32).toNatClampNeg) - (1 : Int32))]) (ws' := (wX7_isBox G a_mo a_mo_numbers a_mo_boxes a_mo_words a_mo_weeks a_mo_routes a_mo_turns a_mo_leave a_mo_leases a_mo_uses a_mo_arcFrom a_mo_arcTo a_mo_arcRoom a_mo_arcCost a_mo_far a_mo_by a_mo_best a_mo_tape a_mo_kept m_arcs m_tapeMany m_tokenKind m_tokenAt m_tokenEnd m_tokenValue m_fault m_seen m_isKept m_place m_numbers)) ckX7_isBox_X7_in_64 (kcX7_in (l := l) G v1 (0 : Int32) ((m_numbers (1 : Int32).toNatClampNeg) - (1 : Int32)) hq) ⟨rfl, rfl, Nat.le_of_ble_eq_true rfl, Nat.le_of_ble_eq_true rfl⟩ [] rfl rfl rfl rfl rfl rfl hl.1 (Nat.le_of_ble_eq_true rfl) ⟨Nat.zero_le _, Nat.zero_le _⟩ dX7_isBox_10 (fun H locs hW => ?_)
  obtain ⟨g10, h⟩ := gd_some h
  obtain rfl := Option.some.inj h
  exact g_zret X hW g10 dX7_isBox_13
theorem kcX7_isBox {l : Launch} (G : Gt) (a_mo a_mo_numbers a_mo_boxes a_mo_words a_mo_weeks a_mo_routes a_mo_turns a_mo_leave a_mo_leases a_mo_uses a_mo_arcFrom a_mo_arcTo a_mo_arcRoom a_mo_arcCost a_mo_far a_mo_by a_mo_best a_mo_tape a_mo_kept : Nat) (v1 : Int32) (m_arcs : Int32) (m_tapeMany : Int32) (m_tokenKind : Int32) (m_tokenAt : Int32) (m_tokenEnd : Int32) (m_tokenValue : Int32) (m_fault : Int32) (m_seen : Int32) (m_isKept : Int32) (m_place : Int32) (m_numbers : (Nat → Int32)) {r : Int32}  (h : fX7_isBox v1 m_numbers = some r) : CtI G l yX7_isBox wsX7_isBox rmX7_isBox [.ref a_mo, .int v1] (wX7_isBox G a_mo a_mo_numbers a_mo_boxes a_mo_words a_mo_weeks a_mo_routes a_mo_turns a_mo_leave a_mo_leases a_mo_uses a_mo_arcFrom a_mo_arcTo a_mo_arcRoom a_mo_arcCost a_mo_far a_mo_by a_mo_best a_mo_tape a_mo_kept m_arcs m_tapeMany m_tokenKind m_tokenAt m_tokenEnd m_tokenValue m_fault m_seen m_isKept m_place m_numbers) r (wX7_isBox G a_mo a_mo_numbers a_mo_boxes a_mo_words a_mo_weeks a_mo_routes a_mo_turns a_mo_leave a_mo_leases a_mo_uses a_mo_arcFrom a_mo_arcTo a_mo_arcRoom a_mo_arcCost a_mo_far a_mo_by a_mo_best a_mo_tape a_mo_kept m_arcs m_tapeMany m_tokenKind m_tokenAt m_tokenEnd m_tokenValue m_fault m_seen m_isKept m_place m_numbers) := k0X7_isBox G a_mo a_mo_numbers a_mo_boxes a_mo_words a_mo_weeks a_mo_routes a_mo_turns a_mo_leave a_mo_leases a_mo_uses a_mo_arcFrom a_mo_arcTo a_mo_arcRoom a_mo_arcCost a_mo_far a_mo_by a_mo_best a_mo_tape a_mo_kept v1 m_arcs m_tapeMany m_tokenKind m_tokenAt m_tokenEnd m_tokenValue m_fault m_seen m_isKept m_place m_numbers h
end MX7_isBox
/-! EmptyBoxesModel.isPast -/
section MX7_isPast
theorem hdX7_isPast : yX7_isPast.cls = RX7 ∧ yX7_isPast.cls ≠ "java/lang/invoke/MethodHandle" ∧ yX7_isPast.cls ≠ "java/lang/invoke/VarHandle" ∧ (parseMethodDescriptor yX7_isPast.desc).map (fun d => d.parameters.length) = some 1 := by decide +kernel
abbrev wX7_isPast (G : Gt) (a_mo a_mo_numbers a_mo_boxes a_mo_words a_mo_weeks a_mo_routes a_mo_turns a_mo_leave a_mo_leases a_mo_uses a_mo_arcFrom a_mo_arcTo a_mo_arcRoom a_mo_arcCost a_mo_far a_mo_by a_mo_best a_mo_tape a_mo_kept : Nat) (m_arcs : Int32) (m_tapeMany : Int32) (m_tokenKind : Int32) (m_tokenAt : Int32) (m_tokenEnd : Int32) (m_tokenValue : Int32) (m_fault : Int32) (m_seen : Int32) (m_isKept : Int32) (m_place : Int32) (m_numbers : (Nat → Int32)) : va_W := [(a_mo, .inr (7, [.ref a_mo_numbers, .ref a_mo_boxes, .ref a_mo_words, .ref a_mo_weeks, .ref a_mo_routes, .ref a_mo_turns, .ref a_mo_leave, .ref a_mo_leases, .ref a_mo_uses, .ref a_mo_arcFrom, .ref a_mo_arcTo, .ref a_mo_arcRoom, .ref a_mo_arcCost, .int m_arcs, .ref a_mo_far, .ref a_mo_by, .ref a_mo_best, .ref a_mo_tape, .int m_tapeMany, .int m_tokenKind, .int m_tokenAt, .int m_tokenEnd, .int m_tokenValue, .int m_fault, .int m_seen, .int m_isKept, .ref a_mo_kept, .int m_place])), (a_mo_numbers, .inl (G.2.1, 10, .inl m_numbers))]
abbrev rmX7_isPast : Room := { frames := 1, cells := 0, slots := 0, locals := 22 }
theorem iX7_isPast_X7 : ∀ w ∈ wsX70, w ∈ wsX7_isPast := by decide +kernel
theorem eX7_isPast_7 : Fk wsX7_isPast RX7 7 7 0 := ⟨RX7, TX7, 28, rfl, iX7_isPast_X7, by decide, by decide +kernel⟩
theorem ckX7_isPast_X7_in_64 : CkS wsX7_isPast RX7 64 yX7_in wsX7_in cX7_in 3 (some .boolean) 3 := ⟨_, gX7_isPast_X7_in, rfl, hdX7_in.2⟩
variable {p : Program} {l : Launch} {e : Env} {s : State} {m : MethodId} {args : Array Value} {below : List Frame} {meth : Method} {c : Code} {A : Nat → Prop} {G : Gt} {a_mo a_mo_numbers a_mo_boxes a_mo_words a_mo_weeks a_mo_routes a_mo_turns a_mo_leave a_mo_leases a_mo_uses a_mo_arcFrom a_mo_arcTo a_mo_arcRoom a_mo_arcCost a_mo_far a_mo_by a_mo_best a_mo_tape a_mo_kept : Nat} {m_arcs : Int32} {m_tapeMany : Int32} {m_tokenKind : Int32} {m_tokenAt : Int32} {m_tokenEnd : Int32} {m_tokenValue : Int32} {m_fault : Int32} {m_seen : Int32} {m_isKept : Int32} {m_place : Int32} {m_numbers : (Nat → Int32)} {res : Int32}
set_option maxHeartbeats 4000000 in
set_option maxRecDepth 100000 in
theorem k0X7_isPast {l : Launch} (G : Gt) (a_mo a_mo_numbers a_mo_boxes a_mo_words a_mo_weeks a_mo_routes a_mo_turns a_mo_leave a_mo_leases a_mo_uses a_mo_arcFrom a_mo_arcTo a_mo_arcRoom a_mo_arcCost a_mo_far a_mo_by a_mo_best a_mo_tape a_mo_kept : Nat) (v1 : Int32) (m_arcs : Int32) (m_tapeMany : Int32) (m_tokenKind : Int32) (m_tokenAt : Int32) (m_tokenEnd : Int32) (m_tokenValue : Int32) (m_fault : Int32) (m_seen : Int32) (m_isKept : Int32) (m_place : Int32) (m_numbers : (Nat → Int32)) {res : Int32} (h : fX7_isPast v1 m_numbers = some res) : CtI G l yX7_isPast wsX7_isPast rmX7_isPast [.ref a_mo, .int v1] (wX7_isPast G a_mo a_mo_numbers a_mo_boxes a_mo_words a_mo_weeks a_mo_routes a_mo_turns a_mo_leave a_mo_leases a_mo_uses a_mo_arcFrom a_mo_arcTo a_mo_arcRoom a_mo_arcCost a_mo_far a_mo_by a_mo_best a_mo_tape a_mo_kept m_arcs m_tapeMany m_tokenKind m_tokenAt m_tokenEnd m_tokenValue m_fault m_seen m_isKept m_place m_numbers) res (wX7_isPast G a_mo a_mo_numbers a_mo_boxes a_mo_words a_mo_weeks a_mo_routes a_mo_turns a_mo_leave a_mo_leases a_mo_uses a_mo_arcFrom a_mo_arcTo a_mo_arcRoom a_mo_arcCost a_mo_far a_mo_by a_mo_best a_mo_tape a_mo_kept m_arcs m_tapeMany m_tokenKind m_tokenAt m_tokenEnd m_tokenValue m_fault m_seen m_isKept m_place m_numbers) := by
  refine CtI.mk (cc := cX7_isPast) (maxL := 2) (ret := (some .boolean)) (own := RX7) (by decide) rfl rfl (Nat.le_of_ble_eq_true rfl) ?_
  intro p e s m below meth c A X ls hl hW
  obtain ⟨hx, hb, -⟩ := id X.1
  have hl : lv_has ls 2 [(0, .ref a_mo), (1, .int v1)] := hl
  generalize hH : s.heap = H at hW ⊢
  generalize hLo : ([] : List Loc) = locs at hW ⊢
  rw [fX7_isPast] at h
  refine lv_iload_n hx hb dX7_isPast_0 rfl (lv_at hl 1 rfl) ?_
  refine lv_iconst hx hb dX7_isPast_1 qI_0 ?_
  refine lv_aload_n hx hb dX7_isPast_2 rfl (lv_at hl 0 rfl) ?_
  refine g_get X hW eX7_isPast_7 0 rfl rfl dX7_isPast_3 ?_
  refine lv_iconst hx hb dX7_isPast_6 qI_0 ?_
  obtain ⟨g6, h⟩ := gd_some h
  refine g_ald X hW 1 rfl g6 dX7_isPast_7 ?_
  obtain ⟨r7, hq, h⟩ := bn1_some h
  refine g_csi X hW (As := [.int v1, .int (0 : Int32), .int (m_numbers (0 : Int32).toNatClampNeg)]) (ws' := (wX7_isPast G a_mo a_mo_numbers a_mo_boxes a_mo_words a_mo_weeks a_mo_routes a_mo_turns a_mo_leave a_mo_leases a_mo_uses a_mo_arcFrom a_mo_arcTo a_mo_arcRoom a_mo_arcCost a_mo_far a_mo_by a_mo_best a_mo_tape a_mo_kept m_arcs m_tapeMany m_tokenKind m_tokenAt m_tokenEnd m_tokenValue m_fault m_seen m_isKept m_place m_numbers)) ckX7_isPast_X7_in_64 (kcX7_in (l := l) G v1 (0 : Int32) (m_numbers (0 : Int32).toNatClampNeg) hq) ⟨rfl, rfl, Nat.le_of_ble_eq_true rfl, Nat.le_of_ble_eq_true rfl⟩ [] rfl rfl rfl rfl rfl rfl hl.1 (Nat.le_of_ble_eq_true rfl) ⟨Nat.zero_le _, Nat.zero_le _⟩ dX7_isPast_8 (fun H locs hW => ?_)
  obtain ⟨g8, h⟩ := gd_some h
  obtain rfl := Option.some.inj h
  exact g_zret X hW g8 dX7_isPast_11
theorem kcX7_isPast {l : Launch} (G : Gt) (a_mo a_mo_numbers a_mo_boxes a_mo_words a_mo_weeks a_mo_routes a_mo_turns a_mo_leave a_mo_leases a_mo_uses a_mo_arcFrom a_mo_arcTo a_mo_arcRoom a_mo_arcCost a_mo_far a_mo_by a_mo_best a_mo_tape a_mo_kept : Nat) (v1 : Int32) (m_arcs : Int32) (m_tapeMany : Int32) (m_tokenKind : Int32) (m_tokenAt : Int32) (m_tokenEnd : Int32) (m_tokenValue : Int32) (m_fault : Int32) (m_seen : Int32) (m_isKept : Int32) (m_place : Int32) (m_numbers : (Nat → Int32)) {r : Int32}  (h : fX7_isPast v1 m_numbers = some r) : CtI G l yX7_isPast wsX7_isPast rmX7_isPast [.ref a_mo, .int v1] (wX7_isPast G a_mo a_mo_numbers a_mo_boxes a_mo_words a_mo_weeks a_mo_routes a_mo_turns a_mo_leave a_mo_leases a_mo_uses a_mo_arcFrom a_mo_arcTo a_mo_arcRoom a_mo_arcCost a_mo_far a_mo_by a_mo_best a_mo_tape a_mo_kept m_arcs m_tapeMany m_tokenKind m_tokenAt m_tokenEnd m_tokenValue m_fault m_seen m_isKept m_place m_numbers) r (wX7_isPast G a_mo a_mo_numbers a_mo_boxes a_mo_words a_mo_weeks a_mo_routes a_mo_turns a_mo_leave a_mo_leases a_mo_uses a_mo_arcFrom a_mo_arcTo a_mo_arcRoom a_mo_arcCost a_mo_far a_mo_by a_mo_best a_mo_tape a_mo_kept m_arcs m_tapeMany m_tokenKind m_tokenAt m_tokenEnd m_tokenValue m_fault m_seen m_isKept m_place m_numbers) := k0X7_isPast G a_mo a_mo_numbers a_mo_boxes a_mo_words a_mo_weeks a_mo_routes a_mo_turns a_mo_leave a_mo_leases a_mo_uses a_mo_arcFrom a_mo_arcTo a_mo_arcRoom a_mo_arcCost a_mo_far a_mo_by a_mo_best a_mo_tape a_mo_kept v1 m_arcs m_tapeMany m_tokenKind m_tokenAt m_tokenEnd m_tokenValue m_fault m_seen m_isKept m_place m_numbers h
end MX7_isPast
/-! EmptyBoxesModel.isDay -/
section MX7_isDay
theorem hdX7_isDay : yX7_isDay.cls = RX7 ∧ yX7_isDay.cls ≠ "java/lang/invoke/MethodHandle" ∧ yX7_isDay.cls ≠ "java/lang/invoke/VarHandle" ∧ (parseMethodDescriptor yX7_isDay.desc).map (fun d => d.parameters.length) = some 1 := by decide +kernel
abbrev rmX7_isDay : Room := { frames := 1, cells := 0, slots := 0, locals := 22 }
theorem ckX7_isDay_X7_in_64 : CkS wsX7_isDay RX7 64 yX7_in wsX7_in cX7_in 3 (some .boolean) 3 := ⟨_, gX7_isDay_X7_in, rfl, hdX7_in.2⟩
variable {p : Program} {l : Launch} {e : Env} {s : State} {m : MethodId} {args : Array Value} {below : List Frame} {meth : Method} {c : Code} {A : Nat → Prop} {G : Gt} {res : Int32}
set_option maxHeartbeats 4000000 in
set_option maxRecDepth 100000 in
theorem k0X7_isDay {l : Launch} (G : Gt) (v0 : Int32)  {res : Int32} (h : fX7_isDay v0 = some res) : CtI G l yX7_isDay wsX7_isDay rmX7_isDay [.int v0] ([] : va_W) res ([] : va_W) := by
  refine CtI.mk (cc := cX7_isDay) (maxL := 1) (ret := (some .boolean)) (own := RX7) (by decide) rfl rfl (Nat.le_of_ble_eq_true rfl) ?_
  intro p e s m below meth c A X ls hl hW
  obtain ⟨hx, hb, -⟩ := id X.1
  have hl : lv_has ls 1 [(0, .int v0)] := hl
  generalize hH : s.heap = H at hW ⊢
  generalize hLo : ([] : List Loc) = locs at hW ⊢
  rw [fX7_isDay] at h
  refine lv_iload_n hx hb dX7_isDay_0 rfl (lv_at hl 0 rfl) ?_
  refine lv_iconst hx hb dX7_isDay_1 qI_0 ?_
  refine lv_sipush hx hb dX7_isDay_2 qS_200 ?_
  obtain ⟨r4, hq, h⟩ := bn1_some h
  refine g_csi X hW (As := [.int v0, .int (0 : Int32), .int (200 : Int32)]) (ws' := ([] : va_W)) ckX7_isDay_X7_in_64 (kcX7_in (l := l) G v0 (0 : Int32) (200 : Int32) hq) ⟨rfl, rfl, Nat.le_of_ble_eq_true rfl, Nat.le_of_ble_eq_true rfl⟩ [] rfl rfl rfl rfl rfl rfl hl.1 (Nat.le_of_ble_eq_true rfl) ⟨Nat.zero_le _, Nat.zero_le _⟩ dX7_isDay_5 (fun H locs hW => ?_)
  obtain ⟨g5, h⟩ := gd_some h
  obtain rfl := Option.some.inj h
  exact g_zret X hW g5 dX7_isDay_8
theorem kcX7_isDay {l : Launch} (G : Gt) (v0 : Int32)  {r : Int32}  (h : fX7_isDay v0 = some r) : CtI G l yX7_isDay wsX7_isDay rmX7_isDay [.int v0] ([] : va_W) r ([] : va_W) := k0X7_isDay G v0 h
end MX7_isDay
/-! EmptyBoxesModel.isPlace -/
section MX7_isPlace
theorem hdX7_isPlace : yX7_isPlace.cls = RX7 ∧ yX7_isPlace.cls ≠ "java/lang/invoke/MethodHandle" ∧ yX7_isPlace.cls ≠ "java/lang/invoke/VarHandle" ∧ (parseMethodDescriptor yX7_isPlace.desc).map (fun d => d.parameters.length) = some 1 := by decide +kernel
abbrev rmX7_isPlace : Room := { frames := 1, cells := 0, slots := 0, locals := 22 }
theorem ckX7_isPlace_X7_in_64 : CkS wsX7_isPlace RX7 64 yX7_in wsX7_in cX7_in 3 (some .boolean) 3 := ⟨_, gX7_isPlace_X7_in, rfl, hdX7_in.2⟩
variable {p : Program} {l : Launch} {e : Env} {s : State} {m : MethodId} {args : Array Value} {below : List Frame} {meth : Method} {c : Code} {A : Nat → Prop} {G : Gt} {res : Int32}
set_option maxHeartbeats 4000000 in
set_option maxRecDepth 100000 in
theorem k0X7_isPlace {l : Launch} (G : Gt) (v0 : Int32)  {res : Int32} (h : fX7_isPlace v0 = some res) : CtI G l yX7_isPlace wsX7_isPlace rmX7_isPlace [.int v0] ([] : va_W) res ([] : va_W) := by
  refine CtI.mk (cc := cX7_isPlace) (maxL := 1) (ret := (some .boolean)) (own := RX7) (by decide) rfl rfl (Nat.le_of_ble_eq_true rfl) ?_
  intro p e s m below meth c A X ls hl hW
  obtain ⟨hx, hb, -⟩ := id X.1
  have hl : lv_has ls 1 [(0, .int v0)] := hl
  generalize hH : s.heap = H at hW ⊢
  generalize hLo : ([] : List Loc) = locs at hW ⊢
  rw [fX7_isPlace] at h
  refine lv_iload_n hx hb dX7_isPlace_0 rfl (lv_at hl 0 rfl) ?_
  refine lv_iconst hx hb dX7_isPlace_1 qI_0 ?_
  refine lv_iconst hx hb dX7_isPlace_2 qI_5 ?_
  obtain ⟨r4, hq, h⟩ := bn1_some h
  refine g_csi X hW (As := [.int v0, .int (0 : Int32), .int (5 : Int32)]) (ws' := ([] : va_W)) ckX7_isPlace_X7_in_64 (kcX7_in (l := l) G v0 (0 : Int32) (5 : Int32) hq) ⟨rfl, rfl, Nat.le_of_ble_eq_true rfl, Nat.le_of_ble_eq_true rfl⟩ [] rfl rfl rfl rfl rfl rfl hl.1 (Nat.le_of_ble_eq_true rfl) ⟨Nat.zero_le _, Nat.zero_le _⟩ dX7_isPlace_3 (fun H locs hW => ?_)
  obtain ⟨g5, h⟩ := gd_some h
  obtain rfl := Option.some.inj h
  exact g_zret X hW g5 dX7_isPlace_6
theorem kcX7_isPlace {l : Launch} (G : Gt) (v0 : Int32)  {r : Int32}  (h : fX7_isPlace v0 = some r) : CtI G l yX7_isPlace wsX7_isPlace rmX7_isPlace [.int v0] ([] : va_W) r ([] : va_W) := k0X7_isPlace G v0 h
end MX7_isPlace
/-! EmptyBoxesModel.isLine -/
section MX7_isLine
theorem hdX7_isLine : yX7_isLine.cls = RX7 ∧ yX7_isLine.cls ≠ "java/lang/invoke/MethodHandle" ∧ yX7_isLine.cls ≠ "java/lang/invoke/VarHandle" ∧ (parseMethodDescriptor yX7_isLine.desc).map (fun d => d.parameters.length) = some 1 := by decide +kernel
abbrev rmX7_isLine : Room := { frames := 1, cells := 0, slots := 0, locals := 22 }
theorem ckX7_isLine_X7_in_64 : CkS wsX7_isLine RX7 64 yX7_in wsX7_in cX7_in 3 (some .boolean) 3 := ⟨_, gX7_isLine_X7_in, rfl, hdX7_in.2⟩
variable {p : Program} {l : Launch} {e : Env} {s : State} {m : MethodId} {args : Array Value} {below : List Frame} {meth : Method} {c : Code} {A : Nat → Prop} {G : Gt} {res : Int32}
set_option maxHeartbeats 4000000 in
set_option maxRecDepth 100000 in
theorem k0X7_isLine {l : Launch} (G : Gt) (v0 : Int32)  {res : Int32} (h : fX7_isLine v0 = some res) : CtI G l yX7_isLine wsX7_isLine rmX7_isLine [.int v0] ([] : va_W) res ([] : va_W) := by
  refine CtI.mk (cc := cX7_isLine) (maxL := 1) (ret := (some .boolean)) (own := RX7) (by decide) rfl rfl (Nat.le_of_ble_eq_true rfl) ?_
  intro p e s m below meth c A X ls hl hW
  obtain ⟨hx, hb, -⟩ := id X.1
  have hl : lv_has ls 1 [(0, .int v0)] := hl
  generalize hH : s.heap = H at hW ⊢
  generalize hLo : ([] : List Loc) = locs at hW ⊢
  rw [fX7_isLine] at h
  refine lv_iload_n hx hb dX7_isLine_0 rfl (lv_at hl 0 rfl) ?_
  refine lv_iconst hx hb dX7_isLine_1 qI_0 ?_
  refine lv_iconst hx hb dX7_isLine_2 qI_3 ?_
  obtain ⟨r4, hq, h⟩ := bn1_some h
  refine g_csi X hW (As := [.int v0, .int (0 : Int32), .int (3 : Int32)]) (ws' := ([] : va_W)) ckX7_isLine_X7_in_64 (kcX7_in (l := l) G v0 (0 : Int32) (3 : Int32) hq) ⟨rfl, rfl, Nat.le_of_ble_eq_true rfl, Nat.le_of_ble_eq_true rfl⟩ [] rfl rfl rfl rfl rfl rfl hl.1 (Nat.le_of_ble_eq_true rfl) ⟨Nat.zero_le _, Nat.zero_le _⟩ dX7_isLine_3 (fun H locs hW => ?_)
  obtain ⟨g5, h⟩ := gd_some h
  obtain rfl := Option.some.inj h
  exact g_zret X hW g5 dX7_isLine_6
theorem kcX7_isLine {l : Launch} (G : Gt) (v0 : Int32)  {r : Int32}  (h : fX7_isLine v0 = some r) : CtI G l yX7_isLine wsX7_isLine rmX7_isLine [.int v0] ([] : va_W) r ([] : va_W) := k0X7_isLine G v0 h
end MX7_isLine
/-! EmptyBoxesModel.days -/
section MX7_days
theorem hdX7_days : yX7_days.cls = RX7 ∧ yX7_days.cls ≠ "java/lang/invoke/MethodHandle" ∧ yX7_days.cls ≠ "java/lang/invoke/VarHandle" ∧ (parseMethodDescriptor yX7_days.desc).map (fun d => d.parameters.length) = some 1 := by decide +kernel
abbrev wX7_days (G : Gt) (a_mo a_mo_numbers a_mo_boxes a_mo_words a_mo_weeks a_mo_routes a_mo_turns a_mo_leave a_mo_leases a_mo_uses a_mo_arcFrom a_mo_arcTo a_mo_arcRoom a_mo_arcCost a_mo_far a_mo_by a_mo_best a_mo_tape a_mo_kept : Nat) (m_arcs : Int32) (m_tapeMany : Int32) (m_tokenKind : Int32) (m_tokenAt : Int32) (m_tokenEnd : Int32) (m_tokenValue : Int32) (m_fault : Int32) (m_seen : Int32) (m_isKept : Int32) (m_place : Int32) (m_numbers : (Nat → Int32)) : va_W := [(a_mo, .inr (7, [.ref a_mo_numbers, .ref a_mo_boxes, .ref a_mo_words, .ref a_mo_weeks, .ref a_mo_routes, .ref a_mo_turns, .ref a_mo_leave, .ref a_mo_leases, .ref a_mo_uses, .ref a_mo_arcFrom, .ref a_mo_arcTo, .ref a_mo_arcRoom, .ref a_mo_arcCost, .int m_arcs, .ref a_mo_far, .ref a_mo_by, .ref a_mo_best, .ref a_mo_tape, .int m_tapeMany, .int m_tokenKind, .int m_tokenAt, .int m_tokenEnd, .int m_tokenValue, .int m_fault, .int m_seen, .int m_isKept, .ref a_mo_kept, .int m_place])), (a_mo_numbers, .inl (G.2.1, 10, .inl m_numbers))]
abbrev rmX7_days : Room := { frames := 1, cells := 0, slots := 0, locals := 22 }
theorem iX7_days_X7 : ∀ w ∈ wsX70, w ∈ wsX7_days := by decide +kernel
theorem eX7_days_7 : Fk wsX7_days RX7 7 7 0 := ⟨RX7, TX7, 28, rfl, iX7_days_X7, by decide, by decide +kernel⟩
theorem ckX7_days_X7_in_64 : CkS wsX7_days RX7 64 yX7_in wsX7_in cX7_in 3 (some .boolean) 3 := ⟨_, gX7_days_X7_in, rfl, hdX7_in.2⟩
variable {p : Program} {l : Launch} {e : Env} {s : State} {m : MethodId} {args : Array Value} {below : List Frame} {meth : Method} {c : Code} {A : Nat → Prop} {G : Gt} {a_mo a_mo_numbers a_mo_boxes a_mo_words a_mo_weeks a_mo_routes a_mo_turns a_mo_leave a_mo_leases a_mo_uses a_mo_arcFrom a_mo_arcTo a_mo_arcRoom a_mo_arcCost a_mo_far a_mo_by a_mo_best a_mo_tape a_mo_kept : Nat} {m_arcs : Int32} {m_tapeMany : Int32} {m_tokenKind : Int32} {m_tokenAt : Int32} {m_tokenEnd : Int32} {m_tokenValue : Int32} {m_fault : Int32} {m_seen : Int32} {m_isKept : Int32} {m_place : Int32} {res : Int32 × (Nat → Int32)}
set_option maxHeartbeats 4000000 in
set_option maxRecDepth 100000 in
theorem k0X7_days {l : Launch} (G : Gt) (a_mo a_mo_numbers a_mo_boxes a_mo_words a_mo_weeks a_mo_routes a_mo_turns a_mo_leave a_mo_leases a_mo_uses a_mo_arcFrom a_mo_arcTo a_mo_arcRoom a_mo_arcCost a_mo_far a_mo_by a_mo_best a_mo_tape a_mo_kept : Nat) (v1 : Int32) (m_arcs : Int32) (m_tapeMany : Int32) (m_tokenKind : Int32) (m_tokenAt : Int32) (m_tokenEnd : Int32) (m_tokenValue : Int32) (m_fault : Int32) (m_seen : Int32) (m_isKept : Int32) (m_place : Int32) (m_numbers : (Nat → Int32)) {res : Int32 × (Nat → Int32)} (h : fX7_days v1 m_numbers = some res) : CtI G l yX7_days wsX7_days rmX7_days [.ref a_mo, .int v1] (wX7_days G a_mo a_mo_numbers a_mo_boxes a_mo_words a_mo_weeks a_mo_routes a_mo_turns a_mo_leave a_mo_leases a_mo_uses a_mo_arcFrom a_mo_arcTo a_mo_arcRoom a_mo_arcCost a_mo_far a_mo_by a_mo_best a_mo_tape a_mo_kept m_arcs m_tapeMany m_tokenKind m_tokenAt m_tokenEnd m_tokenValue m_fault m_seen m_isKept m_place m_numbers) res.1 (wX7_days G a_mo a_mo_numbers a_mo_boxes a_mo_words a_mo_weeks a_mo_routes a_mo_turns a_mo_leave a_mo_leases a_mo_uses a_mo_arcFrom a_mo_arcTo a_mo_arcRoom a_mo_arcCost a_mo_far a_mo_by a_mo_best a_mo_tape a_mo_kept m_arcs m_tapeMany m_tokenKind m_tokenAt m_tokenEnd m_tokenValue m_fault m_seen m_isKept m_place res.2) := by
  refine CtI.mk (cc := cX7_days) (maxL := 2) (ret := (some .int)) (own := RX7) (by decide) rfl rfl (Nat.le_of_ble_eq_true rfl) ?_
  intro p e s m below meth c A X ls hl hW
  obtain ⟨hx, hb, -⟩ := id X.1
  have hl : lv_has ls 2 [(0, .ref a_mo), (1, .int v1)] := hl
  generalize hH : s.heap = H at hW ⊢
  generalize hLo : ([] : List Loc) = locs at hW ⊢
  rw [fX7_days] at h
  refine lv_iload_n hx hb dX7_days_0 rfl (lv_at hl 1 rfl) ?_
  refine lv_iconst hx hb dX7_days_1 qI_1 ?_
  refine lv_bipush hx hb dX7_days_2 qB_30 ?_
  obtain ⟨r4, hq, h⟩ := bn1_some h
  refine g_csi X hW (As := [.int v1, .int (1 : Int32), .int (30 : Int32)]) (ws' := (wX7_days G a_mo a_mo_numbers a_mo_boxes a_mo_words a_mo_weeks a_mo_routes a_mo_turns a_mo_leave a_mo_leases a_mo_uses a_mo_arcFrom a_mo_arcTo a_mo_arcRoom a_mo_arcCost a_mo_far a_mo_by a_mo_best a_mo_tape a_mo_kept m_arcs m_tapeMany m_tokenKind m_tokenAt m_tokenEnd m_tokenValue m_fault m_seen m_isKept m_place m_numbers)) ckX7_days_X7_in_64 (kcX7_in (l := l) G v1 (1 : Int32) (30 : Int32) hq) ⟨rfl, rfl, Nat.le_of_ble_eq_true rfl, Nat.le_of_ble_eq_true rfl⟩ [] rfl rfl rfl rfl rfl rfl hl.1 (Nat.le_of_ble_eq_true rfl) ⟨Nat.zero_le _, Nat.zero_le _⟩ dX7_days_4 (fun H locs hW => ?_)
  refine lv_if_ne (tgt := 12) hx hb dX7_days_7 (by decide) (fun c5 => ?_) (fun c5 => ?_)
  · have h := (if_neg c5).symm.trans h
    refine lv_aload_n hx hb dX7_days_12 rfl (lv_at hl 0 rfl) ?_
    refine g_get X hW eX7_days_7 0 rfl rfl dX7_days_13 ?_
    refine lv_iconst hx hb dX7_days_16 qI_0 ?_
    obtain ⟨g9, h⟩ := gd_some h
    refine g_ald X hW 1 rfl g9 dX7_days_17 ?_
    refine lv_iload_n hx hb dX7_days_18 rfl (lv_at hl 1 rfl) ?_
    refine lv_iadd hx hb dX7_days_19 ?_
    refine lv_sipush hx hb dX7_days_20 qS_200 ?_
    refine lv_icmp_le (tgt := 29) hx hb dX7_days_23 (by decide) (fun c13 => ?_) (fun c13 => ?_)
    · have h := (if_pos c13).symm.trans h
      refine lv_aload_n hx hb dX7_days_29 rfl (lv_at hl 0 rfl) ?_
      refine g_get X hW eX7_days_7 0 rfl rfl dX7_days_30 ?_
      refine lv_iconst hx hb dX7_days_33 qI_0 ?_
      refine lv_dup2_11 hx hb dX7_days_34 rfl rfl ?_
      obtain ⟨g18, h⟩ := gd_some h
      refine g_ald X hW 1 rfl g18 dX7_days_35 ?_
      refine lv_iload_n hx hb dX7_days_36 rfl (lv_at hl 1 rfl) ?_
      refine lv_iadd hx hb dX7_days_37 ?_
      obtain ⟨g21, h⟩ := gd_some h
      refine g_ast X hW (ws' := (wX7_days G a_mo a_mo_numbers a_mo_boxes a_mo_words a_mo_weeks a_mo_routes a_mo_turns a_mo_leave a_mo_leases a_mo_uses a_mo_arcFrom a_mo_arcTo a_mo_arcRoom a_mo_arcCost a_mo_far a_mo_by a_mo_best a_mo_tape a_mo_kept m_arcs m_tapeMany m_tokenKind m_tokenAt m_tokenEnd m_tokenValue m_fault m_seen m_isKept m_place (upd m_numbers (0 : Int32).toNatClampNeg ((m_numbers (0 : Int32).toNatClampNeg) + v1)))) 1 rfl g21 rfl dX7_days_38 (fun H locs hW => ?_)
      refine lv_aload_n hx hb dX7_days_39 rfl (lv_at hl 0 rfl) ?_
      refine g_get X hW eX7_days_7 0 rfl rfl dX7_days_40 ?_
      refine lv_iconst hx hb dX7_days_43 qI_0 ?_
      obtain ⟨g25, h⟩ := gd_some h
      refine g_ald X hW 1 rfl g25 dX7_days_44 ?_
      obtain rfl := Option.some.inj h
      exact g_iret X hW dX7_days_45
    · have h := (if_neg c13).symm.trans h
      refine lv_bipush hx hb dX7_days_26 qB_m4 ?_
      obtain rfl := Option.some.inj h
      exact g_iret X hW dX7_days_28
  · have h := (if_pos c5).symm.trans h
    refine lv_iconst hx hb dX7_days_10 qI_m1 ?_
    obtain rfl := Option.some.inj h
    exact g_iret X hW dX7_days_11
theorem kcX7_days {l : Launch} (G : Gt) (a_mo a_mo_numbers a_mo_boxes a_mo_words a_mo_weeks a_mo_routes a_mo_turns a_mo_leave a_mo_leases a_mo_uses a_mo_arcFrom a_mo_arcTo a_mo_arcRoom a_mo_arcCost a_mo_far a_mo_by a_mo_best a_mo_tape a_mo_kept : Nat) (v1 : Int32) (m_arcs : Int32) (m_tapeMany : Int32) (m_tokenKind : Int32) (m_tokenAt : Int32) (m_tokenEnd : Int32) (m_tokenValue : Int32) (m_fault : Int32) (m_seen : Int32) (m_isKept : Int32) (m_place : Int32) (m_numbers : (Nat → Int32)) {r : Int32} {z_m_numbers : (Nat → Int32)} (h : fX7_days v1 m_numbers = some (r, z_m_numbers)) : CtI G l yX7_days wsX7_days rmX7_days [.ref a_mo, .int v1] (wX7_days G a_mo a_mo_numbers a_mo_boxes a_mo_words a_mo_weeks a_mo_routes a_mo_turns a_mo_leave a_mo_leases a_mo_uses a_mo_arcFrom a_mo_arcTo a_mo_arcRoom a_mo_arcCost a_mo_far a_mo_by a_mo_best a_mo_tape a_mo_kept m_arcs m_tapeMany m_tokenKind m_tokenAt m_tokenEnd m_tokenValue m_fault m_seen m_isKept m_place m_numbers) r (wX7_days G a_mo a_mo_numbers a_mo_boxes a_mo_words a_mo_weeks a_mo_routes a_mo_turns a_mo_leave a_mo_leases a_mo_uses a_mo_arcFrom a_mo_arcTo a_mo_arcRoom a_mo_arcCost a_mo_far a_mo_by a_mo_best a_mo_tape a_mo_kept m_arcs m_tapeMany m_tokenKind m_tokenAt m_tokenEnd m_tokenValue m_fault m_seen m_isKept m_place z_m_numbers) := k0X7_days G a_mo a_mo_numbers a_mo_boxes a_mo_words a_mo_weeks a_mo_routes a_mo_turns a_mo_leave a_mo_leases a_mo_uses a_mo_arcFrom a_mo_arcTo a_mo_arcRoom a_mo_arcCost a_mo_far a_mo_by a_mo_best a_mo_tape a_mo_kept v1 m_arcs m_tapeMany m_tokenKind m_tokenAt m_tokenEnd m_tokenValue m_fault m_seen m_isKept m_place m_numbers h
end MX7_days
/-! EmptyBoxesModel.get -/
section MX7_get
theorem hdX7_get : yX7_get.cls = RX7 ∧ yX7_get.cls ≠ "java/lang/invoke/MethodHandle" ∧ yX7_get.cls ≠ "java/lang/invoke/VarHandle" ∧ (parseMethodDescriptor yX7_get.desc).map (fun d => d.parameters.length) = some 2 := by decide +kernel
abbrev wX7_get (G : Gt) (a_mo a_mo_boxes a_mo_numbers a_mo_words a_mo_weeks a_mo_routes a_mo_turns a_mo_leave a_mo_leases a_mo_uses a_mo_arcFrom a_mo_arcTo a_mo_arcRoom a_mo_arcCost a_mo_far a_mo_by a_mo_best a_mo_tape a_mo_kept : Nat) (m_arcs : Int32) (m_tapeMany : Int32) (m_tokenKind : Int32) (m_tokenAt : Int32) (m_tokenEnd : Int32) (m_tokenValue : Int32) (m_fault : Int32) (m_seen : Int32) (m_isKept : Int32) (m_place : Int32) (m_boxes : (Nat → Int32)) : va_W := [(a_mo, .inr (7, [.ref a_mo_numbers, .ref a_mo_boxes, .ref a_mo_words, .ref a_mo_weeks, .ref a_mo_routes, .ref a_mo_turns, .ref a_mo_leave, .ref a_mo_leases, .ref a_mo_uses, .ref a_mo_arcFrom, .ref a_mo_arcTo, .ref a_mo_arcRoom, .ref a_mo_arcCost, .int m_arcs, .ref a_mo_far, .ref a_mo_by, .ref a_mo_best, .ref a_mo_tape, .int m_tapeMany, .int m_tokenKind, .int m_tokenAt, .int m_tokenEnd, .int m_tokenValue, .int m_fault, .int m_seen, .int m_isKept, .ref a_mo_kept, .int m_place])), (a_mo_boxes, .inl (G.2.1, 216, .inl m_boxes))]
abbrev rmX7_get : Room := { frames := 0, cells := 0, slots := 0, locals := 0 }
theorem iX7_get_X7 : ∀ w ∈ wsX70, w ∈ wsX7_get := by decide +kernel
theorem eX7_get_13 : Fk wsX7_get RX7 13 7 1 := ⟨RX7, TX7, 28, rfl, iX7_get_X7, by decide, by decide +kernel⟩
variable {p : Program} {l : Launch} {e : Env} {s : State} {m : MethodId} {args : Array Value} {below : List Frame} {meth : Method} {c : Code} {A : Nat → Prop} {G : Gt} {a_mo a_mo_boxes a_mo_numbers a_mo_words a_mo_weeks a_mo_routes a_mo_turns a_mo_leave a_mo_leases a_mo_uses a_mo_arcFrom a_mo_arcTo a_mo_arcRoom a_mo_arcCost a_mo_far a_mo_by a_mo_best a_mo_tape a_mo_kept : Nat} {m_arcs : Int32} {m_tapeMany : Int32} {m_tokenKind : Int32} {m_tokenAt : Int32} {m_tokenEnd : Int32} {m_tokenValue : Int32} {m_fault : Int32} {m_seen : Int32} {m_isKept : Int32} {m_place : Int32} {m_boxes : (Nat → Int32)} {res : Int32}
set_option maxHeartbeats 4000000 in
set_option maxRecDepth 100000 in
theorem k0X7_get {l : Launch} (G : Gt) (a_mo a_mo_boxes a_mo_numbers a_mo_words a_mo_weeks a_mo_routes a_mo_turns a_mo_leave a_mo_leases a_mo_uses a_mo_arcFrom a_mo_arcTo a_mo_arcRoom a_mo_arcCost a_mo_far a_mo_by a_mo_best a_mo_tape a_mo_kept : Nat) (v1 : Int32) (v2 : Int32) (m_arcs : Int32) (m_tapeMany : Int32) (m_tokenKind : Int32) (m_tokenAt : Int32) (m_tokenEnd : Int32) (m_tokenValue : Int32) (m_fault : Int32) (m_seen : Int32) (m_isKept : Int32) (m_place : Int32) (m_boxes : (Nat → Int32)) {res : Int32} (h : fX7_get v1 v2 m_boxes = some res) : CtI G l yX7_get wsX7_get rmX7_get [.ref a_mo, .int v1, .int v2] (wX7_get G a_mo a_mo_boxes a_mo_numbers a_mo_words a_mo_weeks a_mo_routes a_mo_turns a_mo_leave a_mo_leases a_mo_uses a_mo_arcFrom a_mo_arcTo a_mo_arcRoom a_mo_arcCost a_mo_far a_mo_by a_mo_best a_mo_tape a_mo_kept m_arcs m_tapeMany m_tokenKind m_tokenAt m_tokenEnd m_tokenValue m_fault m_seen m_isKept m_place m_boxes) res (wX7_get G a_mo a_mo_boxes a_mo_numbers a_mo_words a_mo_weeks a_mo_routes a_mo_turns a_mo_leave a_mo_leases a_mo_uses a_mo_arcFrom a_mo_arcTo a_mo_arcRoom a_mo_arcCost a_mo_far a_mo_by a_mo_best a_mo_tape a_mo_kept m_arcs m_tapeMany m_tokenKind m_tokenAt m_tokenEnd m_tokenValue m_fault m_seen m_isKept m_place m_boxes) := by
  refine CtI.mk (cc := cX7_get) (maxL := 3) (ret := (some .int)) (own := RX7) (by decide) rfl rfl (Nat.le_of_ble_eq_true rfl) ?_
  intro p e s m below meth c A X ls hl hW
  obtain ⟨hx, hb, -⟩ := id X.1
  have hl : lv_has ls 3 [(0, .ref a_mo), (1, .int v1), (2, .int v2)] := hl
  generalize hH : s.heap = H at hW ⊢
  generalize hLo : ([] : List Loc) = locs at hW ⊢
  rw [fX7_get] at h
  refine lv_aload_n hx hb dX7_get_0 rfl (lv_at hl 0 rfl) ?_
  refine g_get X hW eX7_get_13 0 rfl rfl dX7_get_1 ?_
  refine lv_bipush hx hb dX7_get_4 qB_9 ?_
  refine lv_iload_n hx hb dX7_get_6 rfl (lv_at hl 1 rfl) ?_
  refine lv_imul hx hb dX7_get_7 ?_
  refine lv_iload_n hx hb dX7_get_8 rfl (lv_at hl 2 rfl) ?_
  refine lv_iadd hx hb dX7_get_9 ?_
  obtain ⟨g8, h⟩ := gd_some h
  refine g_ald X hW 1 rfl g8 dX7_get_10 ?_
  obtain rfl := Option.some.inj h
  exact g_iret X hW dX7_get_11
theorem kcX7_get {l : Launch} (G : Gt) (a_mo a_mo_boxes a_mo_numbers a_mo_words a_mo_weeks a_mo_routes a_mo_turns a_mo_leave a_mo_leases a_mo_uses a_mo_arcFrom a_mo_arcTo a_mo_arcRoom a_mo_arcCost a_mo_far a_mo_by a_mo_best a_mo_tape a_mo_kept : Nat) (v1 : Int32) (v2 : Int32) (m_arcs : Int32) (m_tapeMany : Int32) (m_tokenKind : Int32) (m_tokenAt : Int32) (m_tokenEnd : Int32) (m_tokenValue : Int32) (m_fault : Int32) (m_seen : Int32) (m_isKept : Int32) (m_place : Int32) (m_boxes : (Nat → Int32)) {r : Int32}  (h : fX7_get v1 v2 m_boxes = some r) : CtI G l yX7_get wsX7_get rmX7_get [.ref a_mo, .int v1, .int v2] (wX7_get G a_mo a_mo_boxes a_mo_numbers a_mo_words a_mo_weeks a_mo_routes a_mo_turns a_mo_leave a_mo_leases a_mo_uses a_mo_arcFrom a_mo_arcTo a_mo_arcRoom a_mo_arcCost a_mo_far a_mo_by a_mo_best a_mo_tape a_mo_kept m_arcs m_tapeMany m_tokenKind m_tokenAt m_tokenEnd m_tokenValue m_fault m_seen m_isKept m_place m_boxes) r (wX7_get G a_mo a_mo_boxes a_mo_numbers a_mo_words a_mo_weeks a_mo_routes a_mo_turns a_mo_leave a_mo_leases a_mo_uses a_mo_arcFrom a_mo_arcTo a_mo_arcRoom a_mo_arcCost a_mo_far a_mo_by a_mo_best a_mo_tape a_mo_kept m_arcs m_tapeMany m_tokenKind m_tokenAt m_tokenEnd m_tokenValue m_fault m_seen m_isKept m_place m_boxes) := k0X7_get G a_mo a_mo_boxes a_mo_numbers a_mo_words a_mo_weeks a_mo_routes a_mo_turns a_mo_leave a_mo_leases a_mo_uses a_mo_arcFrom a_mo_arcTo a_mo_arcRoom a_mo_arcCost a_mo_far a_mo_by a_mo_best a_mo_tape a_mo_kept v1 v2 m_arcs m_tapeMany m_tokenKind m_tokenAt m_tokenEnd m_tokenValue m_fault m_seen m_isKept m_place m_boxes h
end MX7_get
/-! EmptyBoxesModel.boxOf -/
section MX7_boxOf
theorem hdX7_boxOf : yX7_boxOf.cls = RX7 ∧ yX7_boxOf.cls ≠ "java/lang/invoke/MethodHandle" ∧ yX7_boxOf.cls ≠ "java/lang/invoke/VarHandle" ∧ (parseMethodDescriptor yX7_boxOf.desc).map (fun d => d.parameters.length) = some 1 := by decide +kernel
abbrev wX7_boxOf (G : Gt) (a_mo a_mo_numbers a_mo_boxes a_mo_words a_mo_weeks a_mo_routes a_mo_turns a_mo_leave a_mo_leases a_mo_uses a_mo_arcFrom a_mo_arcTo a_mo_arcRoom a_mo_arcCost a_mo_far a_mo_by a_mo_best a_mo_tape a_mo_kept : Nat) (m_arcs : Int32) (m_tapeMany : Int32) (m_tokenKind : Int32) (m_tokenAt : Int32) (m_tokenEnd : Int32) (m_tokenValue : Int32) (m_fault : Int32) (m_seen : Int32) (m_isKept : Int32) (m_place : Int32) (m_numbers : (Nat → Int32)) (m_boxes : (Nat → Int32)) : va_W := [(a_mo, .inr (7, [.ref a_mo_numbers, .ref a_mo_boxes, .ref a_mo_words, .ref a_mo_weeks, .ref a_mo_routes, .ref a_mo_turns, .ref a_mo_leave, .ref a_mo_leases, .ref a_mo_uses, .ref a_mo_arcFrom, .ref a_mo_arcTo, .ref a_mo_arcRoom, .ref a_mo_arcCost, .int m_arcs, .ref a_mo_far, .ref a_mo_by, .ref a_mo_best, .ref a_mo_tape, .int m_tapeMany, .int m_tokenKind, .int m_tokenAt, .int m_tokenEnd, .int m_tokenValue, .int m_fault, .int m_seen, .int m_isKept, .ref a_mo_kept, .int m_place])), (a_mo_numbers, .inl (G.2.1, 10, .inl m_numbers)), (a_mo_boxes, .inl (G.2.1, 216, .inl m_boxes))]
abbrev rmX7_boxOf : Room := { frames := 1, cells := 0, slots := 0, locals := 22 }
theorem iX7_boxOf_X7 : ∀ w ∈ wsX70, w ∈ wsX7_boxOf := by decide +kernel
theorem eX7_boxOf_7 : Fk wsX7_boxOf RX7 7 7 0 := ⟨RX7, TX7, 28, rfl, iX7_boxOf_X7, by decide, by decide +kernel⟩
theorem ckX7_boxOf_X7_get_68 : CkV wsX7_boxOf RX7 68 yX7_get wsX7_get cX7_get 3 (some .int) 2 7 := ⟨RX7, TX7, 28, _, rfl, gX7_boxOf_X7_get, rfl, hdX7_get⟩
variable {p : Program} {l : Launch} {e : Env} {s : State} {m : MethodId} {args : Array Value} {below : List Frame} {meth : Method} {c : Code} {A : Nat → Prop} {G : Gt} {a_mo a_mo_numbers a_mo_boxes a_mo_words a_mo_weeks a_mo_routes a_mo_turns a_mo_leave a_mo_leases a_mo_uses a_mo_arcFrom a_mo_arcTo a_mo_arcRoom a_mo_arcCost a_mo_far a_mo_by a_mo_best a_mo_tape a_mo_kept : Nat} {m_arcs : Int32} {m_tapeMany : Int32} {m_tokenKind : Int32} {m_tokenAt : Int32} {m_tokenEnd : Int32} {m_tokenValue : Int32} {m_fault : Int32} {m_seen : Int32} {m_isKept : Int32} {m_place : Int32} {m_numbers : (Nat → Int32)} {m_boxes : (Nat → Int32)} {res : Int32}
set_option maxHeartbeats 4000000 in
set_option maxRecDepth 100000 in
theorem tX7_boxOf_2 (X : Bx p s m args meth c cX7_boxOf 3 wsX7_boxOf RX7 (some .int)) (v1 : Int32)   : ∀ (n : Nat) (v2 : Int32), fX7_boxOf_2 v1 m_numbers m_boxes n v2 = some res → ∀ (H : Heap) (locs : List Loc), Wo G A s (wX7_boxOf G a_mo a_mo_numbers a_mo_boxes a_mo_words a_mo_weeks a_mo_routes a_mo_turns a_mo_leave a_mo_leases a_mo_uses a_mo_arcFrom a_mo_arcTo a_mo_arcRoom a_mo_arcCost a_mo_far a_mo_by a_mo_best a_mo_tape a_mo_kept m_arcs m_tapeMany m_tokenKind m_tokenAt m_tokenEnd m_tokenValue m_fault m_seen m_isKept m_place m_numbers m_boxes) H locs → ∀ ls : Array Slot, lv_has ls 3 [(0, .ref a_mo), (1, .int v1), (2, .int v2)] → W p l e rmX7_boxOf s m args below meth c H locs 0 0 (QI G A below args s res (wX7_boxOf G a_mo a_mo_numbers a_mo_boxes a_mo_words a_mo_weeks a_mo_routes a_mo_turns a_mo_leave a_mo_leases a_mo_uses a_mo_arcFrom a_mo_arcTo a_mo_arcRoom a_mo_arcCost a_mo_far a_mo_by a_mo_best a_mo_tape a_mo_kept m_arcs m_tapeMany m_tokenKind m_tokenAt m_tokenEnd m_tokenValue m_fault m_seen m_isKept m_place m_numbers m_boxes)) (F0 m 2 ls []) := by
  obtain ⟨hx, hb, -⟩ := id X.1
  intro n
  induction n with
  | zero => intro v2 h; rw [fX7_boxOf_2] at h; cases h
  | succ n ih =>
    intro v2 h H locs hW ls hl
    rw [fX7_boxOf_2] at h
    refine lv_iload_n hx hb dX7_boxOf_2 rfl (lv_at hl 2 rfl) ?_
    refine lv_aload_n hx hb dX7_boxOf_3 rfl (lv_at hl 0 rfl) ?_
    refine g_get X hW eX7_boxOf_7 0 rfl rfl dX7_boxOf_4 ?_
    refine lv_iconst hx hb dX7_boxOf_7 qI_1 ?_
    obtain ⟨g5, h⟩ := gd_some h
    refine g_ald X hW 1 rfl g5 dX7_boxOf_8 ?_
    refine lv_icmp_ge (tgt := 30) hx hb dX7_boxOf_9 (by decide) (fun c6 => ?_) (fun c6 => ?_)
    · have h := (if_pos c6).symm.trans h
      refine lv_iconst hx hb dX7_boxOf_30 qI_m1 ?_
      obtain rfl := Option.some.inj h
      exact g_iret X hW dX7_boxOf_31
    · have h := (if_neg c6).symm.trans h
      refine lv_aload_n hx hb dX7_boxOf_12 rfl (lv_at hl 0 rfl) ?_
      refine lv_iload_n hx hb dX7_boxOf_13 rfl (lv_at hl 2 rfl) ?_
      refine lv_iconst hx hb dX7_boxOf_14 qI_0 ?_
      obtain ⟨r12, hq, h⟩ := bn1_some h
      refine g_cvi X hW (As := [.int v2, .int (0 : Int32)]) (ws' := (wX7_boxOf G a_mo a_mo_numbers a_mo_boxes a_mo_words a_mo_weeks a_mo_routes a_mo_turns a_mo_leave a_mo_leases a_mo_uses a_mo_arcFrom a_mo_arcTo a_mo_arcRoom a_mo_arcCost a_mo_far a_mo_by a_mo_best a_mo_tape a_mo_kept m_arcs m_tapeMany m_tokenKind m_tokenAt m_tokenEnd m_tokenValue m_fault m_seen m_isKept m_place m_numbers m_boxes)) ckX7_boxOf_X7_get_68 (kcX7_get (l := l) G a_mo a_mo_boxes a_mo_numbers a_mo_words a_mo_weeks a_mo_routes a_mo_turns a_mo_leave a_mo_leases a_mo_uses a_mo_arcFrom a_mo_arcTo a_mo_arcRoom a_mo_arcCost a_mo_far a_mo_by a_mo_best a_mo_tape a_mo_kept v2 (0 : Int32) m_arcs m_tapeMany m_tokenKind m_tokenAt m_tokenEnd m_tokenValue m_fault m_seen m_isKept m_place m_boxes hq) ⟨rfl, rfl, Nat.le_of_ble_eq_true rfl, Nat.le_of_ble_eq_true rfl⟩ [0, 2] rfl rfl rfl rfl rfl rfl rfl hl.1 (Nat.le_of_ble_eq_true rfl) ⟨Nat.zero_le _, Nat.zero_le _⟩ dX7_boxOf_15 (fun H locs hW => ?_)
      refine lv_iload_n hx hb dX7_boxOf_18 rfl (lv_at hl 1 rfl) ?_
      refine lv_icmp_ne (tgt := 24) hx hb dX7_boxOf_19 (by decide) (fun c14 => ?_) (fun c14 => ?_)
      · have h := (if_neg c14).symm.trans h
        refine lv_iinc (v := (v2 + (1 : Int32))) (lv' := [(2, .int (v2 + (1 : Int32))), (0, .ref a_mo), (1, .int v1)]) hx hb dX7_boxOf_24 hl (k := 2) rfl (congrArg (fun z => v2 + z) qI_1) (by decide) rfl (fun ls hl => ?_)
        refine lv_goto (tgt := 2) hx hb dX7_boxOf_27 (by decide) ?_
        exact ih (v2 + (1 : Int32)) h H locs hW ls (lv_sub hl [1, 2, 0] rfl)
      · have h := (if_pos c14).symm.trans h
        refine lv_iload_n hx hb dX7_boxOf_22 rfl (lv_at hl 2 rfl) ?_
        obtain rfl := Option.some.inj h
        exact g_iret X hW dX7_boxOf_23
set_option maxHeartbeats 4000000 in
set_option maxRecDepth 100000 in
theorem k0X7_boxOf {l : Launch} (G : Gt) (a_mo a_mo_numbers a_mo_boxes a_mo_words a_mo_weeks a_mo_routes a_mo_turns a_mo_leave a_mo_leases a_mo_uses a_mo_arcFrom a_mo_arcTo a_mo_arcRoom a_mo_arcCost a_mo_far a_mo_by a_mo_best a_mo_tape a_mo_kept : Nat) (v1 : Int32) (m_arcs : Int32) (m_tapeMany : Int32) (m_tokenKind : Int32) (m_tokenAt : Int32) (m_tokenEnd : Int32) (m_tokenValue : Int32) (m_fault : Int32) (m_seen : Int32) (m_isKept : Int32) (m_place : Int32) (m_numbers : (Nat → Int32)) (m_boxes : (Nat → Int32)) {res : Int32} (h : fX7_boxOf v1 m_numbers m_boxes = some res) : CtI G l yX7_boxOf wsX7_boxOf rmX7_boxOf [.ref a_mo, .int v1] (wX7_boxOf G a_mo a_mo_numbers a_mo_boxes a_mo_words a_mo_weeks a_mo_routes a_mo_turns a_mo_leave a_mo_leases a_mo_uses a_mo_arcFrom a_mo_arcTo a_mo_arcRoom a_mo_arcCost a_mo_far a_mo_by a_mo_best a_mo_tape a_mo_kept m_arcs m_tapeMany m_tokenKind m_tokenAt m_tokenEnd m_tokenValue m_fault m_seen m_isKept m_place m_numbers m_boxes) res (wX7_boxOf G a_mo a_mo_numbers a_mo_boxes a_mo_words a_mo_weeks a_mo_routes a_mo_turns a_mo_leave a_mo_leases a_mo_uses a_mo_arcFrom a_mo_arcTo a_mo_arcRoom a_mo_arcCost a_mo_far a_mo_by a_mo_best a_mo_tape a_mo_kept m_arcs m_tapeMany m_tokenKind m_tokenAt m_tokenEnd m_tokenValue m_fault m_seen m_isKept m_place m_numbers m_boxes) := by
  refine CtI.mk (cc := cX7_boxOf) (maxL := 3) (ret := (some .int)) (own := RX7) (by decide) rfl rfl (Nat.le_of_ble_eq_true rfl) ?_
  intro p e s m below meth c A X ls hl hW
  obtain ⟨hx, hb, -⟩ := id X.1
  have hl : lv_has ls 3 [(0, .ref a_mo), (1, .int v1)] := hl
  generalize hH : s.heap = H at hW ⊢
  generalize hLo : ([] : List Loc) = locs at hW ⊢
  rw [fX7_boxOf] at h
  refine lv_iconst hx hb dX7_boxOf_0 qI_0 ?_
  refine lv_istore_n (lv' := [(2, .int (0 : Int32)), (0, .ref a_mo), (1, .int v1)]) hx hb dX7_boxOf_1 rfl hl (by decide) rfl (fun ls hl => ?_)
  exact tX7_boxOf_2 X v1 FU (0 : Int32) h H locs hW ls (lv_sub hl [1, 2, 0] rfl)
theorem kcX7_boxOf {l : Launch} (G : Gt) (a_mo a_mo_numbers a_mo_boxes a_mo_words a_mo_weeks a_mo_routes a_mo_turns a_mo_leave a_mo_leases a_mo_uses a_mo_arcFrom a_mo_arcTo a_mo_arcRoom a_mo_arcCost a_mo_far a_mo_by a_mo_best a_mo_tape a_mo_kept : Nat) (v1 : Int32) (m_arcs : Int32) (m_tapeMany : Int32) (m_tokenKind : Int32) (m_tokenAt : Int32) (m_tokenEnd : Int32) (m_tokenValue : Int32) (m_fault : Int32) (m_seen : Int32) (m_isKept : Int32) (m_place : Int32) (m_numbers : (Nat → Int32)) (m_boxes : (Nat → Int32)) {r : Int32}  (h : fX7_boxOf v1 m_numbers m_boxes = some r) : CtI G l yX7_boxOf wsX7_boxOf rmX7_boxOf [.ref a_mo, .int v1] (wX7_boxOf G a_mo a_mo_numbers a_mo_boxes a_mo_words a_mo_weeks a_mo_routes a_mo_turns a_mo_leave a_mo_leases a_mo_uses a_mo_arcFrom a_mo_arcTo a_mo_arcRoom a_mo_arcCost a_mo_far a_mo_by a_mo_best a_mo_tape a_mo_kept m_arcs m_tapeMany m_tokenKind m_tokenAt m_tokenEnd m_tokenValue m_fault m_seen m_isKept m_place m_numbers m_boxes) r (wX7_boxOf G a_mo a_mo_numbers a_mo_boxes a_mo_words a_mo_weeks a_mo_routes a_mo_turns a_mo_leave a_mo_leases a_mo_uses a_mo_arcFrom a_mo_arcTo a_mo_arcRoom a_mo_arcCost a_mo_far a_mo_by a_mo_best a_mo_tape a_mo_kept m_arcs m_tapeMany m_tokenKind m_tokenAt m_tokenEnd m_tokenValue m_fault m_seen m_isKept m_place m_numbers m_boxes) := k0X7_boxOf G a_mo a_mo_numbers a_mo_boxes a_mo_words a_mo_weeks a_mo_routes a_mo_turns a_mo_leave a_mo_leases a_mo_uses a_mo_arcFrom a_mo_arcTo a_mo_arcRoom a_mo_arcCost a_mo_far a_mo_by a_mo_best a_mo_tape a_mo_kept v1 m_arcs m_tapeMany m_tokenKind m_tokenAt m_tokenEnd m_tokenValue m_fault m_seen m_isKept m_place m_numbers m_boxes h
end MX7_boxOf
/-! EmptyBoxesModel.box -/
section MX7_box
theorem hdX7_box : yX7_box.cls = RX7 ∧ yX7_box.cls ≠ "java/lang/invoke/MethodHandle" ∧ yX7_box.cls ≠ "java/lang/invoke/VarHandle" ∧ (parseMethodDescriptor yX7_box.desc).map (fun d => d.parameters.length) = some 4 := by decide +kernel
abbrev wX7_box (G : Gt) (a_mo a_mo_numbers a_mo_boxes a_mo_leases a_mo_words a_mo_weeks a_mo_routes a_mo_turns a_mo_leave a_mo_uses a_mo_arcFrom a_mo_arcTo a_mo_arcRoom a_mo_arcCost a_mo_far a_mo_by a_mo_best a_mo_tape a_mo_kept : Nat) (m_arcs : Int32) (m_tapeMany : Int32) (m_tokenKind : Int32) (m_tokenAt : Int32) (m_tokenEnd : Int32) (m_tokenValue : Int32) (m_fault : Int32) (m_seen : Int32) (m_isKept : Int32) (m_place : Int32) (m_numbers : (Nat → Int32)) (m_boxes : (Nat → Int32)) (m_leases : (Nat → Int32)) : va_W := [(a_mo, .inr (7, [.ref a_mo_numbers, .ref a_mo_boxes, .ref a_mo_words, .ref a_mo_weeks, .ref a_mo_routes, .ref a_mo_turns, .ref a_mo_leave, .ref a_mo_leases, .ref a_mo_uses, .ref a_mo_arcFrom, .ref a_mo_arcTo, .ref a_mo_arcRoom, .ref a_mo_arcCost, .int m_arcs, .ref a_mo_far, .ref a_mo_by, .ref a_mo_best, .ref a_mo_tape, .int m_tapeMany, .int m_tokenKind, .int m_tokenAt, .int m_tokenEnd, .int m_tokenValue, .int m_fault, .int m_seen, .int m_isKept, .ref a_mo_kept, .int m_place])), (a_mo_numbers, .inl (G.2.1, 10, .inl m_numbers)), (a_mo_boxes, .inl (G.2.1, 216, .inl m_boxes)), (a_mo_leases, .inl (G.2.1, 68, .inl m_leases))]
abbrev rmX7_box : Room := { frames := 2, cells := 0, slots := 0, locals := 44 }
theorem iX7_box_X7 : ∀ w ∈ wsX70, w ∈ wsX7_box := by decide +kernel
theorem eX7_box_13 : Fk wsX7_box RX7 13 7 1 := ⟨RX7, TX7, 28, rfl, iX7_box_X7, by decide, by decide +kernel⟩
theorem eX7_box_31 : Fk wsX7_box RX7 31 7 7 := ⟨RX7, TX7, 28, rfl, iX7_box_X7, by decide, by decide +kernel⟩
theorem eX7_box_7 : Fk wsX7_box RX7 7 7 0 := ⟨RX7, TX7, 28, rfl, iX7_box_X7, by decide, by decide +kernel⟩
theorem ckX7_box_X7_boxOf_76 : CkV wsX7_box RX7 76 yX7_boxOf wsX7_boxOf cX7_boxOf 3 (some .int) 1 7 := ⟨RX7, TX7, 28, _, rfl, gX7_box_X7_boxOf, rfl, hdX7_boxOf⟩
theorem ckX7_box_X7_in_64 : CkS wsX7_box RX7 64 yX7_in wsX7_in cX7_in 3 (some .boolean) 3 := ⟨_, gX7_box_X7_in, rfl, hdX7_in.2⟩
theorem ckX7_box_X7_isLine_72 : CkS wsX7_box RX7 72 yX7_isLine wsX7_isLine cX7_isLine 1 (some .boolean) 1 := ⟨_, gX7_box_X7_isLine, rfl, hdX7_isLine.2⟩
variable {p : Program} {l : Launch} {e : Env} {s : State} {m : MethodId} {args : Array Value} {below : List Frame} {meth : Method} {c : Code} {A : Nat → Prop} {G : Gt} {a_mo a_mo_numbers a_mo_boxes a_mo_leases a_mo_words a_mo_weeks a_mo_routes a_mo_turns a_mo_leave a_mo_uses a_mo_arcFrom a_mo_arcTo a_mo_arcRoom a_mo_arcCost a_mo_far a_mo_by a_mo_best a_mo_tape a_mo_kept : Nat} {m_arcs : Int32} {m_tapeMany : Int32} {m_tokenKind : Int32} {m_tokenAt : Int32} {m_tokenEnd : Int32} {m_tokenValue : Int32} {m_fault : Int32} {m_seen : Int32} {m_isKept : Int32} {m_place : Int32} {m_leases : (Nat → Int32)} {res : Int32 × (Nat → Int32) × (Nat → Int32)}
set_option maxHeartbeats 4000000 in
set_option maxRecDepth 100000 in
theorem tX7_box_71 (X : Bx p s m args meth c cX7_box 6 wsX7_box RX7 (some .int)) (v1 : Int32) (v2 : Int32) (v3 : Int32) (v4 : Int32) (m_numbers : (Nat → Int32)) (m_boxes : (Nat → Int32))   (h : fX7_box_71 v1 v2 v3 v4 m_numbers m_boxes = some res) : ∀ (H : Heap) (locs : List Loc), Wo G A s (wX7_box G a_mo a_mo_numbers a_mo_boxes a_mo_leases a_mo_words a_mo_weeks a_mo_routes a_mo_turns a_mo_leave a_mo_uses a_mo_arcFrom a_mo_arcTo a_mo_arcRoom a_mo_arcCost a_mo_far a_mo_by a_mo_best a_mo_tape a_mo_kept m_arcs m_tapeMany m_tokenKind m_tokenAt m_tokenEnd m_tokenValue m_fault m_seen m_isKept m_place m_numbers m_boxes m_leases) H locs → ∀ ls : Array Slot, lv_has ls 6 [(0, .ref a_mo), (1, .int v1), (2, .int v2), (3, .int v3), (4, .int v4)] → W p l e rmX7_box s m args below meth c H locs 0 0 (QI G A below args s res.1 (wX7_box G a_mo a_mo_numbers a_mo_boxes a_mo_leases a_mo_words a_mo_weeks a_mo_routes a_mo_turns a_mo_leave a_mo_uses a_mo_arcFrom a_mo_arcTo a_mo_arcRoom a_mo_arcCost a_mo_far a_mo_by a_mo_best a_mo_tape a_mo_kept m_arcs m_tapeMany m_tokenKind m_tokenAt m_tokenEnd m_tokenValue m_fault m_seen m_isKept m_place res.2.1 res.2.2 m_leases)) (F0 m 71 ls []) := by
  obtain ⟨hx, hb, -⟩ := id X.1
  intro H locs hW ls hl
  rw [fX7_box_71] at h
  refine lv_aload_n hx hb dX7_box_71 rfl (lv_at hl 0 rfl) ?_
  refine g_get X hW eX7_box_7 0 rfl rfl dX7_box_72 ?_
  refine lv_iconst hx hb dX7_box_75 qI_1 ?_
  obtain ⟨g4, h⟩ := gd_some h
  refine g_ald X hW 1 rfl g4 dX7_box_76 ?_
  refine lv_bipush hx hb dX7_box_77 qB_24 ?_
  refine lv_icmp_ne (tgt := 85) hx hb dX7_box_79 (by decide) (fun c6 => ?_) (fun c6 => ?_)
  · have h := (if_neg c6).symm.trans h
    refine lv_bipush hx hb dX7_box_85 qB_9 ?_
    refine lv_aload_n hx hb dX7_box_87 rfl (lv_at hl 0 rfl) ?_
    refine g_get X hW eX7_box_7 0 rfl rfl dX7_box_88 ?_
    refine lv_iconst hx hb dX7_box_91 qI_1 ?_
    obtain ⟨g11, h⟩ := gd_some h
    refine g_ald X hW 1 rfl g11 dX7_box_92 ?_
    refine lv_imul hx hb dX7_box_93 ?_
    refine lv_istore (lv' := [(5, .int ((9 : Int32) * (m_numbers (1 : Int32).toNatClampNeg))), (0, .ref a_mo), (1, .int v1), (2, .int v2), (3, .int v3), (4, .int v4)]) hx hb dX7_box_94 hl (by decide) rfl (fun ls hl => ?_)
    refine lv_aload_n hx hb dX7_box_96 rfl (lv_at hl 1 rfl) ?_
    refine g_get X hW eX7_box_13 0 rfl rfl dX7_box_97 ?_
    refine lv_iload hx hb dX7_box_100 (lv_at hl 0 rfl) ?_
    refine lv_iload_n hx hb dX7_box_102 rfl (lv_at hl 2 rfl) ?_
    obtain ⟨g18, h⟩ := gd_some h
    refine g_ast X hW (ws' := (wX7_box G a_mo a_mo_numbers a_mo_boxes a_mo_leases a_mo_words a_mo_weeks a_mo_routes a_mo_turns a_mo_leave a_mo_uses a_mo_arcFrom a_mo_arcTo a_mo_arcRoom a_mo_arcCost a_mo_far a_mo_by a_mo_best a_mo_tape a_mo_kept m_arcs m_tapeMany m_tokenKind m_tokenAt m_tokenEnd m_tokenValue m_fault m_seen m_isKept m_place m_numbers (upd m_boxes ((9 : Int32) * (m_numbers (1 : Int32).toNatClampNeg)).toNatClampNeg v1) m_leases)) 2 rfl g18 rfl dX7_box_103 (fun H locs hW => ?_)
    refine lv_aload_n hx hb dX7_box_104 rfl (lv_at hl 1 rfl) ?_
    refine g_get X hW eX7_box_13 0 rfl rfl dX7_box_105 ?_
    refine lv_iload hx hb dX7_box_108 (lv_at hl 0 rfl) ?_
    refine lv_iconst hx hb dX7_box_110 qI_1 ?_
    refine lv_iadd hx hb dX7_box_111 ?_
    refine lv_iload_n hx hb dX7_box_112 rfl (lv_at hl 3 rfl) ?_
    obtain ⟨g25, h⟩ := gd_some h
    refine g_ast X hW (ws' := (wX7_box G a_mo a_mo_numbers a_mo_boxes a_mo_leases a_mo_words a_mo_weeks a_mo_routes a_mo_turns a_mo_leave a_mo_uses a_mo_arcFrom a_mo_arcTo a_mo_arcRoom a_mo_arcCost a_mo_far a_mo_by a_mo_best a_mo_tape a_mo_kept m_arcs m_tapeMany m_tokenKind m_tokenAt m_tokenEnd m_tokenValue m_fault m_seen m_isKept m_place m_numbers (upd (upd m_boxes ((9 : Int32) * (m_numbers (1 : Int32).toNatClampNeg)).toNatClampNeg v1) (((9 : Int32) * (m_numbers (1 : Int32).toNatClampNeg)) + (1 : Int32)).toNatClampNeg v2) m_leases)) 2 rfl g25 rfl dX7_box_113 (fun H locs hW => ?_)
    refine lv_aload_n hx hb dX7_box_114 rfl (lv_at hl 1 rfl) ?_
    refine g_get X hW eX7_box_13 0 rfl rfl dX7_box_115 ?_
    refine lv_iload hx hb dX7_box_118 (lv_at hl 0 rfl) ?_
    refine lv_iconst hx hb dX7_box_120 qI_2 ?_
    refine lv_iadd hx hb dX7_box_121 ?_
    refine lv_iload_n hx hb dX7_box_122 rfl (lv_at hl 4 rfl) ?_
    obtain ⟨g32, h⟩ := gd_some h
    refine g_ast X hW (ws' := (wX7_box G a_mo a_mo_numbers a_mo_boxes a_mo_leases a_mo_words a_mo_weeks a_mo_routes a_mo_turns a_mo_leave a_mo_uses a_mo_arcFrom a_mo_arcTo a_mo_arcRoom a_mo_arcCost a_mo_far a_mo_by a_mo_best a_mo_tape a_mo_kept m_arcs m_tapeMany m_tokenKind m_tokenAt m_tokenEnd m_tokenValue m_fault m_seen m_isKept m_place m_numbers (upd (upd (upd m_boxes ((9 : Int32) * (m_numbers (1 : Int32).toNatClampNeg)).toNatClampNeg v1) (((9 : Int32) * (m_numbers (1 : Int32).toNatClampNeg)) + (1 : Int32)).toNatClampNeg v2) (((9 : Int32) * (m_numbers (1 : Int32).toNatClampNeg)) + (2 : Int32)).toNatClampNeg v3) m_leases)) 2 rfl g32 rfl dX7_box_123 (fun H locs hW => ?_)
    refine lv_aload_n hx hb dX7_box_124 rfl (lv_at hl 1 rfl) ?_
    refine g_get X hW eX7_box_13 0 rfl rfl dX7_box_125 ?_
    refine lv_iload hx hb dX7_box_128 (lv_at hl 0 rfl) ?_
    refine lv_iconst hx hb dX7_box_130 qI_3 ?_
    refine lv_iadd hx hb dX7_box_131 ?_
    refine lv_iload hx hb dX7_box_132 (lv_at hl 5 rfl) ?_
    obtain ⟨g39, h⟩ := gd_some h
    refine g_ast X hW (ws' := (wX7_box G a_mo a_mo_numbers a_mo_boxes a_mo_leases a_mo_words a_mo_weeks a_mo_routes a_mo_turns a_mo_leave a_mo_uses a_mo_arcFrom a_mo_arcTo a_mo_arcRoom a_mo_arcCost a_mo_far a_mo_by a_mo_best a_mo_tape a_mo_kept m_arcs m_tapeMany m_tokenKind m_tokenAt m_tokenEnd m_tokenValue m_fault m_seen m_isKept m_place m_numbers (upd (upd (upd (upd m_boxes ((9 : Int32) * (m_numbers (1 : Int32).toNatClampNeg)).toNatClampNeg v1) (((9 : Int32) * (m_numbers (1 : Int32).toNatClampNeg)) + (1 : Int32)).toNatClampNeg v2) (((9 : Int32) * (m_numbers (1 : Int32).toNatClampNeg)) + (2 : Int32)).toNatClampNeg v3) (((9 : Int32) * (m_numbers (1 : Int32).toNatClampNeg)) + (3 : Int32)).toNatClampNeg v4) m_leases)) 2 rfl g39 rfl dX7_box_134 (fun H locs hW => ?_)
    refine lv_aload_n hx hb dX7_box_135 rfl (lv_at hl 1 rfl) ?_
    refine g_get X hW eX7_box_13 0 rfl rfl dX7_box_136 ?_
    refine lv_iload hx hb dX7_box_139 (lv_at hl 0 rfl) ?_
    refine lv_iconst hx hb dX7_box_141 qI_4 ?_
    refine lv_iadd hx hb dX7_box_142 ?_
    refine lv_aload_n hx hb dX7_box_143 rfl (lv_at hl 1 rfl) ?_
    refine g_get X hW eX7_box_7 0 rfl rfl dX7_box_144 ?_
    refine lv_iconst hx hb dX7_box_147 qI_0 ?_
    obtain ⟨g48, h⟩ := gd_some h
    refine g_ald X hW 1 rfl g48 dX7_box_148 ?_
    obtain ⟨g49, h⟩ := gd_some h
    refine g_ast X hW (ws' := (wX7_box G a_mo a_mo_numbers a_mo_boxes a_mo_leases a_mo_words a_mo_weeks a_mo_routes a_mo_turns a_mo_leave a_mo_uses a_mo_arcFrom a_mo_arcTo a_mo_arcRoom a_mo_arcCost a_mo_far a_mo_by a_mo_best a_mo_tape a_mo_kept m_arcs m_tapeMany m_tokenKind m_tokenAt m_tokenEnd m_tokenValue m_fault m_seen m_isKept m_place m_numbers (upd (upd (upd (upd (upd m_boxes ((9 : Int32) * (m_numbers (1 : Int32).toNatClampNeg)).toNatClampNeg v1) (((9 : Int32) * (m_numbers (1 : Int32).toNatClampNeg)) + (1 : Int32)).toNatClampNeg v2) (((9 : Int32) * (m_numbers (1 : Int32).toNatClampNeg)) + (2 : Int32)).toNatClampNeg v3) (((9 : Int32) * (m_numbers (1 : Int32).toNatClampNeg)) + (3 : Int32)).toNatClampNeg v4) (((9 : Int32) * (m_numbers (1 : Int32).toNatClampNeg)) + (4 : Int32)).toNatClampNeg (m_numbers (0 : Int32).toNatClampNeg)) m_leases)) 2 rfl g49 rfl dX7_box_149 (fun H locs hW => ?_)
    refine lv_aload_n hx hb dX7_box_150 rfl (lv_at hl 1 rfl) ?_
    refine g_get X hW eX7_box_13 0 rfl rfl dX7_box_151 ?_
    refine lv_iload hx hb dX7_box_154 (lv_at hl 0 rfl) ?_
    refine lv_iconst hx hb dX7_box_156 qI_5 ?_
    refine lv_iadd hx hb dX7_box_157 ?_
    refine lv_iconst hx hb dX7_box_158 qI_0 ?_
    obtain ⟨g56, h⟩ := gd_some h
    refine g_ast X hW (ws' := (wX7_box G a_mo a_mo_numbers a_mo_boxes a_mo_leases a_mo_words a_mo_weeks a_mo_routes a_mo_turns a_mo_leave a_mo_uses a_mo_arcFrom a_mo_arcTo a_mo_arcRoom a_mo_arcCost a_mo_far a_mo_by a_mo_best a_mo_tape a_mo_kept m_arcs m_tapeMany m_tokenKind m_tokenAt m_tokenEnd m_tokenValue m_fault m_seen m_isKept m_place m_numbers (upd (upd (upd (upd (upd (upd m_boxes ((9 : Int32) * (m_numbers (1 : Int32).toNatClampNeg)).toNatClampNeg v1) (((9 : Int32) * (m_numbers (1 : Int32).toNatClampNeg)) + (1 : Int32)).toNatClampNeg v2) (((9 : Int32) * (m_numbers (1 : Int32).toNatClampNeg)) + (2 : Int32)).toNatClampNeg v3) (((9 : Int32) * (m_numbers (1 : Int32).toNatClampNeg)) + (3 : Int32)).toNatClampNeg v4) (((9 : Int32) * (m_numbers (1 : Int32).toNatClampNeg)) + (4 : Int32)).toNatClampNeg (m_numbers (0 : Int32).toNatClampNeg)) (((9 : Int32) * (m_numbers (1 : Int32).toNatClampNeg)) + (5 : Int32)).toNatClampNeg (0 : Int32)) m_leases)) 2 rfl g56 rfl dX7_box_159 (fun H locs hW => ?_)
    refine lv_aload_n hx hb dX7_box_160 rfl (lv_at hl 1 rfl) ?_
    refine g_get X hW eX7_box_13 0 rfl rfl dX7_box_161 ?_
    refine lv_iload hx hb dX7_box_164 (lv_at hl 0 rfl) ?_
    refine lv_bipush hx hb dX7_box_166 qB_6 ?_
    refine lv_iadd hx hb dX7_box_168 ?_
    refine lv_iconst hx hb dX7_box_169 qI_m1 ?_
    obtain ⟨g63, h⟩ := gd_some h
    refine g_ast X hW (ws' := (wX7_box G a_mo a_mo_numbers a_mo_boxes a_mo_leases a_mo_words a_mo_weeks a_mo_routes a_mo_turns a_mo_leave a_mo_uses a_mo_arcFrom a_mo_arcTo a_mo_arcRoom a_mo_arcCost a_mo_far a_mo_by a_mo_best a_mo_tape a_mo_kept m_arcs m_tapeMany m_tokenKind m_tokenAt m_tokenEnd m_tokenValue m_fault m_seen m_isKept m_place m_numbers (upd (upd (upd (upd (upd (upd (upd m_boxes ((9 : Int32) * (m_numbers (1 : Int32).toNatClampNeg)).toNatClampNeg v1) (((9 : Int32) * (m_numbers (1 : Int32).toNatClampNeg)) + (1 : Int32)).toNatClampNeg v2) (((9 : Int32) * (m_numbers (1 : Int32).toNatClampNeg)) + (2 : Int32)).toNatClampNeg v3) (((9 : Int32) * (m_numbers (1 : Int32).toNatClampNeg)) + (3 : Int32)).toNatClampNeg v4) (((9 : Int32) * (m_numbers (1 : Int32).toNatClampNeg)) + (4 : Int32)).toNatClampNeg (m_numbers (0 : Int32).toNatClampNeg)) (((9 : Int32) * (m_numbers (1 : Int32).toNatClampNeg)) + (5 : Int32)).toNatClampNeg (0 : Int32)) (((9 : Int32) * (m_numbers (1 : Int32).toNatClampNeg)) + (6 : Int32)).toNatClampNeg (-1 : Int32)) m_leases)) 2 rfl g63 rfl dX7_box_170 (fun H locs hW => ?_)
    refine lv_aload_n hx hb dX7_box_171 rfl (lv_at hl 1 rfl) ?_
    refine g_get X hW eX7_box_13 0 rfl rfl dX7_box_172 ?_
    refine lv_iload hx hb dX7_box_175 (lv_at hl 0 rfl) ?_
    refine lv_bipush hx hb dX7_box_177 qB_7 ?_
    refine lv_iadd hx hb dX7_box_179 ?_
    refine lv_iconst hx hb dX7_box_180 qI_m1 ?_
    obtain ⟨g70, h⟩ := gd_some h
    refine g_ast X hW (ws' := (wX7_box G a_mo a_mo_numbers a_mo_boxes a_mo_leases a_mo_words a_mo_weeks a_mo_routes a_mo_turns a_mo_leave a_mo_uses a_mo_arcFrom a_mo_arcTo a_mo_arcRoom a_mo_arcCost a_mo_far a_mo_by a_mo_best a_mo_tape a_mo_kept m_arcs m_tapeMany m_tokenKind m_tokenAt m_tokenEnd m_tokenValue m_fault m_seen m_isKept m_place m_numbers (upd (upd (upd (upd (upd (upd (upd (upd m_boxes ((9 : Int32) * (m_numbers (1 : Int32).toNatClampNeg)).toNatClampNeg v1) (((9 : Int32) * (m_numbers (1 : Int32).toNatClampNeg)) + (1 : Int32)).toNatClampNeg v2) (((9 : Int32) * (m_numbers (1 : Int32).toNatClampNeg)) + (2 : Int32)).toNatClampNeg v3) (((9 : Int32) * (m_numbers (1 : Int32).toNatClampNeg)) + (3 : Int32)).toNatClampNeg v4) (((9 : Int32) * (m_numbers (1 : Int32).toNatClampNeg)) + (4 : Int32)).toNatClampNeg (m_numbers (0 : Int32).toNatClampNeg)) (((9 : Int32) * (m_numbers (1 : Int32).toNatClampNeg)) + (5 : Int32)).toNatClampNeg (0 : Int32)) (((9 : Int32) * (m_numbers (1 : Int32).toNatClampNeg)) + (6 : Int32)).toNatClampNeg (-1 : Int32)) (((9 : Int32) * (m_numbers (1 : Int32).toNatClampNeg)) + (7 : Int32)).toNatClampNeg (-1 : Int32)) m_leases)) 2 rfl g70 rfl dX7_box_181 (fun H locs hW => ?_)
    refine lv_aload_n hx hb dX7_box_182 rfl (lv_at hl 1 rfl) ?_
    refine g_get X hW eX7_box_13 0 rfl rfl dX7_box_183 ?_
    refine lv_iload hx hb dX7_box_186 (lv_at hl 0 rfl) ?_
    refine lv_bipush hx hb dX7_box_188 qB_8 ?_
    refine lv_iadd hx hb dX7_box_190 ?_
    refine lv_iconst hx hb dX7_box_191 qI_m1 ?_
    obtain ⟨g77, h⟩ := gd_some h
    refine g_ast X hW (ws' := (wX7_box G a_mo a_mo_numbers a_mo_boxes a_mo_leases a_mo_words a_mo_weeks a_mo_routes a_mo_turns a_mo_leave a_mo_uses a_mo_arcFrom a_mo_arcTo a_mo_arcRoom a_mo_arcCost a_mo_far a_mo_by a_mo_best a_mo_tape a_mo_kept m_arcs m_tapeMany m_tokenKind m_tokenAt m_tokenEnd m_tokenValue m_fault m_seen m_isKept m_place m_numbers (upd (upd (upd (upd (upd (upd (upd (upd (upd m_boxes ((9 : Int32) * (m_numbers (1 : Int32).toNatClampNeg)).toNatClampNeg v1) (((9 : Int32) * (m_numbers (1 : Int32).toNatClampNeg)) + (1 : Int32)).toNatClampNeg v2) (((9 : Int32) * (m_numbers (1 : Int32).toNatClampNeg)) + (2 : Int32)).toNatClampNeg v3) (((9 : Int32) * (m_numbers (1 : Int32).toNatClampNeg)) + (3 : Int32)).toNatClampNeg v4) (((9 : Int32) * (m_numbers (1 : Int32).toNatClampNeg)) + (4 : Int32)).toNatClampNeg (m_numbers (0 : Int32).toNatClampNeg)) (((9 : Int32) * (m_numbers (1 : Int32).toNatClampNeg)) + (5 : Int32)).toNatClampNeg (0 : Int32)) (((9 : Int32) * (m_numbers (1 : Int32).toNatClampNeg)) + (6 : Int32)).toNatClampNeg (-1 : Int32)) (((9 : Int32) * (m_numbers (1 : Int32).toNatClampNeg)) + (7 : Int32)).toNatClampNeg (-1 : Int32)) (((9 : Int32) * (m_numbers (1 : Int32).toNatClampNeg)) + (8 : Int32)).toNatClampNeg (-1 : Int32)) m_leases)) 2 rfl g77 rfl dX7_box_192 (fun H locs hW => ?_)
    refine lv_aload_n hx hb dX7_box_193 rfl (lv_at hl 1 rfl) ?_
    refine g_get X hW eX7_box_7 0 rfl rfl dX7_box_194 ?_
    refine lv_iconst hx hb dX7_box_197 qI_1 ?_
    refine lv_dup2_11 hx hb dX7_box_198 rfl rfl ?_
    obtain ⟨g82, h⟩ := gd_some h
    refine g_ald X hW 1 rfl g82 dX7_box_199 ?_
    refine lv_iconst hx hb dX7_box_200 qI_1 ?_
    refine lv_iadd hx hb dX7_box_201 ?_
    obtain ⟨g85, h⟩ := gd_some h
    refine g_ast X hW (ws' := (wX7_box G a_mo a_mo_numbers a_mo_boxes a_mo_leases a_mo_words a_mo_weeks a_mo_routes a_mo_turns a_mo_leave a_mo_uses a_mo_arcFrom a_mo_arcTo a_mo_arcRoom a_mo_arcCost a_mo_far a_mo_by a_mo_best a_mo_tape a_mo_kept m_arcs m_tapeMany m_tokenKind m_tokenAt m_tokenEnd m_tokenValue m_fault m_seen m_isKept m_place (upd m_numbers (1 : Int32).toNatClampNeg ((m_numbers (1 : Int32).toNatClampNeg) + (1 : Int32))) (upd (upd (upd (upd (upd (upd (upd (upd (upd m_boxes ((9 : Int32) * (m_numbers (1 : Int32).toNatClampNeg)).toNatClampNeg v1) (((9 : Int32) * (m_numbers (1 : Int32).toNatClampNeg)) + (1 : Int32)).toNatClampNeg v2) (((9 : Int32) * (m_numbers (1 : Int32).toNatClampNeg)) + (2 : Int32)).toNatClampNeg v3) (((9 : Int32) * (m_numbers (1 : Int32).toNatClampNeg)) + (3 : Int32)).toNatClampNeg v4) (((9 : Int32) * (m_numbers (1 : Int32).toNatClampNeg)) + (4 : Int32)).toNatClampNeg (m_numbers (0 : Int32).toNatClampNeg)) (((9 : Int32) * (m_numbers (1 : Int32).toNatClampNeg)) + (5 : Int32)).toNatClampNeg (0 : Int32)) (((9 : Int32) * (m_numbers (1 : Int32).toNatClampNeg)) + (6 : Int32)).toNatClampNeg (-1 : Int32)) (((9 : Int32) * (m_numbers (1 : Int32).toNatClampNeg)) + (7 : Int32)).toNatClampNeg (-1 : Int32)) (((9 : Int32) * (m_numbers (1 : Int32).toNatClampNeg)) + (8 : Int32)).toNatClampNeg (-1 : Int32)) m_leases)) 1 rfl g85 rfl dX7_box_202 (fun H locs hW => ?_)
    refine lv_aload_n hx hb dX7_box_203 rfl (lv_at hl 1 rfl) ?_
    refine g_get X hW eX7_box_7 0 rfl rfl dX7_box_204 ?_
    refine lv_iconst hx hb dX7_box_207 qI_1 ?_
    obtain ⟨g89, h⟩ := gd_some h
    refine g_ald X hW 1 rfl g89 dX7_box_208 ?_
    refine lv_iconst hx hb dX7_box_209 qI_1 ?_
    refine lv_isub hx hb dX7_box_210 ?_
    obtain rfl := Option.some.inj h
    exact g_iret X hW dX7_box_211
  · have h := (if_pos c6).symm.trans h
    refine lv_bipush hx hb dX7_box_82 qB_m2 ?_
    obtain rfl := Option.some.inj h
    exact g_iret X hW dX7_box_84
set_option maxHeartbeats 4000000 in
set_option maxRecDepth 100000 in
theorem k0X7_box {l : Launch} (G : Gt) (a_mo a_mo_numbers a_mo_boxes a_mo_leases a_mo_words a_mo_weeks a_mo_routes a_mo_turns a_mo_leave a_mo_uses a_mo_arcFrom a_mo_arcTo a_mo_arcRoom a_mo_arcCost a_mo_far a_mo_by a_mo_best a_mo_tape a_mo_kept : Nat) (v1 : Int32) (v2 : Int32) (v3 : Int32) (v4 : Int32) (m_arcs : Int32) (m_tapeMany : Int32) (m_tokenKind : Int32) (m_tokenAt : Int32) (m_tokenEnd : Int32) (m_tokenValue : Int32) (m_fault : Int32) (m_seen : Int32) (m_isKept : Int32) (m_place : Int32) (m_numbers : (Nat → Int32)) (m_boxes : (Nat → Int32)) (m_leases : (Nat → Int32)) {res : Int32 × (Nat → Int32) × (Nat → Int32)} (h : fX7_box v1 v2 v3 v4 m_numbers m_boxes m_leases = some res) : CtI G l yX7_box wsX7_box rmX7_box [.ref a_mo, .int v1, .int v2, .int v3, .int v4] (wX7_box G a_mo a_mo_numbers a_mo_boxes a_mo_leases a_mo_words a_mo_weeks a_mo_routes a_mo_turns a_mo_leave a_mo_uses a_mo_arcFrom a_mo_arcTo a_mo_arcRoom a_mo_arcCost a_mo_far a_mo_by a_mo_best a_mo_tape a_mo_kept m_arcs m_tapeMany m_tokenKind m_tokenAt m_tokenEnd m_tokenValue m_fault m_seen m_isKept m_place m_numbers m_boxes m_leases) res.1 (wX7_box G a_mo a_mo_numbers a_mo_boxes a_mo_leases a_mo_words a_mo_weeks a_mo_routes a_mo_turns a_mo_leave a_mo_uses a_mo_arcFrom a_mo_arcTo a_mo_arcRoom a_mo_arcCost a_mo_far a_mo_by a_mo_best a_mo_tape a_mo_kept m_arcs m_tapeMany m_tokenKind m_tokenAt m_tokenEnd m_tokenValue m_fault m_seen m_isKept m_place res.2.1 res.2.2 m_leases) := by
  refine CtI.mk (cc := cX7_box) (maxL := 6) (ret := (some .int)) (own := RX7) (by decide) rfl rfl (Nat.le_of_ble_eq_true rfl) ?_
  intro p e s m below meth c A X ls hl hW
  obtain ⟨hx, hb, -⟩ := id X.1
  have hl : lv_has ls 6 [(0, .ref a_mo), (1, .int v1), (2, .int v2), (3, .int v3), (4, .int v4)] := hl
  generalize hH : s.heap = H at hW ⊢
  generalize hLo : ([] : List Loc) = locs at hW ⊢
  rw [fX7_box] at h
  refine lv_iload_n hx hb dX7_box_0 rfl (lv_at hl 1 rfl) ?_
  refine lv_iconst hx hb dX7_box_1 qI_0 ?_
  refine lv_sipush hx hb dX7_box_2 qS_9999 ?_
  obtain ⟨r98, hq, h⟩ := bn1_some h
  refine g_csi X hW (As := [.int v1, .int (0 : Int32), .int (9999 : Int32)]) (ws' := (wX7_box G a_mo a_mo_numbers a_mo_boxes a_mo_leases a_mo_words a_mo_weeks a_mo_routes a_mo_turns a_mo_leave a_mo_uses a_mo_arcFrom a_mo_arcTo a_mo_arcRoom a_mo_arcCost a_mo_far a_mo_by a_mo_best a_mo_tape a_mo_kept m_arcs m_tapeMany m_tokenKind m_tokenAt m_tokenEnd m_tokenValue m_fault m_seen m_isKept m_place m_numbers m_boxes m_leases)) ckX7_box_X7_in_64 (kcX7_in (l := l) G v1 (0 : Int32) (9999 : Int32) hq) ⟨rfl, rfl, Nat.le_of_ble_eq_true rfl, Nat.le_of_ble_eq_true rfl⟩ [] rfl rfl rfl rfl rfl rfl hl.1 (Nat.le_of_ble_eq_true rfl) ⟨Nat.zero_le _, Nat.zero_le _⟩ dX7_box_5 (fun H locs hW => ?_)
  refine lv_if_eq (tgt := 37) hx hb dX7_box_8 (by decide) (fun c99 => ?_) (fun c99 => ?_)
  · have h := (if_pos c99).symm.trans h
    refine lv_iconst hx hb dX7_box_37 qI_m1 ?_
    obtain rfl := Option.some.inj h
    exact g_iret X hW dX7_box_38
  · have h := (if_neg c99).symm.trans h
    refine lv_iload_n hx hb dX7_box_11 rfl (lv_at hl 2 rfl) ?_
    refine lv_iconst hx hb dX7_box_12 qI_0 ?_
    refine lv_iconst hx hb dX7_box_13 qI_2 ?_
    obtain ⟨r105, hq, h⟩ := bn1_some h
    refine g_csi X hW (As := [.int v2, .int (0 : Int32), .int (2 : Int32)]) (ws' := (wX7_box G a_mo a_mo_numbers a_mo_boxes a_mo_leases a_mo_words a_mo_weeks a_mo_routes a_mo_turns a_mo_leave a_mo_uses a_mo_arcFrom a_mo_arcTo a_mo_arcRoom a_mo_arcCost a_mo_far a_mo_by a_mo_best a_mo_tape a_mo_kept m_arcs m_tapeMany m_tokenKind m_tokenAt m_tokenEnd m_tokenValue m_fault m_seen m_isKept m_place m_numbers m_boxes m_leases)) ckX7_box_X7_in_64 (kcX7_in (l := l) G v2 (0 : Int32) (2 : Int32) hq) ⟨rfl, rfl, Nat.le_of_ble_eq_true rfl, Nat.le_of_ble_eq_true rfl⟩ [] rfl rfl rfl rfl rfl rfl hl.1 (Nat.le_of_ble_eq_true rfl) ⟨Nat.zero_le _, Nat.zero_le _⟩ dX7_box_14 (fun H locs hW => ?_)
    refine lv_if_eq (tgt := 37) hx hb dX7_box_17 (by decide) (fun c106 => ?_) (fun c106 => ?_)
    · have h := (if_pos c106).symm.trans h
      refine lv_iconst hx hb dX7_box_37 qI_m1 ?_
      obtain rfl := Option.some.inj h
      exact g_iret X hW dX7_box_38
    · have h := (if_neg c106).symm.trans h
      refine lv_iload_n hx hb dX7_box_20 rfl (lv_at hl 3 rfl) ?_
      obtain ⟨r110, hq, h⟩ := bn1_some h
      refine g_csi X hW (As := [.int v3]) (ws' := (wX7_box G a_mo a_mo_numbers a_mo_boxes a_mo_leases a_mo_words a_mo_weeks a_mo_routes a_mo_turns a_mo_leave a_mo_uses a_mo_arcFrom a_mo_arcTo a_mo_arcRoom a_mo_arcCost a_mo_far a_mo_by a_mo_best a_mo_tape a_mo_kept m_arcs m_tapeMany m_tokenKind m_tokenAt m_tokenEnd m_tokenValue m_fault m_seen m_isKept m_place m_numbers m_boxes m_leases)) ckX7_box_X7_isLine_72 (kcX7_isLine (l := l) G v3 hq) ⟨rfl, rfl, Nat.le_of_ble_eq_true rfl, Nat.le_of_ble_eq_true rfl⟩ [] rfl rfl rfl rfl rfl rfl hl.1 (Nat.le_of_ble_eq_true rfl) ⟨Nat.zero_le _, Nat.zero_le _⟩ dX7_box_21 (fun H locs hW => ?_)
      refine lv_if_eq (tgt := 37) hx hb dX7_box_24 (by decide) (fun c111 => ?_) (fun c111 => ?_)
      · have h := (if_pos c111).symm.trans h
        refine lv_iconst hx hb dX7_box_37 qI_m1 ?_
        obtain rfl := Option.some.inj h
        exact g_iret X hW dX7_box_38
      · have h := (if_neg c111).symm.trans h
        refine lv_iload hx hb dX7_box_27 (lv_at hl 4 rfl) ?_
        refine lv_iconst hx hb dX7_box_29 qI_m1 ?_
        refine lv_iconst hx hb dX7_box_30 qI_2 ?_
        obtain ⟨r117, hq, h⟩ := bn1_some h
        refine g_csi X hW (As := [.int v4, .int (-1 : Int32), .int (2 : Int32)]) (ws' := (wX7_box G a_mo a_mo_numbers a_mo_boxes a_mo_leases a_mo_words a_mo_weeks a_mo_routes a_mo_turns a_mo_leave a_mo_uses a_mo_arcFrom a_mo_arcTo a_mo_arcRoom a_mo_arcCost a_mo_far a_mo_by a_mo_best a_mo_tape a_mo_kept m_arcs m_tapeMany m_tokenKind m_tokenAt m_tokenEnd m_tokenValue m_fault m_seen m_isKept m_place m_numbers m_boxes m_leases)) ckX7_box_X7_in_64 (kcX7_in (l := l) G v4 (-1 : Int32) (2 : Int32) hq) ⟨rfl, rfl, Nat.le_of_ble_eq_true rfl, Nat.le_of_ble_eq_true rfl⟩ [] rfl rfl rfl rfl rfl rfl hl.1 (Nat.le_of_ble_eq_true rfl) ⟨Nat.zero_le _, Nat.zero_le _⟩ dX7_box_31 (fun H locs hW => ?_)
        refine lv_if_ne (tgt := 39) hx hb dX7_box_34 (by decide) (fun c118 => ?_) (fun c118 => ?_)
        · have h := (if_neg c118).symm.trans h
          refine lv_aload_n hx hb dX7_box_39 rfl (lv_at hl 0 rfl) ?_
          refine lv_iload_n hx hb dX7_box_40 rfl (lv_at hl 1 rfl) ?_
          obtain ⟨r121, hq, h⟩ := bn1_some h
          refine g_cvi X hW (As := [.int v1]) (ws' := (wX7_box G a_mo a_mo_numbers a_mo_boxes a_mo_leases a_mo_words a_mo_weeks a_mo_routes a_mo_turns a_mo_leave a_mo_uses a_mo_arcFrom a_mo_arcTo a_mo_arcRoom a_mo_arcCost a_mo_far a_mo_by a_mo_best a_mo_tape a_mo_kept m_arcs m_tapeMany m_tokenKind m_tokenAt m_tokenEnd m_tokenValue m_fault m_seen m_isKept m_place m_numbers m_boxes m_leases)) ckX7_box_X7_boxOf_76 (kcX7_boxOf (l := l) G a_mo a_mo_numbers a_mo_boxes a_mo_words a_mo_weeks a_mo_routes a_mo_turns a_mo_leave a_mo_leases a_mo_uses a_mo_arcFrom a_mo_arcTo a_mo_arcRoom a_mo_arcCost a_mo_far a_mo_by a_mo_best a_mo_tape a_mo_kept v1 m_arcs m_tapeMany m_tokenKind m_tokenAt m_tokenEnd m_tokenValue m_fault m_seen m_isKept m_place m_numbers m_boxes hq) ⟨rfl, rfl, Nat.le_of_ble_eq_true rfl, Nat.le_of_ble_eq_true rfl⟩ [0, 1, 2] rfl rfl rfl rfl rfl rfl rfl hl.1 (Nat.le_of_ble_eq_true rfl) ⟨Nat.zero_le _, Nat.zero_le _⟩ dX7_box_41 (fun H locs hW => ?_)
          refine lv_if_ge (tgt := 68) hx hb dX7_box_44 (by decide) (fun c122 => ?_) (fun c122 => ?_)
          · have h := (if_pos c122).symm.trans h
            refine lv_bipush hx hb dX7_box_68 qB_m4 ?_
            obtain rfl := Option.some.inj h
            exact g_iret X hW dX7_box_70
          · have h := (if_neg c122).symm.trans h
            refine lv_iload hx hb dX7_box_47 (lv_at hl 4 rfl) ?_
            refine lv_if_lt (tgt := 71) hx hb dX7_box_49 (by decide) (fun c126 => ?_) (fun c126 => ?_)
            · have h := (if_pos c126).symm.trans h
              exact tX7_box_71 X v1 v2 v3 v4 m_numbers m_boxes h H locs hW ls hl
            · have h := (if_neg c126).symm.trans h
              refine lv_aload_n hx hb dX7_box_52 rfl (lv_at hl 0 rfl) ?_
              refine g_get X hW eX7_box_31 0 rfl rfl dX7_box_53 ?_
              refine lv_bipush hx hb dX7_box_56 qB_17 ?_
              refine lv_iload hx hb dX7_box_58 (lv_at hl 4 rfl) ?_
              refine lv_imul hx hb dX7_box_60 ?_
              refine lv_bipush hx hb dX7_box_61 qB_16 ?_
              refine lv_iadd hx hb dX7_box_63 ?_
              obtain ⟨g134, h⟩ := gd_some h
              refine g_ald X hW 3 rfl g134 dX7_box_64 ?_
              refine lv_if_ne (tgt := 71) hx hb dX7_box_65 (by decide) (fun c135 => ?_) (fun c135 => ?_)
              · have h := (if_neg c135).symm.trans h
                exact tX7_box_71 X v1 v2 v3 v4 m_numbers m_boxes h H locs hW ls hl
              · have h := (if_pos c135).symm.trans h
                refine lv_bipush hx hb dX7_box_68 qB_m4 ?_
                obtain rfl := Option.some.inj h
                exact g_iret X hW dX7_box_70
        · have h := (if_pos c118).symm.trans h
          refine lv_iconst hx hb dX7_box_37 qI_m1 ?_
          obtain rfl := Option.some.inj h
          exact g_iret X hW dX7_box_38
theorem kcX7_box {l : Launch} (G : Gt) (a_mo a_mo_numbers a_mo_boxes a_mo_leases a_mo_words a_mo_weeks a_mo_routes a_mo_turns a_mo_leave a_mo_uses a_mo_arcFrom a_mo_arcTo a_mo_arcRoom a_mo_arcCost a_mo_far a_mo_by a_mo_best a_mo_tape a_mo_kept : Nat) (v1 : Int32) (v2 : Int32) (v3 : Int32) (v4 : Int32) (m_arcs : Int32) (m_tapeMany : Int32) (m_tokenKind : Int32) (m_tokenAt : Int32) (m_tokenEnd : Int32) (m_tokenValue : Int32) (m_fault : Int32) (m_seen : Int32) (m_isKept : Int32) (m_place : Int32) (m_numbers : (Nat → Int32)) (m_boxes : (Nat → Int32)) (m_leases : (Nat → Int32)) {r : Int32} {z_m_numbers : (Nat → Int32)} {z_m_boxes : (Nat → Int32)} (h : fX7_box v1 v2 v3 v4 m_numbers m_boxes m_leases = some (r, z_m_numbers, z_m_boxes)) : CtI G l yX7_box wsX7_box rmX7_box [.ref a_mo, .int v1, .int v2, .int v3, .int v4] (wX7_box G a_mo a_mo_numbers a_mo_boxes a_mo_leases a_mo_words a_mo_weeks a_mo_routes a_mo_turns a_mo_leave a_mo_uses a_mo_arcFrom a_mo_arcTo a_mo_arcRoom a_mo_arcCost a_mo_far a_mo_by a_mo_best a_mo_tape a_mo_kept m_arcs m_tapeMany m_tokenKind m_tokenAt m_tokenEnd m_tokenValue m_fault m_seen m_isKept m_place m_numbers m_boxes m_leases) r (wX7_box G a_mo a_mo_numbers a_mo_boxes a_mo_leases a_mo_words a_mo_weeks a_mo_routes a_mo_turns a_mo_leave a_mo_uses a_mo_arcFrom a_mo_arcTo a_mo_arcRoom a_mo_arcCost a_mo_far a_mo_by a_mo_best a_mo_tape a_mo_kept m_arcs m_tapeMany m_tokenKind m_tokenAt m_tokenEnd m_tokenValue m_fault m_seen m_isKept m_place z_m_numbers z_m_boxes m_leases) := k0X7_box G a_mo a_mo_numbers a_mo_boxes a_mo_leases a_mo_words a_mo_weeks a_mo_routes a_mo_turns a_mo_leave a_mo_uses a_mo_arcFrom a_mo_arcTo a_mo_arcRoom a_mo_arcCost a_mo_far a_mo_by a_mo_best a_mo_tape a_mo_kept v1 v2 v3 v4 m_arcs m_tapeMany m_tokenKind m_tokenAt m_tokenEnd m_tokenValue m_fault m_seen m_isKept m_place m_numbers m_boxes m_leases h
end MX7_box
/-! EmptyBoxesModel.checkOf -/
section MX7_checkOf
theorem hdX7_checkOf : yX7_checkOf.cls = RX7 ∧ yX7_checkOf.cls ≠ "java/lang/invoke/MethodHandle" ∧ yX7_checkOf.cls ≠ "java/lang/invoke/VarHandle" ∧ (parseMethodDescriptor yX7_checkOf.desc).map (fun d => d.parameters.length) = some 1 := by decide +kernel
abbrev rmX7_checkOf : Room := { frames := 0, cells := 0, slots := 0, locals := 0 }
variable {p : Program} {l : Launch} {e : Env} {s : State} {m : MethodId} {args : Array Value} {below : List Frame} {meth : Method} {c : Code} {A : Nat → Prop} {G : Gt} {res : Int32}
set_option maxHeartbeats 4000000 in
set_option maxRecDepth 100000 in
theorem k0X7_checkOf {l : Launch} (G : Gt) (v0 : Int32)  {res : Int32} (h : fX7_checkOf v0 = some res) : CtI G l yX7_checkOf wsX7_checkOf rmX7_checkOf [.int v0] ([] : va_W) res ([] : va_W) := by
  refine CtI.mk (cc := cX7_checkOf) (maxL := 2) (ret := (some .int)) (own := RX7) (by decide) rfl rfl (Nat.le_of_ble_eq_true rfl) ?_
  intro p e s m below meth c A X ls hl hW
  obtain ⟨hx, hb, -⟩ := id X.1
  have hl : lv_has ls 2 [(0, .int v0)] := hl
  generalize hH : s.heap = H at hW ⊢
  generalize hLo : ([] : List Loc) = locs at hW ⊢
  rw [fX7_checkOf] at h
  refine lv_iload_n hx hb dX7_checkOf_0 rfl (lv_at hl 0 rfl) ?_
  refine lv_sipush hx hb dX7_checkOf_1 qS_1000 ?_
  refine lv_idiv hx hb dX7_checkOf_4 (by decide) ?_
  refine lv_iconst hx hb dX7_checkOf_5 qI_2 ?_
  refine lv_iload_n hx hb dX7_checkOf_6 rfl (lv_at hl 0 rfl) ?_
  refine lv_bipush hx hb dX7_checkOf_7 qB_100 ?_
  refine lv_idiv hx hb dX7_checkOf_9 (by decide) ?_
  refine lv_bipush hx hb dX7_checkOf_10 qB_10 ?_
  refine g_irem hx hb dX7_checkOf_12 (by decide) ?_
  refine lv_imul hx hb dX7_checkOf_13 ?_
  refine lv_iadd hx hb dX7_checkOf_14 ?_
  refine lv_iconst hx hb dX7_checkOf_15 qI_4 ?_
  refine lv_iload_n hx hb dX7_checkOf_16 rfl (lv_at hl 0 rfl) ?_
  refine lv_bipush hx hb dX7_checkOf_17 qB_10 ?_
  refine lv_idiv hx hb dX7_checkOf_19 (by decide) ?_
  refine lv_bipush hx hb dX7_checkOf_20 qB_10 ?_
  refine g_irem hx hb dX7_checkOf_22 (by decide) ?_
  refine lv_imul hx hb dX7_checkOf_23 ?_
  refine lv_iadd hx hb dX7_checkOf_24 ?_
  refine lv_bipush hx hb dX7_checkOf_25 qB_8 ?_
  refine lv_iload_n hx hb dX7_checkOf_27 rfl (lv_at hl 0 rfl) ?_
  refine lv_bipush hx hb dX7_checkOf_28 qB_10 ?_
  refine g_irem hx hb dX7_checkOf_30 (by decide) ?_
  refine lv_imul hx hb dX7_checkOf_31 ?_
  refine lv_iadd hx hb dX7_checkOf_32 ?_
  refine lv_istore_n (lv' := [(1, .int ((((v0 / (1000 : Int32)) + ((2 : Int32) * (irem (v0 / (100 : Int32)) (10 : Int32)))) + ((4 : Int32) * (irem (v0 / (10 : Int32)) (10 : Int32)))) + ((8 : Int32) * (irem v0 (10 : Int32))))), (0, .int v0)]) hx hb dX7_checkOf_33 rfl hl (by decide) rfl (fun ls hl => ?_)
  refine lv_iload_n hx hb dX7_checkOf_34 rfl (lv_at hl 0 rfl) ?_
  refine lv_bipush hx hb dX7_checkOf_35 qB_11 ?_
  refine g_irem hx hb dX7_checkOf_37 (by decide) ?_
  refine lv_bipush hx hb dX7_checkOf_38 qB_10 ?_
  refine g_irem hx hb dX7_checkOf_40 (by decide) ?_
  obtain rfl := Option.some.inj h
  exact g_iret X hW dX7_checkOf_41
theorem kcX7_checkOf {l : Launch} (G : Gt) (v0 : Int32)  {r : Int32}  (h : fX7_checkOf v0 = some r) : CtI G l yX7_checkOf wsX7_checkOf rmX7_checkOf [.int v0] ([] : va_W) r ([] : va_W) := k0X7_checkOf G v0 h
end MX7_checkOf
/-! EmptyBoxesModel.check -/
section MX7_check
theorem hdX7_check : yX7_check.cls = RX7 ∧ yX7_check.cls ≠ "java/lang/invoke/MethodHandle" ∧ yX7_check.cls ≠ "java/lang/invoke/VarHandle" ∧ (parseMethodDescriptor yX7_check.desc).map (fun d => d.parameters.length) = some 1 := by decide +kernel
abbrev wX7_check (G : Gt) (a_mo a_mo_numbers a_mo_boxes a_mo_words a_mo_weeks a_mo_routes a_mo_turns a_mo_leave a_mo_leases a_mo_uses a_mo_arcFrom a_mo_arcTo a_mo_arcRoom a_mo_arcCost a_mo_far a_mo_by a_mo_best a_mo_tape a_mo_kept : Nat) (m_arcs : Int32) (m_tapeMany : Int32) (m_tokenKind : Int32) (m_tokenAt : Int32) (m_tokenEnd : Int32) (m_tokenValue : Int32) (m_fault : Int32) (m_seen : Int32) (m_isKept : Int32) (m_place : Int32) : va_W := [(a_mo, .inr (7, [.ref a_mo_numbers, .ref a_mo_boxes, .ref a_mo_words, .ref a_mo_weeks, .ref a_mo_routes, .ref a_mo_turns, .ref a_mo_leave, .ref a_mo_leases, .ref a_mo_uses, .ref a_mo_arcFrom, .ref a_mo_arcTo, .ref a_mo_arcRoom, .ref a_mo_arcCost, .int m_arcs, .ref a_mo_far, .ref a_mo_by, .ref a_mo_best, .ref a_mo_tape, .int m_tapeMany, .int m_tokenKind, .int m_tokenAt, .int m_tokenEnd, .int m_tokenValue, .int m_fault, .int m_seen, .int m_isKept, .ref a_mo_kept, .int m_place]))]
abbrev rmX7_check : Room := { frames := 1, cells := 0, slots := 0, locals := 22 }
theorem ckX7_check_X7_checkOf_80 : CkS wsX7_check RX7 80 yX7_checkOf wsX7_checkOf cX7_checkOf 2 (some .int) 1 := ⟨_, gX7_check_X7_checkOf, rfl, hdX7_checkOf.2⟩
theorem ckX7_check_X7_in_64 : CkS wsX7_check RX7 64 yX7_in wsX7_in cX7_in 3 (some .boolean) 3 := ⟨_, gX7_check_X7_in, rfl, hdX7_in.2⟩
variable {p : Program} {l : Launch} {e : Env} {s : State} {m : MethodId} {args : Array Value} {below : List Frame} {meth : Method} {c : Code} {A : Nat → Prop} {G : Gt} {a_mo a_mo_numbers a_mo_boxes a_mo_words a_mo_weeks a_mo_routes a_mo_turns a_mo_leave a_mo_leases a_mo_uses a_mo_arcFrom a_mo_arcTo a_mo_arcRoom a_mo_arcCost a_mo_far a_mo_by a_mo_best a_mo_tape a_mo_kept : Nat} {m_arcs : Int32} {m_tapeMany : Int32} {m_tokenKind : Int32} {m_tokenAt : Int32} {m_tokenEnd : Int32} {m_tokenValue : Int32} {m_fault : Int32} {m_seen : Int32} {m_isKept : Int32} {m_place : Int32} {res : Int32}
set_option maxHeartbeats 4000000 in
set_option maxRecDepth 100000 in
theorem k0X7_check {l : Launch} (G : Gt) (a_mo a_mo_numbers a_mo_boxes a_mo_words a_mo_weeks a_mo_routes a_mo_turns a_mo_leave a_mo_leases a_mo_uses a_mo_arcFrom a_mo_arcTo a_mo_arcRoom a_mo_arcCost a_mo_far a_mo_by a_mo_best a_mo_tape a_mo_kept : Nat) (v1 : Int32) (m_arcs : Int32) (m_tapeMany : Int32) (m_tokenKind : Int32) (m_tokenAt : Int32) (m_tokenEnd : Int32) (m_tokenValue : Int32) (m_fault : Int32) (m_seen : Int32) (m_isKept : Int32) (m_place : Int32) {res : Int32} (h : fX7_check v1 = some res) : CtI G l yX7_check wsX7_check rmX7_check [.ref a_mo, .int v1] (wX7_check G a_mo a_mo_numbers a_mo_boxes a_mo_words a_mo_weeks a_mo_routes a_mo_turns a_mo_leave a_mo_leases a_mo_uses a_mo_arcFrom a_mo_arcTo a_mo_arcRoom a_mo_arcCost a_mo_far a_mo_by a_mo_best a_mo_tape a_mo_kept m_arcs m_tapeMany m_tokenKind m_tokenAt m_tokenEnd m_tokenValue m_fault m_seen m_isKept m_place) res (wX7_check G a_mo a_mo_numbers a_mo_boxes a_mo_words a_mo_weeks a_mo_routes a_mo_turns a_mo_leave a_mo_leases a_mo_uses a_mo_arcFrom a_mo_arcTo a_mo_arcRoom a_mo_arcCost a_mo_far a_mo_by a_mo_best a_mo_tape a_mo_kept m_arcs m_tapeMany m_tokenKind m_tokenAt m_tokenEnd m_tokenValue m_fault m_seen m_isKept m_place) := by
  refine CtI.mk (cc := cX7_check) (maxL := 2) (ret := (some .int)) (own := RX7) (by decide) rfl rfl (Nat.le_of_ble_eq_true rfl) ?_
  intro p e s m below meth c A X ls hl hW
  obtain ⟨hx, hb, -⟩ := id X.1
  have hl : lv_has ls 2 [(0, .ref a_mo), (1, .int v1)] := hl
  generalize hH : s.heap = H at hW ⊢
  generalize hLo : ([] : List Loc) = locs at hW ⊢
  rw [fX7_check] at h
  refine lv_iload_n hx hb dX7_check_0 rfl (lv_at hl 1 rfl) ?_
  refine lv_iconst hx hb dX7_check_1 qI_0 ?_
  refine lv_sipush hx hb dX7_check_2 qS_9999 ?_
  obtain ⟨r4, hq, h⟩ := bn1_some h
  refine g_csi X hW (As := [.int v1, .int (0 : Int32), .int (9999 : Int32)]) (ws' := (wX7_check G a_mo a_mo_numbers a_mo_boxes a_mo_words a_mo_weeks a_mo_routes a_mo_turns a_mo_leave a_mo_leases a_mo_uses a_mo_arcFrom a_mo_arcTo a_mo_arcRoom a_mo_arcCost a_mo_far a_mo_by a_mo_best a_mo_tape a_mo_kept m_arcs m_tapeMany m_tokenKind m_tokenAt m_tokenEnd m_tokenValue m_fault m_seen m_isKept m_place)) ckX7_check_X7_in_64 (kcX7_in (l := l) G v1 (0 : Int32) (9999 : Int32) hq) ⟨rfl, rfl, Nat.le_of_ble_eq_true rfl, Nat.le_of_ble_eq_true rfl⟩ [] rfl rfl rfl rfl rfl rfl hl.1 (Nat.le_of_ble_eq_true rfl) ⟨Nat.zero_le _, Nat.zero_le _⟩ dX7_check_5 (fun H locs hW => ?_)
  refine lv_if_eq (tgt := 18) hx hb dX7_check_8 (by decide) (fun c5 => ?_) (fun c5 => ?_)
  · have h := (if_pos c5).symm.trans h
    refine lv_iconst hx hb dX7_check_18 qI_m1 ?_
    obtain rfl := Option.some.inj h
    exact g_iret X hW dX7_check_19
  · have h := (if_neg c5).symm.trans h
    refine lv_iload_n hx hb dX7_check_11 rfl (lv_at hl 1 rfl) ?_
    obtain ⟨r9, hq, h⟩ := bn1_some h
    refine g_csi X hW (As := [.int v1]) (ws' := (wX7_check G a_mo a_mo_numbers a_mo_boxes a_mo_words a_mo_weeks a_mo_routes a_mo_turns a_mo_leave a_mo_leases a_mo_uses a_mo_arcFrom a_mo_arcTo a_mo_arcRoom a_mo_arcCost a_mo_far a_mo_by a_mo_best a_mo_tape a_mo_kept m_arcs m_tapeMany m_tokenKind m_tokenAt m_tokenEnd m_tokenValue m_fault m_seen m_isKept m_place)) ckX7_check_X7_checkOf_80 (kcX7_checkOf (l := l) G v1 hq) ⟨rfl, rfl, Nat.le_of_ble_eq_true rfl, Nat.le_of_ble_eq_true rfl⟩ [] rfl rfl rfl rfl rfl rfl hl.1 (Nat.le_of_ble_eq_true rfl) ⟨Nat.zero_le _, Nat.zero_le _⟩ dX7_check_12 (fun H locs hW => ?_)
    refine lv_goto (tgt := 19) hx hb dX7_check_15 (by decide) ?_
    obtain rfl := Option.some.inj h
    exact g_iret X hW dX7_check_19
theorem kcX7_check {l : Launch} (G : Gt) (a_mo a_mo_numbers a_mo_boxes a_mo_words a_mo_weeks a_mo_routes a_mo_turns a_mo_leave a_mo_leases a_mo_uses a_mo_arcFrom a_mo_arcTo a_mo_arcRoom a_mo_arcCost a_mo_far a_mo_by a_mo_best a_mo_tape a_mo_kept : Nat) (v1 : Int32) (m_arcs : Int32) (m_tapeMany : Int32) (m_tokenKind : Int32) (m_tokenAt : Int32) (m_tokenEnd : Int32) (m_tokenValue : Int32) (m_fault : Int32) (m_seen : Int32) (m_isKept : Int32) (m_place : Int32) {r : Int32}  (h : fX7_check v1 = some r) : CtI G l yX7_check wsX7_check rmX7_check [.ref a_mo, .int v1] (wX7_check G a_mo a_mo_numbers a_mo_boxes a_mo_words a_mo_weeks a_mo_routes a_mo_turns a_mo_leave a_mo_leases a_mo_uses a_mo_arcFrom a_mo_arcTo a_mo_arcRoom a_mo_arcCost a_mo_far a_mo_by a_mo_best a_mo_tape a_mo_kept m_arcs m_tapeMany m_tokenKind m_tokenAt m_tokenEnd m_tokenValue m_fault m_seen m_isKept m_place) r (wX7_check G a_mo a_mo_numbers a_mo_boxes a_mo_words a_mo_weeks a_mo_routes a_mo_turns a_mo_leave a_mo_leases a_mo_uses a_mo_arcFrom a_mo_arcTo a_mo_arcRoom a_mo_arcCost a_mo_far a_mo_by a_mo_best a_mo_tape a_mo_kept m_arcs m_tapeMany m_tokenKind m_tokenAt m_tokenEnd m_tokenValue m_fault m_seen m_isKept m_place) := k0X7_check G a_mo a_mo_numbers a_mo_boxes a_mo_words a_mo_weeks a_mo_routes a_mo_turns a_mo_leave a_mo_leases a_mo_uses a_mo_arcFrom a_mo_arcTo a_mo_arcRoom a_mo_arcCost a_mo_far a_mo_by a_mo_best a_mo_tape a_mo_kept v1 m_arcs m_tapeMany m_tokenKind m_tokenAt m_tokenEnd m_tokenValue m_fault m_seen m_isKept m_place h
end MX7_check
/-! EmptyBoxesModel.find -/
section MX7_find
theorem hdX7_find : yX7_find.cls = RX7 ∧ yX7_find.cls ≠ "java/lang/invoke/MethodHandle" ∧ yX7_find.cls ≠ "java/lang/invoke/VarHandle" ∧ (parseMethodDescriptor yX7_find.desc).map (fun d => d.parameters.length) = some 1 := by decide +kernel
abbrev wX7_find (G : Gt) (a_mo a_mo_numbers a_mo_boxes a_mo_words a_mo_weeks a_mo_routes a_mo_turns a_mo_leave a_mo_leases a_mo_uses a_mo_arcFrom a_mo_arcTo a_mo_arcRoom a_mo_arcCost a_mo_far a_mo_by a_mo_best a_mo_tape a_mo_kept : Nat) (m_arcs : Int32) (m_tapeMany : Int32) (m_tokenKind : Int32) (m_tokenAt : Int32) (m_tokenEnd : Int32) (m_tokenValue : Int32) (m_fault : Int32) (m_seen : Int32) (m_isKept : Int32) (m_place : Int32) (m_numbers : (Nat → Int32)) (m_boxes : (Nat → Int32)) : va_W := [(a_mo, .inr (7, [.ref a_mo_numbers, .ref a_mo_boxes, .ref a_mo_words, .ref a_mo_weeks, .ref a_mo_routes, .ref a_mo_turns, .ref a_mo_leave, .ref a_mo_leases, .ref a_mo_uses, .ref a_mo_arcFrom, .ref a_mo_arcTo, .ref a_mo_arcRoom, .ref a_mo_arcCost, .int m_arcs, .ref a_mo_far, .ref a_mo_by, .ref a_mo_best, .ref a_mo_tape, .int m_tapeMany, .int m_tokenKind, .int m_tokenAt, .int m_tokenEnd, .int m_tokenValue, .int m_fault, .int m_seen, .int m_isKept, .ref a_mo_kept, .int m_place])), (a_mo_numbers, .inl (G.2.1, 10, .inl m_numbers)), (a_mo_boxes, .inl (G.2.1, 216, .inl m_boxes))]
abbrev rmX7_find : Room := { frames := 2, cells := 0, slots := 0, locals := 44 }
theorem iX7_find_X7 : ∀ w ∈ wsX70, w ∈ wsX7_find := by decide +kernel
theorem eX7_find_7 : Fk wsX7_find RX7 7 7 0 := ⟨RX7, TX7, 28, rfl, iX7_find_X7, by decide, by decide +kernel⟩
theorem ckX7_find_X7_boxOf_76 : CkV wsX7_find RX7 76 yX7_boxOf wsX7_boxOf cX7_boxOf 3 (some .int) 1 7 := ⟨RX7, TX7, 28, _, rfl, gX7_find_X7_boxOf, rfl, hdX7_boxOf⟩
theorem ckX7_find_X7_checkOf_80 : CkS wsX7_find RX7 80 yX7_checkOf wsX7_checkOf cX7_checkOf 2 (some .int) 1 := ⟨_, gX7_find_X7_checkOf, rfl, hdX7_checkOf.2⟩
theorem ckX7_find_X7_get_68 : CkV wsX7_find RX7 68 yX7_get wsX7_get cX7_get 3 (some .int) 2 7 := ⟨RX7, TX7, 28, _, rfl, gX7_find_X7_get, rfl, hdX7_get⟩
theorem ckX7_find_X7_in_64 : CkS wsX7_find RX7 64 yX7_in wsX7_in cX7_in 3 (some .boolean) 3 := ⟨_, gX7_find_X7_in, rfl, hdX7_in.2⟩
theorem cwX7_find_83 : Cond.constant RX7 83 99999 ∈ wsX7_find := by decide +kernel
variable {p : Program} {l : Launch} {e : Env} {s : State} {m : MethodId} {args : Array Value} {below : List Frame} {meth : Method} {c : Code} {A : Nat → Prop} {G : Gt} {a_mo a_mo_numbers a_mo_boxes a_mo_words a_mo_weeks a_mo_routes a_mo_turns a_mo_leave a_mo_leases a_mo_uses a_mo_arcFrom a_mo_arcTo a_mo_arcRoom a_mo_arcCost a_mo_far a_mo_by a_mo_best a_mo_tape a_mo_kept : Nat} {m_arcs : Int32} {m_tapeMany : Int32} {m_tokenKind : Int32} {m_tokenAt : Int32} {m_tokenEnd : Int32} {m_tokenValue : Int32} {m_fault : Int32} {m_seen : Int32} {m_isKept : Int32} {m_place : Int32} {m_numbers : (Nat → Int32)} {m_boxes : (Nat → Int32)} {res : Int32}
set_option maxHeartbeats 4000000 in
set_option maxRecDepth 100000 in
theorem tX7_find_162 (X : Bx p s m args meth c cX7_find 9 wsX7_find RX7 (some .int)) (v2 : Int32) (v3 : Int32)   (h : fX7_find_162 v2 v3 = some res) : ∀ (H : Heap) (locs : List Loc), Wo G A s (wX7_find G a_mo a_mo_numbers a_mo_boxes a_mo_words a_mo_weeks a_mo_routes a_mo_turns a_mo_leave a_mo_leases a_mo_uses a_mo_arcFrom a_mo_arcTo a_mo_arcRoom a_mo_arcCost a_mo_far a_mo_by a_mo_best a_mo_tape a_mo_kept m_arcs m_tapeMany m_tokenKind m_tokenAt m_tokenEnd m_tokenValue m_fault m_seen m_isKept m_place m_numbers m_boxes) H locs → ∀ ls : Array Slot, lv_has ls 9 [(2, .int v2), (3, .int v3)] → W p l e rmX7_find s m args below meth c H locs 0 0 (QI G A below args s res (wX7_find G a_mo a_mo_numbers a_mo_boxes a_mo_words a_mo_weeks a_mo_routes a_mo_turns a_mo_leave a_mo_leases a_mo_uses a_mo_arcFrom a_mo_arcTo a_mo_arcRoom a_mo_arcCost a_mo_far a_mo_by a_mo_best a_mo_tape a_mo_kept m_arcs m_tapeMany m_tokenKind m_tokenAt m_tokenEnd m_tokenValue m_fault m_seen m_isKept m_place m_numbers m_boxes)) (F0 m 162 ls []) := by
  obtain ⟨hx, hb, -⟩ := id X.1
  intro H locs hW ls hl
  rw [fX7_find_162] at h
  refine lv_iload_n hx hb dX7_find_162 rfl (lv_at hl 1 rfl) ?_
  refine lv_iconst hx hb dX7_find_163 qI_1 ?_
  refine lv_icmp_ne (tgt := 171) hx hb dX7_find_164 (by decide) (fun c3 => ?_) (fun c3 => ?_)
  · have h := (if_neg c3).symm.trans h
    refine lv_bipush hx hb dX7_find_171 qB_m3 ?_
    obtain rfl := Option.some.inj h
    exact g_iret X hW dX7_find_173
  · have h := (if_pos c3).symm.trans h
    refine lv_iload_n hx hb dX7_find_167 rfl (lv_at hl 0 rfl) ?_
    refine lv_goto (tgt := 173) hx hb dX7_find_168 (by decide) ?_
    obtain rfl := Option.some.inj h
    exact g_iret X hW dX7_find_173
set_option maxHeartbeats 4000000 in
set_option maxRecDepth 100000 in
theorem tX7_find_156 (X : Bx p s m args meth c cX7_find 9 wsX7_find RX7 (some .int)) (v1 : Int32) (v2 : Int32) (v3 : Int32) (v4 : Int32) (k_54 : Int32 → Int32 → Int32 → Option (Int32)) (Hk_54 : ∀ (v2 : Int32) (v3 : Int32) (v4 : Int32), k_54 v2 v3 v4 = some res → ∀ (H : Heap) (locs : List Loc), Wo G A s (wX7_find G a_mo a_mo_numbers a_mo_boxes a_mo_words a_mo_weeks a_mo_routes a_mo_turns a_mo_leave a_mo_leases a_mo_uses a_mo_arcFrom a_mo_arcTo a_mo_arcRoom a_mo_arcCost a_mo_far a_mo_by a_mo_best a_mo_tape a_mo_kept m_arcs m_tapeMany m_tokenKind m_tokenAt m_tokenEnd m_tokenValue m_fault m_seen m_isKept m_place m_numbers m_boxes) H locs → ∀ ls : Array Slot, lv_has ls 9 [(0, .ref a_mo), (1, .int v1), (2, .int v2), (3, .int v3), (4, .int v4)] → W p l e rmX7_find s m args below meth c H locs 0 0 (QI G A below args s res (wX7_find G a_mo a_mo_numbers a_mo_boxes a_mo_words a_mo_weeks a_mo_routes a_mo_turns a_mo_leave a_mo_leases a_mo_uses a_mo_arcFrom a_mo_arcTo a_mo_arcRoom a_mo_arcCost a_mo_far a_mo_by a_mo_best a_mo_tape a_mo_kept m_arcs m_tapeMany m_tokenKind m_tokenAt m_tokenEnd m_tokenValue m_fault m_seen m_isKept m_place m_numbers m_boxes)) (F0 m 54 ls [])) (h : fX7_find_156 k_54 v2 v3 v4 = some res) : ∀ (H : Heap) (locs : List Loc), Wo G A s (wX7_find G a_mo a_mo_numbers a_mo_boxes a_mo_words a_mo_weeks a_mo_routes a_mo_turns a_mo_leave a_mo_leases a_mo_uses a_mo_arcFrom a_mo_arcTo a_mo_arcRoom a_mo_arcCost a_mo_far a_mo_by a_mo_best a_mo_tape a_mo_kept m_arcs m_tapeMany m_tokenKind m_tokenAt m_tokenEnd m_tokenValue m_fault m_seen m_isKept m_place m_numbers m_boxes) H locs → ∀ ls : Array Slot, lv_has ls 9 [(0, .ref a_mo), (1, .int v1), (2, .int v2), (3, .int v3), (4, .int v4)] → W p l e rmX7_find s m args below meth c H locs 0 0 (QI G A below args s res (wX7_find G a_mo a_mo_numbers a_mo_boxes a_mo_words a_mo_weeks a_mo_routes a_mo_turns a_mo_leave a_mo_leases a_mo_uses a_mo_arcFrom a_mo_arcTo a_mo_arcRoom a_mo_arcCost a_mo_far a_mo_by a_mo_best a_mo_tape a_mo_kept m_arcs m_tapeMany m_tokenKind m_tokenAt m_tokenEnd m_tokenValue m_fault m_seen m_isKept m_place m_numbers m_boxes)) (F0 m 156 ls []) := by
  obtain ⟨hx, hb, -⟩ := id X.1
  intro H locs hW ls hl
  rw [fX7_find_156] at h
  refine lv_iinc (v := (v4 + (1 : Int32))) (lv' := [(4, .int (v4 + (1 : Int32))), (0, .ref a_mo), (1, .int v1), (2, .int v2), (3, .int v3)]) hx hb dX7_find_156 hl (k := 4) rfl (congrArg (fun z => v4 + z) qI_1) (by decide) rfl (fun ls hl => ?_)
  refine lv_goto (tgt := 54) hx hb dX7_find_159 (by decide) ?_
  exact Hk_54 v2 v3 (v4 + (1 : Int32)) h H locs hW ls (lv_sub hl [1, 2, 3, 4, 0] rfl)
set_option maxHeartbeats 4000000 in
set_option maxRecDepth 100000 in
theorem tX7_find_144 (X : Bx p s m args meth c cX7_find 9 wsX7_find RX7 (some .int)) (v1 : Int32) (v2 : Int32) (v3 : Int32) (v4 : Int32) (v6 : Int32) (k_54 : Int32 → Int32 → Int32 → Option (Int32)) (Hk_54 : ∀ (v2 : Int32) (v3 : Int32) (v4 : Int32), k_54 v2 v3 v4 = some res → ∀ (H : Heap) (locs : List Loc), Wo G A s (wX7_find G a_mo a_mo_numbers a_mo_boxes a_mo_words a_mo_weeks a_mo_routes a_mo_turns a_mo_leave a_mo_leases a_mo_uses a_mo_arcFrom a_mo_arcTo a_mo_arcRoom a_mo_arcCost a_mo_far a_mo_by a_mo_best a_mo_tape a_mo_kept m_arcs m_tapeMany m_tokenKind m_tokenAt m_tokenEnd m_tokenValue m_fault m_seen m_isKept m_place m_numbers m_boxes) H locs → ∀ ls : Array Slot, lv_has ls 9 [(0, .ref a_mo), (1, .int v1), (2, .int v2), (3, .int v3), (4, .int v4)] → W p l e rmX7_find s m args below meth c H locs 0 0 (QI G A below args s res (wX7_find G a_mo a_mo_numbers a_mo_boxes a_mo_words a_mo_weeks a_mo_routes a_mo_turns a_mo_leave a_mo_leases a_mo_uses a_mo_arcFrom a_mo_arcTo a_mo_arcRoom a_mo_arcCost a_mo_far a_mo_by a_mo_best a_mo_tape a_mo_kept m_arcs m_tapeMany m_tokenKind m_tokenAt m_tokenEnd m_tokenValue m_fault m_seen m_isKept m_place m_numbers m_boxes)) (F0 m 54 ls [])) (h : fX7_find_144 k_54 v2 v3 v4 v6 = some res) : ∀ (H : Heap) (locs : List Loc), Wo G A s (wX7_find G a_mo a_mo_numbers a_mo_boxes a_mo_words a_mo_weeks a_mo_routes a_mo_turns a_mo_leave a_mo_leases a_mo_uses a_mo_arcFrom a_mo_arcTo a_mo_arcRoom a_mo_arcCost a_mo_far a_mo_by a_mo_best a_mo_tape a_mo_kept m_arcs m_tapeMany m_tokenKind m_tokenAt m_tokenEnd m_tokenValue m_fault m_seen m_isKept m_place m_numbers m_boxes) H locs → ∀ ls : Array Slot, lv_has ls 9 [(0, .ref a_mo), (1, .int v1), (2, .int v2), (3, .int v3), (4, .int v4), (6, .int v6)] → W p l e rmX7_find s m args below meth c H locs 0 0 (QI G A below args s res (wX7_find G a_mo a_mo_numbers a_mo_boxes a_mo_words a_mo_weeks a_mo_routes a_mo_turns a_mo_leave a_mo_leases a_mo_uses a_mo_arcFrom a_mo_arcTo a_mo_arcRoom a_mo_arcCost a_mo_far a_mo_by a_mo_best a_mo_tape a_mo_kept m_arcs m_tapeMany m_tokenKind m_tokenAt m_tokenEnd m_tokenValue m_fault m_seen m_isKept m_place m_numbers m_boxes)) (F0 m 144 ls []) := by
  obtain ⟨hx, hb, -⟩ := id X.1
  intro H locs hW ls hl
  rw [fX7_find_144] at h
  refine lv_iload hx hb dX7_find_144 (lv_at hl 5 rfl) ?_
  refine lv_iconst hx hb dX7_find_146 qI_1 ?_
  refine lv_icmp_ne (tgt := 156) hx hb dX7_find_147 (by decide) (fun c13 => ?_) (fun c13 => ?_)
  · have h := (if_neg c13).symm.trans h
    exact tX7_find_156 X v1 v2 v3 v4 k_54 Hk_54 h H locs hW ls (lv_sub hl [0, 1, 2, 3, 4] rfl)
  · have h := (if_pos c13).symm.trans h
    refine lv_iload hx hb dX7_find_150 (lv_at hl 4 rfl) ?_
    refine lv_istore_n (lv' := [(2, .int v4), (0, .ref a_mo), (1, .int v1), (3, .int v3), (4, .int v4), (6, .int v6)]) hx hb dX7_find_152 rfl hl (by decide) rfl (fun ls hl => ?_)
    refine lv_iinc (v := (v3 + (1 : Int32))) (lv' := [(3, .int (v3 + (1 : Int32))), (2, .int v4), (0, .ref a_mo), (1, .int v1), (4, .int v4), (6, .int v6)]) hx hb dX7_find_153 hl (k := 3) rfl (congrArg (fun z => v3 + z) qI_1) (by decide) rfl (fun ls hl => ?_)
    exact tX7_find_156 X v1 v4 (v3 + (1 : Int32)) v4 k_54 Hk_54 h H locs hW ls (lv_sub hl [2, 3, 1, 0, 4] rfl)
set_option maxHeartbeats 4000000 in
set_option maxRecDepth 100000 in
theorem tX7_find_128 (X : Bx p s m args meth c cX7_find 9 wsX7_find RX7 (some .int)) (v1 : Int32) (v2 : Int32) (v3 : Int32) (v4 : Int32) (v5 : Int32) (v7 : Int32) (v8 : Int32) (t0 : Int32) (t1 : Int32) (k_97 : Int32 → Int32 → Int32 → Option (Int32)) (Hk_97 : ∀ (v6 : Int32) (v7 : Int32) (v8 : Int32), k_97 v6 v7 v8 = some res → ∀ (H : Heap) (locs : List Loc), Wo G A s (wX7_find G a_mo a_mo_numbers a_mo_boxes a_mo_words a_mo_weeks a_mo_routes a_mo_turns a_mo_leave a_mo_leases a_mo_uses a_mo_arcFrom a_mo_arcTo a_mo_arcRoom a_mo_arcCost a_mo_far a_mo_by a_mo_best a_mo_tape a_mo_kept m_arcs m_tapeMany m_tokenKind m_tokenAt m_tokenEnd m_tokenValue m_fault m_seen m_isKept m_place m_numbers m_boxes) H locs → ∀ ls : Array Slot, lv_has ls 9 [(0, .ref a_mo), (1, .int v1), (2, .int v2), (3, .int v3), (4, .int v4), (5, .int v5), (6, .int v6), (7, .int v7), (8, .int v8)] → W p l e rmX7_find s m args below meth c H locs 0 0 (QI G A below args s res (wX7_find G a_mo a_mo_numbers a_mo_boxes a_mo_words a_mo_weeks a_mo_routes a_mo_turns a_mo_leave a_mo_leases a_mo_uses a_mo_arcFrom a_mo_arcTo a_mo_arcRoom a_mo_arcCost a_mo_far a_mo_by a_mo_best a_mo_tape a_mo_kept m_arcs m_tapeMany m_tokenKind m_tokenAt m_tokenEnd m_tokenValue m_fault m_seen m_isKept m_place m_numbers m_boxes)) (F0 m 97 ls [])) (h : fX7_find_128 k_97 v7 v8 t0 t1 = some res) : ∀ (H : Heap) (locs : List Loc), Wo G A s (wX7_find G a_mo a_mo_numbers a_mo_boxes a_mo_words a_mo_weeks a_mo_routes a_mo_turns a_mo_leave a_mo_leases a_mo_uses a_mo_arcFrom a_mo_arcTo a_mo_arcRoom a_mo_arcCost a_mo_far a_mo_by a_mo_best a_mo_tape a_mo_kept m_arcs m_tapeMany m_tokenKind m_tokenAt m_tokenEnd m_tokenValue m_fault m_seen m_isKept m_place m_numbers m_boxes) H locs → ∀ ls : Array Slot, lv_has ls 9 [(0, .ref a_mo), (1, .int v1), (2, .int v2), (3, .int v3), (4, .int v4), (5, .int v5), (7, .int v7), (8, .int v8)] → W p l e rmX7_find s m args below meth c H locs 0 0 (QI G A below args s res (wX7_find G a_mo a_mo_numbers a_mo_boxes a_mo_words a_mo_weeks a_mo_routes a_mo_turns a_mo_leave a_mo_leases a_mo_uses a_mo_arcFrom a_mo_arcTo a_mo_arcRoom a_mo_arcCost a_mo_far a_mo_by a_mo_best a_mo_tape a_mo_kept m_arcs m_tapeMany m_tokenKind m_tokenAt m_tokenEnd m_tokenValue m_fault m_seen m_isKept m_place m_numbers m_boxes)) (F0 m 128 ls [.int t1, .int t0]) := by
  obtain ⟨hx, hb, -⟩ := id X.1
  intro H locs hW ls hl
  rw [fX7_find_128] at h
  refine lv_iadd hx hb dX7_find_128 ?_
  refine lv_istore (lv' := [(6, .int (t0 + t1)), (0, .ref a_mo), (1, .int v1), (2, .int v2), (3, .int v3), (4, .int v4), (5, .int v5), (7, .int v7), (8, .int v8)]) hx hb dX7_find_129 hl (by decide) rfl (fun ls hl => ?_)
  refine lv_iload hx hb dX7_find_131 (lv_at hl 7 rfl) ?_
  refine lv_bipush hx hb dX7_find_133 qB_10 ?_
  refine lv_imul hx hb dX7_find_135 ?_
  refine lv_istore (lv' := [(7, .int (v7 * (10 : Int32))), (6, .int (t0 + t1)), (0, .ref a_mo), (1, .int v1), (2, .int v2), (3, .int v3), (4, .int v4), (5, .int v5), (8, .int v8)]) hx hb dX7_find_136 hl (by decide) rfl (fun ls hl => ?_)
  refine lv_iinc (v := (v8 + (1 : Int32))) (lv' := [(8, .int (v8 + (1 : Int32))), (7, .int (v7 * (10 : Int32))), (6, .int (t0 + t1)), (0, .ref a_mo), (1, .int v1), (2, .int v2), (3, .int v3), (4, .int v4), (5, .int v5)]) hx hb dX7_find_138 hl (k := 8) rfl (congrArg (fun z => v8 + z) qI_1) (by decide) rfl (fun ls hl => ?_)
  refine lv_goto (tgt := 97) hx hb dX7_find_141 (by decide) ?_
  exact Hk_97 (t0 + t1) (v7 * (10 : Int32)) (v8 + (1 : Int32)) h H locs hW ls (lv_sub hl [3, 4, 5, 6, 7, 8, 2, 1, 0] rfl)
set_option maxHeartbeats 4000000 in
set_option maxRecDepth 100000 in
theorem tX7_find_97 (X : Bx p s m args meth c cX7_find 9 wsX7_find RX7 (some .int)) (v1 : Int32) (v2 : Int32) (v3 : Int32) (v4 : Int32) (v5 : Int32) (k_144 : Int32 → Option (Int32)) (Hk_144 : ∀ (v6 : Int32), k_144 v6 = some res → ∀ (H : Heap) (locs : List Loc), Wo G A s (wX7_find G a_mo a_mo_numbers a_mo_boxes a_mo_words a_mo_weeks a_mo_routes a_mo_turns a_mo_leave a_mo_leases a_mo_uses a_mo_arcFrom a_mo_arcTo a_mo_arcRoom a_mo_arcCost a_mo_far a_mo_by a_mo_best a_mo_tape a_mo_kept m_arcs m_tapeMany m_tokenKind m_tokenAt m_tokenEnd m_tokenValue m_fault m_seen m_isKept m_place m_numbers m_boxes) H locs → ∀ ls : Array Slot, lv_has ls 9 [(0, .ref a_mo), (1, .int v1), (2, .int v2), (3, .int v3), (4, .int v4), (6, .int v6)] → W p l e rmX7_find s m args below meth c H locs 0 0 (QI G A below args s res (wX7_find G a_mo a_mo_numbers a_mo_boxes a_mo_words a_mo_weeks a_mo_routes a_mo_turns a_mo_leave a_mo_leases a_mo_uses a_mo_arcFrom a_mo_arcTo a_mo_arcRoom a_mo_arcCost a_mo_far a_mo_by a_mo_best a_mo_tape a_mo_kept m_arcs m_tapeMany m_tokenKind m_tokenAt m_tokenEnd m_tokenValue m_fault m_seen m_isKept m_place m_numbers m_boxes)) (F0 m 144 ls [])) : ∀ (n : Nat) (v6 : Int32) (v7 : Int32) (v8 : Int32), fX7_find_97 v1 v5 k_144 n v6 v7 v8 = some res → ∀ (H : Heap) (locs : List Loc), Wo G A s (wX7_find G a_mo a_mo_numbers a_mo_boxes a_mo_words a_mo_weeks a_mo_routes a_mo_turns a_mo_leave a_mo_leases a_mo_uses a_mo_arcFrom a_mo_arcTo a_mo_arcRoom a_mo_arcCost a_mo_far a_mo_by a_mo_best a_mo_tape a_mo_kept m_arcs m_tapeMany m_tokenKind m_tokenAt m_tokenEnd m_tokenValue m_fault m_seen m_isKept m_place m_numbers m_boxes) H locs → ∀ ls : Array Slot, lv_has ls 9 [(0, .ref a_mo), (1, .int v1), (2, .int v2), (3, .int v3), (4, .int v4), (5, .int v5), (6, .int v6), (7, .int v7), (8, .int v8)] → W p l e rmX7_find s m args below meth c H locs 0 0 (QI G A below args s res (wX7_find G a_mo a_mo_numbers a_mo_boxes a_mo_words a_mo_weeks a_mo_routes a_mo_turns a_mo_leave a_mo_leases a_mo_uses a_mo_arcFrom a_mo_arcTo a_mo_arcRoom a_mo_arcCost a_mo_far a_mo_by a_mo_best a_mo_tape a_mo_kept m_arcs m_tapeMany m_tokenKind m_tokenAt m_tokenEnd m_tokenValue m_fault m_seen m_isKept m_place m_numbers m_boxes)) (F0 m 97 ls []) := by
  obtain ⟨hx, hb, -⟩ := id X.1
  intro n
  induction n with
  | zero => intro v6 v7 v8 h; rw [fX7_find_97] at h; cases h
  | succ n ih =>
    intro v6 v7 v8 h H locs hW ls hl
    rw [fX7_find_97] at h
    refine lv_iload hx hb dX7_find_97 (lv_at hl 8 rfl) ?_
    refine lv_iconst hx hb dX7_find_99 qI_5 ?_
    refine lv_icmp_ge (tgt := 144) hx hb dX7_find_100 (by decide) (fun c27 => ?_) (fun c27 => ?_)
    · have h := (if_pos c27).symm.trans h
      exact Hk_144 v6 h H locs hW ls (lv_sub hl [0, 1, 2, 3, 4, 6] rfl)
    · have h := (if_neg c27).symm.trans h
      refine lv_iload hx hb dX7_find_103 (lv_at hl 6 rfl) ?_
      refine lv_iload hx hb dX7_find_105 (lv_at hl 5 rfl) ?_
      refine lv_iload hx hb dX7_find_107 (lv_at hl 7 rfl) ?_
      obtain ⟨g31, h⟩ := gd_some h
      refine lv_idiv hx hb dX7_find_109 (nz_ne g31) ?_
      refine lv_bipush hx hb dX7_find_110 qB_10 ?_
      refine g_irem hx hb dX7_find_112 (by decide) ?_
      refine lv_iload_n hx hb dX7_find_113 rfl (lv_at hl 1 rfl) ?_
      refine lv_iload hx hb dX7_find_114 (lv_at hl 7 rfl) ?_
      obtain ⟨g36, h⟩ := gd_some h
      refine lv_idiv hx hb dX7_find_116 (nz_ne g36) ?_
      refine lv_bipush hx hb dX7_find_117 qB_10 ?_
      refine g_irem hx hb dX7_find_119 (by decide) ?_
      refine lv_icmp_ne (tgt := 127) hx hb dX7_find_120 (by decide) (fun c39 => ?_) (fun c39 => ?_)
      · have h := (if_neg c39).symm.trans h
        refine lv_iconst hx hb dX7_find_127 qI_1 ?_
        exact tX7_find_128 X v1 v2 v3 v4 v5 v7 v8 v6 (1 : Int32) (fun v6 v7 v8 => fX7_find_97 v1 v5 k_144 n v6 v7 v8) ih h H locs hW ls (lv_sub hl [0, 1, 2, 3, 4, 5, 7, 8] rfl)
      · have h := (if_pos c39).symm.trans h
        refine lv_iconst hx hb dX7_find_123 qI_0 ?_
        refine lv_goto (tgt := 128) hx hb dX7_find_124 (by decide) ?_
        exact tX7_find_128 X v1 v2 v3 v4 v5 v7 v8 v6 (0 : Int32) (fun v6 v7 v8 => fX7_find_97 v1 v5 k_144 n v6 v7 v8) ih h H locs hW ls (lv_sub hl [0, 1, 2, 3, 4, 5, 7, 8] rfl)
set_option maxHeartbeats 4000000 in
set_option maxRecDepth 100000 in
theorem tX7_find_54 (X : Bx p s m args meth c cX7_find 9 wsX7_find RX7 (some .int)) (v1 : Int32) (k_162 : Int32 → Int32 → Option (Int32)) (Hk_162 : ∀ (v2 : Int32) (v3 : Int32), k_162 v2 v3 = some res → ∀ (H : Heap) (locs : List Loc), Wo G A s (wX7_find G a_mo a_mo_numbers a_mo_boxes a_mo_words a_mo_weeks a_mo_routes a_mo_turns a_mo_leave a_mo_leases a_mo_uses a_mo_arcFrom a_mo_arcTo a_mo_arcRoom a_mo_arcCost a_mo_far a_mo_by a_mo_best a_mo_tape a_mo_kept m_arcs m_tapeMany m_tokenKind m_tokenAt m_tokenEnd m_tokenValue m_fault m_seen m_isKept m_place m_numbers m_boxes) H locs → ∀ ls : Array Slot, lv_has ls 9 [(2, .int v2), (3, .int v3)] → W p l e rmX7_find s m args below meth c H locs 0 0 (QI G A below args s res (wX7_find G a_mo a_mo_numbers a_mo_boxes a_mo_words a_mo_weeks a_mo_routes a_mo_turns a_mo_leave a_mo_leases a_mo_uses a_mo_arcFrom a_mo_arcTo a_mo_arcRoom a_mo_arcCost a_mo_far a_mo_by a_mo_best a_mo_tape a_mo_kept m_arcs m_tapeMany m_tokenKind m_tokenAt m_tokenEnd m_tokenValue m_fault m_seen m_isKept m_place m_numbers m_boxes)) (F0 m 162 ls [])) : ∀ (n : Nat) (v2 : Int32) (v3 : Int32) (v4 : Int32), fX7_find_54 v1 m_numbers m_boxes k_162 n v2 v3 v4 = some res → ∀ (H : Heap) (locs : List Loc), Wo G A s (wX7_find G a_mo a_mo_numbers a_mo_boxes a_mo_words a_mo_weeks a_mo_routes a_mo_turns a_mo_leave a_mo_leases a_mo_uses a_mo_arcFrom a_mo_arcTo a_mo_arcRoom a_mo_arcCost a_mo_far a_mo_by a_mo_best a_mo_tape a_mo_kept m_arcs m_tapeMany m_tokenKind m_tokenAt m_tokenEnd m_tokenValue m_fault m_seen m_isKept m_place m_numbers m_boxes) H locs → ∀ ls : Array Slot, lv_has ls 9 [(0, .ref a_mo), (1, .int v1), (2, .int v2), (3, .int v3), (4, .int v4)] → W p l e rmX7_find s m args below meth c H locs 0 0 (QI G A below args s res (wX7_find G a_mo a_mo_numbers a_mo_boxes a_mo_words a_mo_weeks a_mo_routes a_mo_turns a_mo_leave a_mo_leases a_mo_uses a_mo_arcFrom a_mo_arcTo a_mo_arcRoom a_mo_arcCost a_mo_far a_mo_by a_mo_best a_mo_tape a_mo_kept m_arcs m_tapeMany m_tokenKind m_tokenAt m_tokenEnd m_tokenValue m_fault m_seen m_isKept m_place m_numbers m_boxes)) (F0 m 54 ls []) := by
  obtain ⟨hx, hb, -⟩ := id X.1
  intro n
  induction n with
  | zero => intro v2 v3 v4 h; rw [fX7_find_54] at h; cases h
  | succ n ih =>
    intro v2 v3 v4 h H locs hW ls hl
    rw [fX7_find_54] at h
    refine lv_iload hx hb dX7_find_54 (lv_at hl 4 rfl) ?_
    refine lv_aload_n hx hb dX7_find_56 rfl (lv_at hl 0 rfl) ?_
    refine g_get X hW eX7_find_7 0 rfl rfl dX7_find_57 ?_
    refine lv_iconst hx hb dX7_find_60 qI_1 ?_
    obtain ⟨g47, h⟩ := gd_some h
    refine g_ald X hW 1 rfl g47 dX7_find_61 ?_
    refine lv_icmp_ge (tgt := 162) hx hb dX7_find_62 (by decide) (fun c48 => ?_) (fun c48 => ?_)
    · have h := (if_pos c48).symm.trans h
      exact Hk_162 v2 v3 h H locs hW ls (lv_sub hl [2, 3] rfl)
    · have h := (if_neg c48).symm.trans h
      refine lv_bipush hx hb dX7_find_65 qB_10 ?_
      refine lv_aload_n hx hb dX7_find_67 rfl (lv_at hl 0 rfl) ?_
      refine lv_iload hx hb dX7_find_68 (lv_at hl 4 rfl) ?_
      refine lv_iconst hx hb dX7_find_70 qI_0 ?_
      obtain ⟨r53, hq, h⟩ := bn1_some h
      refine g_cvi X hW (As := [.int v4, .int (0 : Int32)]) (ws' := (wX7_find G a_mo a_mo_numbers a_mo_boxes a_mo_words a_mo_weeks a_mo_routes a_mo_turns a_mo_leave a_mo_leases a_mo_uses a_mo_arcFrom a_mo_arcTo a_mo_arcRoom a_mo_arcCost a_mo_far a_mo_by a_mo_best a_mo_tape a_mo_kept m_arcs m_tapeMany m_tokenKind m_tokenAt m_tokenEnd m_tokenValue m_fault m_seen m_isKept m_place m_numbers m_boxes)) ckX7_find_X7_get_68 (kcX7_get (l := l) G a_mo a_mo_boxes a_mo_numbers a_mo_words a_mo_weeks a_mo_routes a_mo_turns a_mo_leave a_mo_leases a_mo_uses a_mo_arcFrom a_mo_arcTo a_mo_arcRoom a_mo_arcCost a_mo_far a_mo_by a_mo_best a_mo_tape a_mo_kept v4 (0 : Int32) m_arcs m_tapeMany m_tokenKind m_tokenAt m_tokenEnd m_tokenValue m_fault m_seen m_isKept m_place m_boxes hq) ⟨rfl, rfl, Nat.le_of_ble_eq_true rfl, Nat.le_of_ble_eq_true rfl⟩ [0, 2] rfl rfl rfl rfl rfl rfl rfl hl.1 (Nat.le_of_ble_eq_true rfl) ⟨Nat.zero_le _, Nat.zero_le _⟩ dX7_find_71 (fun H locs hW => ?_)
      refine lv_imul hx hb dX7_find_74 ?_
      refine lv_aload_n hx hb dX7_find_75 rfl (lv_at hl 0 rfl) ?_
      refine lv_iload hx hb dX7_find_76 (lv_at hl 4 rfl) ?_
      refine lv_iconst hx hb dX7_find_78 qI_0 ?_
      obtain ⟨r58, hq, h⟩ := bn1_some h
      refine g_cvi X hW (As := [.int v4, .int (0 : Int32)]) (ws' := (wX7_find G a_mo a_mo_numbers a_mo_boxes a_mo_words a_mo_weeks a_mo_routes a_mo_turns a_mo_leave a_mo_leases a_mo_uses a_mo_arcFrom a_mo_arcTo a_mo_arcRoom a_mo_arcCost a_mo_far a_mo_by a_mo_best a_mo_tape a_mo_kept m_arcs m_tapeMany m_tokenKind m_tokenAt m_tokenEnd m_tokenValue m_fault m_seen m_isKept m_place m_numbers m_boxes)) ckX7_find_X7_get_68 (kcX7_get (l := l) G a_mo a_mo_boxes a_mo_numbers a_mo_words a_mo_weeks a_mo_routes a_mo_turns a_mo_leave a_mo_leases a_mo_uses a_mo_arcFrom a_mo_arcTo a_mo_arcRoom a_mo_arcCost a_mo_far a_mo_by a_mo_best a_mo_tape a_mo_kept v4 (0 : Int32) m_arcs m_tapeMany m_tokenKind m_tokenAt m_tokenEnd m_tokenValue m_fault m_seen m_isKept m_place m_boxes hq) ⟨rfl, rfl, Nat.le_of_ble_eq_true rfl, Nat.le_of_ble_eq_true rfl⟩ [0, 2] rfl rfl rfl rfl rfl rfl rfl hl.1 (Nat.le_of_ble_eq_true rfl) ⟨Nat.zero_le _, Nat.zero_le _⟩ dX7_find_79 (fun H locs hW => ?_)
      obtain ⟨r59, hq, h⟩ := bn1_some h
      refine g_csi X hW (As := [.int r58]) (ws' := (wX7_find G a_mo a_mo_numbers a_mo_boxes a_mo_words a_mo_weeks a_mo_routes a_mo_turns a_mo_leave a_mo_leases a_mo_uses a_mo_arcFrom a_mo_arcTo a_mo_arcRoom a_mo_arcCost a_mo_far a_mo_by a_mo_best a_mo_tape a_mo_kept m_arcs m_tapeMany m_tokenKind m_tokenAt m_tokenEnd m_tokenValue m_fault m_seen m_isKept m_place m_numbers m_boxes)) ckX7_find_X7_checkOf_80 (kcX7_checkOf (l := l) G r58 hq) ⟨rfl, rfl, Nat.le_of_ble_eq_true rfl, Nat.le_of_ble_eq_true rfl⟩ [] rfl rfl rfl rfl rfl rfl hl.1 (Nat.le_of_ble_eq_true rfl) ⟨Nat.zero_le _, Nat.zero_le _⟩ dX7_find_82 (fun H locs hW => ?_)
      refine lv_iadd hx hb dX7_find_85 ?_
      refine lv_istore (lv' := [(5, .int (((10 : Int32) * r53) + r59)), (0, .ref a_mo), (1, .int v1), (2, .int v2), (3, .int v3), (4, .int v4)]) hx hb dX7_find_86 hl (by decide) rfl (fun ls hl => ?_)
      refine lv_iconst hx hb dX7_find_88 qI_0 ?_
      refine lv_istore (lv' := [(6, .int (0 : Int32)), (5, .int (((10 : Int32) * r53) + r59)), (0, .ref a_mo), (1, .int v1), (2, .int v2), (3, .int v3), (4, .int v4)]) hx hb dX7_find_89 hl (by decide) rfl (fun ls hl => ?_)
      refine lv_iconst hx hb dX7_find_91 qI_1 ?_
      refine lv_istore (lv' := [(7, .int (1 : Int32)), (6, .int (0 : Int32)), (5, .int (((10 : Int32) * r53) + r59)), (0, .ref a_mo), (1, .int v1), (2, .int v2), (3, .int v3), (4, .int v4)]) hx hb dX7_find_92 hl (by decide) rfl (fun ls hl => ?_)
      refine lv_iconst hx hb dX7_find_94 qI_0 ?_
      refine lv_istore (lv' := [(8, .int (0 : Int32)), (7, .int (1 : Int32)), (6, .int (0 : Int32)), (5, .int (((10 : Int32) * r53) + r59)), (0, .ref a_mo), (1, .int v1), (2, .int v2), (3, .int v3), (4, .int v4)]) hx hb dX7_find_95 hl (by decide) rfl (fun ls hl => ?_)
      exact tX7_find_97 X v1 v2 v3 v4 (((10 : Int32) * r53) + r59) (fun v6_q68 => fX7_find_144 (fun v2 v3 v4 => fX7_find_54 v1 m_numbers m_boxes k_162 n v2 v3 v4) v2 v3 v4 v6_q68) (fun v6_q68 h H locs hW ls hl => by exact tX7_find_144 X v1 v2 v3 v4 v6_q68 (fun v2 v3 v4 => fX7_find_54 v1 m_numbers m_boxes k_162 n v2 v3 v4) ih h H locs hW ls hl) FU (0 : Int32) (1 : Int32) (0 : Int32) h H locs hW ls (lv_sub hl [4, 5, 6, 7, 8, 3, 2, 1, 0] rfl)
set_option maxHeartbeats 4000000 in
set_option maxRecDepth 100000 in
theorem tX7_find_46 (X : Bx p s m args meth c cX7_find 9 wsX7_find RX7 (some .int)) (v1 : Int32)   (h : fX7_find_46 v1 m_numbers m_boxes = some res) : ∀ (H : Heap) (locs : List Loc), Wo G A s (wX7_find G a_mo a_mo_numbers a_mo_boxes a_mo_words a_mo_weeks a_mo_routes a_mo_turns a_mo_leave a_mo_leases a_mo_uses a_mo_arcFrom a_mo_arcTo a_mo_arcRoom a_mo_arcCost a_mo_far a_mo_by a_mo_best a_mo_tape a_mo_kept m_arcs m_tapeMany m_tokenKind m_tokenAt m_tokenEnd m_tokenValue m_fault m_seen m_isKept m_place m_numbers m_boxes) H locs → ∀ ls : Array Slot, lv_has ls 9 [(0, .ref a_mo), (1, .int v1)] → W p l e rmX7_find s m args below meth c H locs 0 0 (QI G A below args s res (wX7_find G a_mo a_mo_numbers a_mo_boxes a_mo_words a_mo_weeks a_mo_routes a_mo_turns a_mo_leave a_mo_leases a_mo_uses a_mo_arcFrom a_mo_arcTo a_mo_arcRoom a_mo_arcCost a_mo_far a_mo_by a_mo_best a_mo_tape a_mo_kept m_arcs m_tapeMany m_tokenKind m_tokenAt m_tokenEnd m_tokenValue m_fault m_seen m_isKept m_place m_numbers m_boxes)) (F0 m 46 ls []) := by
  obtain ⟨hx, hb, -⟩ := id X.1
  intro H locs hW ls hl
  rw [fX7_find_46] at h
  refine lv_bipush hx hb dX7_find_46 qB_m3 ?_
  refine lv_istore_n (lv' := [(2, .int (-3 : Int32)), (0, .ref a_mo), (1, .int v1)]) hx hb dX7_find_48 rfl hl (by decide) rfl (fun ls hl => ?_)
  refine lv_iconst hx hb dX7_find_49 qI_0 ?_
  refine lv_istore_n (lv' := [(3, .int (0 : Int32)), (2, .int (-3 : Int32)), (0, .ref a_mo), (1, .int v1)]) hx hb dX7_find_50 rfl hl (by decide) rfl (fun ls hl => ?_)
  refine lv_iconst hx hb dX7_find_51 qI_0 ?_
  refine lv_istore (lv' := [(4, .int (0 : Int32)), (3, .int (0 : Int32)), (2, .int (-3 : Int32)), (0, .ref a_mo), (1, .int v1)]) hx hb dX7_find_52 hl (by decide) rfl (fun ls hl => ?_)
  exact tX7_find_54 X v1 (fun v2_q75 v3_q75 => fX7_find_162 v2_q75 v3_q75) (fun v2_q75 v3_q75 h H locs hW ls hl => by exact tX7_find_162 X v2_q75 v3_q75 h H locs hW ls hl) FU (-3 : Int32) (0 : Int32) (0 : Int32) h H locs hW ls (lv_sub hl [3, 4, 2, 1, 0] rfl)
set_option maxHeartbeats 4000000 in
set_option maxRecDepth 100000 in
theorem k0X7_find {l : Launch} (G : Gt) (a_mo a_mo_numbers a_mo_boxes a_mo_words a_mo_weeks a_mo_routes a_mo_turns a_mo_leave a_mo_leases a_mo_uses a_mo_arcFrom a_mo_arcTo a_mo_arcRoom a_mo_arcCost a_mo_far a_mo_by a_mo_best a_mo_tape a_mo_kept : Nat) (v1 : Int32) (m_arcs : Int32) (m_tapeMany : Int32) (m_tokenKind : Int32) (m_tokenAt : Int32) (m_tokenEnd : Int32) (m_tokenValue : Int32) (m_fault : Int32) (m_seen : Int32) (m_isKept : Int32) (m_place : Int32) (m_numbers : (Nat → Int32)) (m_boxes : (Nat → Int32)) {res : Int32} (h : fX7_find v1 m_numbers m_boxes = some res) : CtI G l yX7_find wsX7_find rmX7_find [.ref a_mo, .int v1] (wX7_find G a_mo a_mo_numbers a_mo_boxes a_mo_words a_mo_weeks a_mo_routes a_mo_turns a_mo_leave a_mo_leases a_mo_uses a_mo_arcFrom a_mo_arcTo a_mo_arcRoom a_mo_arcCost a_mo_far a_mo_by a_mo_best a_mo_tape a_mo_kept m_arcs m_tapeMany m_tokenKind m_tokenAt m_tokenEnd m_tokenValue m_fault m_seen m_isKept m_place m_numbers m_boxes) res (wX7_find G a_mo a_mo_numbers a_mo_boxes a_mo_words a_mo_weeks a_mo_routes a_mo_turns a_mo_leave a_mo_leases a_mo_uses a_mo_arcFrom a_mo_arcTo a_mo_arcRoom a_mo_arcCost a_mo_far a_mo_by a_mo_best a_mo_tape a_mo_kept m_arcs m_tapeMany m_tokenKind m_tokenAt m_tokenEnd m_tokenValue m_fault m_seen m_isKept m_place m_numbers m_boxes) := by
  refine CtI.mk (cc := cX7_find) (maxL := 9) (ret := (some .int)) (own := RX7) (by decide) rfl rfl (Nat.le_of_ble_eq_true rfl) ?_
  intro p e s m below meth c A X ls hl hW
  obtain ⟨hx, hb, -⟩ := id X.1
  have hl : lv_has ls 9 [(0, .ref a_mo), (1, .int v1)] := hl
  generalize hH : s.heap = H at hW ⊢
  generalize hLo : ([] : List Loc) = locs at hW ⊢
  rw [fX7_find] at h
  refine lv_iload_n hx hb dX7_find_0 rfl (lv_at hl 1 rfl) ?_
  refine lv_iconst hx hb dX7_find_1 qI_0 ?_
  refine lv_ldc hx hb X.1.2.2.2.1 (X.1.2.2.2.2 _ cwX7_find_83) dX7_find_2 ?_
  obtain ⟨r79, hq, h⟩ := bn1_some h
  refine g_csi X hW (As := [.int v1, .int (0 : Int32), .int (99999 : Int32)]) (ws' := (wX7_find G a_mo a_mo_numbers a_mo_boxes a_mo_words a_mo_weeks a_mo_routes a_mo_turns a_mo_leave a_mo_leases a_mo_uses a_mo_arcFrom a_mo_arcTo a_mo_arcRoom a_mo_arcCost a_mo_far a_mo_by a_mo_best a_mo_tape a_mo_kept m_arcs m_tapeMany m_tokenKind m_tokenAt m_tokenEnd m_tokenValue m_fault m_seen m_isKept m_place m_numbers m_boxes)) ckX7_find_X7_in_64 (kcX7_in (l := l) G v1 (0 : Int32) (99999 : Int32) hq) ⟨rfl, rfl, Nat.le_of_ble_eq_true rfl, Nat.le_of_ble_eq_true rfl⟩ [] rfl rfl rfl rfl rfl rfl hl.1 (Nat.le_of_ble_eq_true rfl) ⟨Nat.zero_le _, Nat.zero_le _⟩ dX7_find_4 (fun H locs hW => ?_)
  refine lv_if_ne (tgt := 12) hx hb dX7_find_7 (by decide) (fun c80 => ?_) (fun c80 => ?_)
  · have h := (if_neg c80).symm.trans h
    refine lv_iload_n hx hb dX7_find_12 rfl (lv_at hl 1 rfl) ?_
    refine lv_bipush hx hb dX7_find_13 qB_10 ?_
    refine lv_idiv hx hb dX7_find_15 (by decide) ?_
    obtain ⟨r84, hq, h⟩ := bn1_some h
    refine g_csi X hW (As := [.int (v1 / (10 : Int32))]) (ws' := (wX7_find G a_mo a_mo_numbers a_mo_boxes a_mo_words a_mo_weeks a_mo_routes a_mo_turns a_mo_leave a_mo_leases a_mo_uses a_mo_arcFrom a_mo_arcTo a_mo_arcRoom a_mo_arcCost a_mo_far a_mo_by a_mo_best a_mo_tape a_mo_kept m_arcs m_tapeMany m_tokenKind m_tokenAt m_tokenEnd m_tokenValue m_fault m_seen m_isKept m_place m_numbers m_boxes)) ckX7_find_X7_checkOf_80 (kcX7_checkOf (l := l) G (v1 / (10 : Int32)) hq) ⟨rfl, rfl, Nat.le_of_ble_eq_true rfl, Nat.le_of_ble_eq_true rfl⟩ [] rfl rfl rfl rfl rfl rfl hl.1 (Nat.le_of_ble_eq_true rfl) ⟨Nat.zero_le _, Nat.zero_le _⟩ dX7_find_16 (fun H locs hW => ?_)
    refine lv_iload_n hx hb dX7_find_19 rfl (lv_at hl 1 rfl) ?_
    refine lv_bipush hx hb dX7_find_20 qB_10 ?_
    refine g_irem hx hb dX7_find_22 (by decide) ?_
    refine lv_icmp_ne (tgt := 46) hx hb dX7_find_23 (by decide) (fun c88 => ?_) (fun c88 => ?_)
    · have h := (if_neg c88).symm.trans h
      exact tX7_find_46 X v1 h H locs hW ls hl
    · have h := (if_pos c88).symm.trans h
      refine lv_aload_n hx hb dX7_find_26 rfl (lv_at hl 0 rfl) ?_
      refine lv_iload_n hx hb dX7_find_27 rfl (lv_at hl 1 rfl) ?_
      refine lv_bipush hx hb dX7_find_28 qB_10 ?_
      refine lv_idiv hx hb dX7_find_30 (by decide) ?_
      obtain ⟨r93, hq, h⟩ := bn1_some h
      refine g_cvi X hW (As := [.int (v1 / (10 : Int32))]) (ws' := (wX7_find G a_mo a_mo_numbers a_mo_boxes a_mo_words a_mo_weeks a_mo_routes a_mo_turns a_mo_leave a_mo_leases a_mo_uses a_mo_arcFrom a_mo_arcTo a_mo_arcRoom a_mo_arcCost a_mo_far a_mo_by a_mo_best a_mo_tape a_mo_kept m_arcs m_tapeMany m_tokenKind m_tokenAt m_tokenEnd m_tokenValue m_fault m_seen m_isKept m_place m_numbers m_boxes)) ckX7_find_X7_boxOf_76 (kcX7_boxOf (l := l) G a_mo a_mo_numbers a_mo_boxes a_mo_words a_mo_weeks a_mo_routes a_mo_turns a_mo_leave a_mo_leases a_mo_uses a_mo_arcFrom a_mo_arcTo a_mo_arcRoom a_mo_arcCost a_mo_far a_mo_by a_mo_best a_mo_tape a_mo_kept (v1 / (10 : Int32)) m_arcs m_tapeMany m_tokenKind m_tokenAt m_tokenEnd m_tokenValue m_fault m_seen m_isKept m_place m_numbers m_boxes hq) ⟨rfl, rfl, Nat.le_of_ble_eq_true rfl, Nat.le_of_ble_eq_true rfl⟩ [0, 1, 2] rfl rfl rfl rfl rfl rfl rfl hl.1 (Nat.le_of_ble_eq_true rfl) ⟨Nat.zero_le _, Nat.zero_le _⟩ dX7_find_31 (fun H locs hW => ?_)
      refine lv_if_lt (tgt := 46) hx hb dX7_find_34 (by decide) (fun c94 => ?_) (fun c94 => ?_)
      · have h := (if_pos c94).symm.trans h
        exact tX7_find_46 X v1 h H locs hW ls hl
      · have h := (if_neg c94).symm.trans h
        refine lv_aload_n hx hb dX7_find_37 rfl (lv_at hl 0 rfl) ?_
        refine lv_iload_n hx hb dX7_find_38 rfl (lv_at hl 1 rfl) ?_
        refine lv_bipush hx hb dX7_find_39 qB_10 ?_
        refine lv_idiv hx hb dX7_find_41 (by decide) ?_
        obtain ⟨r99, hq, h⟩ := bn1_some h
        refine g_cvi X hW (As := [.int (v1 / (10 : Int32))]) (ws' := (wX7_find G a_mo a_mo_numbers a_mo_boxes a_mo_words a_mo_weeks a_mo_routes a_mo_turns a_mo_leave a_mo_leases a_mo_uses a_mo_arcFrom a_mo_arcTo a_mo_arcRoom a_mo_arcCost a_mo_far a_mo_by a_mo_best a_mo_tape a_mo_kept m_arcs m_tapeMany m_tokenKind m_tokenAt m_tokenEnd m_tokenValue m_fault m_seen m_isKept m_place m_numbers m_boxes)) ckX7_find_X7_boxOf_76 (kcX7_boxOf (l := l) G a_mo a_mo_numbers a_mo_boxes a_mo_words a_mo_weeks a_mo_routes a_mo_turns a_mo_leave a_mo_leases a_mo_uses a_mo_arcFrom a_mo_arcTo a_mo_arcRoom a_mo_arcCost a_mo_far a_mo_by a_mo_best a_mo_tape a_mo_kept (v1 / (10 : Int32)) m_arcs m_tapeMany m_tokenKind m_tokenAt m_tokenEnd m_tokenValue m_fault m_seen m_isKept m_place m_numbers m_boxes hq) ⟨rfl, rfl, Nat.le_of_ble_eq_true rfl, Nat.le_of_ble_eq_true rfl⟩ [0, 1, 2] rfl rfl rfl rfl rfl rfl rfl hl.1 (Nat.le_of_ble_eq_true rfl) ⟨Nat.zero_le _, Nat.zero_le _⟩ dX7_find_42 (fun H locs hW => ?_)
        obtain rfl := Option.some.inj h
        exact g_iret X hW dX7_find_45
  · have h := (if_pos c80).symm.trans h
    refine lv_iconst hx hb dX7_find_10 qI_m1 ?_
    obtain rfl := Option.some.inj h
    exact g_iret X hW dX7_find_11
theorem kcX7_find {l : Launch} (G : Gt) (a_mo a_mo_numbers a_mo_boxes a_mo_words a_mo_weeks a_mo_routes a_mo_turns a_mo_leave a_mo_leases a_mo_uses a_mo_arcFrom a_mo_arcTo a_mo_arcRoom a_mo_arcCost a_mo_far a_mo_by a_mo_best a_mo_tape a_mo_kept : Nat) (v1 : Int32) (m_arcs : Int32) (m_tapeMany : Int32) (m_tokenKind : Int32) (m_tokenAt : Int32) (m_tokenEnd : Int32) (m_tokenValue : Int32) (m_fault : Int32) (m_seen : Int32) (m_isKept : Int32) (m_place : Int32) (m_numbers : (Nat → Int32)) (m_boxes : (Nat → Int32)) {r : Int32}  (h : fX7_find v1 m_numbers m_boxes = some r) : CtI G l yX7_find wsX7_find rmX7_find [.ref a_mo, .int v1] (wX7_find G a_mo a_mo_numbers a_mo_boxes a_mo_words a_mo_weeks a_mo_routes a_mo_turns a_mo_leave a_mo_leases a_mo_uses a_mo_arcFrom a_mo_arcTo a_mo_arcRoom a_mo_arcCost a_mo_far a_mo_by a_mo_best a_mo_tape a_mo_kept m_arcs m_tapeMany m_tokenKind m_tokenAt m_tokenEnd m_tokenValue m_fault m_seen m_isKept m_place m_numbers m_boxes) r (wX7_find G a_mo a_mo_numbers a_mo_boxes a_mo_words a_mo_weeks a_mo_routes a_mo_turns a_mo_leave a_mo_leases a_mo_uses a_mo_arcFrom a_mo_arcTo a_mo_arcRoom a_mo_arcCost a_mo_far a_mo_by a_mo_best a_mo_tape a_mo_kept m_arcs m_tapeMany m_tokenKind m_tokenAt m_tokenEnd m_tokenValue m_fault m_seen m_isKept m_place m_numbers m_boxes) := k0X7_find G a_mo a_mo_numbers a_mo_boxes a_mo_words a_mo_weeks a_mo_routes a_mo_turns a_mo_leave a_mo_leases a_mo_uses a_mo_arcFrom a_mo_arcTo a_mo_arcRoom a_mo_arcCost a_mo_far a_mo_by a_mo_best a_mo_tape a_mo_kept v1 m_arcs m_tapeMany m_tokenKind m_tokenAt m_tokenEnd m_tokenValue m_fault m_seen m_isKept m_place m_numbers m_boxes h
end MX7_find
/-! EmptyBoxesModel.of -/
section MX7_of
theorem hdX7_of : yX7_of.cls = RX7 ∧ yX7_of.cls ≠ "java/lang/invoke/MethodHandle" ∧ yX7_of.cls ≠ "java/lang/invoke/VarHandle" ∧ (parseMethodDescriptor yX7_of.desc).map (fun d => d.parameters.length) = some 2 := by decide +kernel
abbrev wX7_of (G : Gt) (a_mo a_mo_numbers a_mo_boxes a_mo_words a_mo_weeks a_mo_routes a_mo_turns a_mo_leave a_mo_leases a_mo_uses a_mo_arcFrom a_mo_arcTo a_mo_arcRoom a_mo_arcCost a_mo_far a_mo_by a_mo_best a_mo_tape a_mo_kept : Nat) (m_arcs : Int32) (m_tapeMany : Int32) (m_tokenKind : Int32) (m_tokenAt : Int32) (m_tokenEnd : Int32) (m_tokenValue : Int32) (m_fault : Int32) (m_seen : Int32) (m_isKept : Int32) (m_place : Int32) (m_numbers : (Nat → Int32)) (m_boxes : (Nat → Int32)) : va_W := [(a_mo, .inr (7, [.ref a_mo_numbers, .ref a_mo_boxes, .ref a_mo_words, .ref a_mo_weeks, .ref a_mo_routes, .ref a_mo_turns, .ref a_mo_leave, .ref a_mo_leases, .ref a_mo_uses, .ref a_mo_arcFrom, .ref a_mo_arcTo, .ref a_mo_arcRoom, .ref a_mo_arcCost, .int m_arcs, .ref a_mo_far, .ref a_mo_by, .ref a_mo_best, .ref a_mo_tape, .int m_tapeMany, .int m_tokenKind, .int m_tokenAt, .int m_tokenEnd, .int m_tokenValue, .int m_fault, .int m_seen, .int m_isKept, .ref a_mo_kept, .int m_place])), (a_mo_numbers, .inl (G.2.1, 10, .inl m_numbers)), (a_mo_boxes, .inl (G.2.1, 216, .inl m_boxes))]
abbrev rmX7_of : Room := { frames := 2, cells := 0, slots := 0, locals := 43 }
theorem ckX7_of_X7_get_68 : CkV wsX7_of RX7 68 yX7_get wsX7_get cX7_get 3 (some .int) 2 7 := ⟨RX7, TX7, 28, _, rfl, gX7_of_X7_get, rfl, hdX7_get⟩
theorem ckX7_of_X7_in_64 : CkS wsX7_of RX7 64 yX7_in wsX7_in cX7_in 3 (some .boolean) 3 := ⟨_, gX7_of_X7_in, rfl, hdX7_in.2⟩
theorem ckX7_of_X7_isBox_84 : CkV wsX7_of RX7 84 yX7_isBox wsX7_isBox cX7_isBox 2 (some .boolean) 1 7 := ⟨RX7, TX7, 28, _, rfl, gX7_of_X7_isBox, rfl, hdX7_isBox⟩
variable {p : Program} {l : Launch} {e : Env} {s : State} {m : MethodId} {args : Array Value} {below : List Frame} {meth : Method} {c : Code} {A : Nat → Prop} {G : Gt} {a_mo a_mo_numbers a_mo_boxes a_mo_words a_mo_weeks a_mo_routes a_mo_turns a_mo_leave a_mo_leases a_mo_uses a_mo_arcFrom a_mo_arcTo a_mo_arcRoom a_mo_arcCost a_mo_far a_mo_by a_mo_best a_mo_tape a_mo_kept : Nat} {m_arcs : Int32} {m_tapeMany : Int32} {m_tokenKind : Int32} {m_tokenAt : Int32} {m_tokenEnd : Int32} {m_tokenValue : Int32} {m_fault : Int32} {m_seen : Int32} {m_isKept : Int32} {m_place : Int32} {m_numbers : (Nat → Int32)} {m_boxes : (Nat → Int32)} {res : Int32}
set_option maxHeartbeats 4000000 in
set_option maxRecDepth 100000 in
theorem k0X7_of {l : Launch} (G : Gt) (a_mo a_mo_numbers a_mo_boxes a_mo_words a_mo_weeks a_mo_routes a_mo_turns a_mo_leave a_mo_leases a_mo_uses a_mo_arcFrom a_mo_arcTo a_mo_arcRoom a_mo_arcCost a_mo_far a_mo_by a_mo_best a_mo_tape a_mo_kept : Nat) (v1 : Int32) (v2 : Int32) (m_arcs : Int32) (m_tapeMany : Int32) (m_tokenKind : Int32) (m_tokenAt : Int32) (m_tokenEnd : Int32) (m_tokenValue : Int32) (m_fault : Int32) (m_seen : Int32) (m_isKept : Int32) (m_place : Int32) (m_numbers : (Nat → Int32)) (m_boxes : (Nat → Int32)) {res : Int32} (h : fX7_of v1 v2 m_numbers m_boxes = some res) : CtI G l yX7_of wsX7_of rmX7_of [.ref a_mo, .int v1, .int v2] (wX7_of G a_mo a_mo_numbers a_mo_boxes a_mo_words a_mo_weeks a_mo_routes a_mo_turns a_mo_leave a_mo_leases a_mo_uses a_mo_arcFrom a_mo_arcTo a_mo_arcRoom a_mo_arcCost a_mo_far a_mo_by a_mo_best a_mo_tape a_mo_kept m_arcs m_tapeMany m_tokenKind m_tokenAt m_tokenEnd m_tokenValue m_fault m_seen m_isKept m_place m_numbers m_boxes) res (wX7_of G a_mo a_mo_numbers a_mo_boxes a_mo_words a_mo_weeks a_mo_routes a_mo_turns a_mo_leave a_mo_leases a_mo_uses a_mo_arcFrom a_mo_arcTo a_mo_arcRoom a_mo_arcCost a_mo_far a_mo_by a_mo_best a_mo_tape a_mo_kept m_arcs m_tapeMany m_tokenKind m_tokenAt m_tokenEnd m_tokenValue m_fault m_seen m_isKept m_place m_numbers m_boxes) := by
  refine CtI.mk (cc := cX7_of) (maxL := 4) (ret := (some .int)) (own := RX7) (by decide) rfl rfl (Nat.le_of_ble_eq_true rfl) ?_
  intro p e s m below meth c A X ls hl hW
  obtain ⟨hx, hb, -⟩ := id X.1
  have hl : lv_has ls 4 [(0, .ref a_mo), (1, .int v1), (2, .int v2)] := hl
  generalize hH : s.heap = H at hW ⊢
  generalize hLo : ([] : List Loc) = locs at hW ⊢
  rw [fX7_of] at h
  refine lv_aload_n hx hb dX7_of_0 rfl (lv_at hl 0 rfl) ?_
  refine lv_iload_n hx hb dX7_of_1 rfl (lv_at hl 1 rfl) ?_
  obtain ⟨r3, hq, h⟩ := bn1_some h
  refine g_cvi X hW (As := [.int v1]) (ws' := (wX7_of G a_mo a_mo_numbers a_mo_boxes a_mo_words a_mo_weeks a_mo_routes a_mo_turns a_mo_leave a_mo_leases a_mo_uses a_mo_arcFrom a_mo_arcTo a_mo_arcRoom a_mo_arcCost a_mo_far a_mo_by a_mo_best a_mo_tape a_mo_kept m_arcs m_tapeMany m_tokenKind m_tokenAt m_tokenEnd m_tokenValue m_fault m_seen m_isKept m_place m_numbers m_boxes)) ckX7_of_X7_isBox_84 (kcX7_isBox (l := l) G a_mo a_mo_numbers a_mo_boxes a_mo_words a_mo_weeks a_mo_routes a_mo_turns a_mo_leave a_mo_leases a_mo_uses a_mo_arcFrom a_mo_arcTo a_mo_arcRoom a_mo_arcCost a_mo_far a_mo_by a_mo_best a_mo_tape a_mo_kept v1 m_arcs m_tapeMany m_tokenKind m_tokenAt m_tokenEnd m_tokenValue m_fault m_seen m_isKept m_place m_numbers hq) ⟨rfl, rfl, Nat.le_of_ble_eq_true rfl, Nat.le_of_ble_eq_true rfl⟩ [0, 1] rfl rfl rfl rfl rfl rfl rfl hl.1 (Nat.le_of_ble_eq_true rfl) ⟨Nat.zero_le _, Nat.zero_le _⟩ dX7_of_2 (fun H locs hW => ?_)
  refine lv_if_eq (tgt := 18) hx hb dX7_of_5 (by decide) (fun c4 => ?_) (fun c4 => ?_)
  · have h := (if_pos c4).symm.trans h
    refine lv_iconst hx hb dX7_of_18 qI_m1 ?_
    obtain rfl := Option.some.inj h
    exact g_iret X hW dX7_of_19
  · have h := (if_neg c4).symm.trans h
    refine lv_iload_n hx hb dX7_of_8 rfl (lv_at hl 2 rfl) ?_
    refine lv_iconst hx hb dX7_of_9 qI_0 ?_
    refine lv_bipush hx hb dX7_of_10 qB_6 ?_
    obtain ⟨r10, hq, h⟩ := bn1_some h
    refine g_csi X hW (As := [.int v2, .int (0 : Int32), .int (6 : Int32)]) (ws' := (wX7_of G a_mo a_mo_numbers a_mo_boxes a_mo_words a_mo_weeks a_mo_routes a_mo_turns a_mo_leave a_mo_leases a_mo_uses a_mo_arcFrom a_mo_arcTo a_mo_arcRoom a_mo_arcCost a_mo_far a_mo_by a_mo_best a_mo_tape a_mo_kept m_arcs m_tapeMany m_tokenKind m_tokenAt m_tokenEnd m_tokenValue m_fault m_seen m_isKept m_place m_numbers m_boxes)) ckX7_of_X7_in_64 (kcX7_in (l := l) G v2 (0 : Int32) (6 : Int32) hq) ⟨rfl, rfl, Nat.le_of_ble_eq_true rfl, Nat.le_of_ble_eq_true rfl⟩ [] rfl rfl rfl rfl rfl rfl hl.1 (Nat.le_of_ble_eq_true rfl) ⟨Nat.zero_le _, Nat.zero_le _⟩ dX7_of_12 (fun H locs hW => ?_)
    refine lv_if_ne (tgt := 20) hx hb dX7_of_15 (by decide) (fun c11 => ?_) (fun c11 => ?_)
    · have h := (if_neg c11).symm.trans h
      refine lv_aload_n hx hb dX7_of_20 rfl (lv_at hl 0 rfl) ?_
      refine lv_iload_n hx hb dX7_of_21 rfl (lv_at hl 1 rfl) ?_
      refine lv_iload_n hx hb dX7_of_22 rfl (lv_at hl 2 rfl) ?_
      obtain ⟨r15, hq, h⟩ := bn1_some h
      refine g_cvi X hW (As := [.int v1, .int v2]) (ws' := (wX7_of G a_mo a_mo_numbers a_mo_boxes a_mo_words a_mo_weeks a_mo_routes a_mo_turns a_mo_leave a_mo_leases a_mo_uses a_mo_arcFrom a_mo_arcTo a_mo_arcRoom a_mo_arcCost a_mo_far a_mo_by a_mo_best a_mo_tape a_mo_kept m_arcs m_tapeMany m_tokenKind m_tokenAt m_tokenEnd m_tokenValue m_fault m_seen m_isKept m_place m_numbers m_boxes)) ckX7_of_X7_get_68 (kcX7_get (l := l) G a_mo a_mo_boxes a_mo_numbers a_mo_words a_mo_weeks a_mo_routes a_mo_turns a_mo_leave a_mo_leases a_mo_uses a_mo_arcFrom a_mo_arcTo a_mo_arcRoom a_mo_arcCost a_mo_far a_mo_by a_mo_best a_mo_tape a_mo_kept v1 v2 m_arcs m_tapeMany m_tokenKind m_tokenAt m_tokenEnd m_tokenValue m_fault m_seen m_isKept m_place m_boxes hq) ⟨rfl, rfl, Nat.le_of_ble_eq_true rfl, Nat.le_of_ble_eq_true rfl⟩ [0, 2] rfl rfl rfl rfl rfl rfl rfl hl.1 (Nat.le_of_ble_eq_true rfl) ⟨Nat.zero_le _, Nat.zero_le _⟩ dX7_of_23 (fun H locs hW => ?_)
      refine lv_istore_n (lv' := [(3, .int r15), (0, .ref a_mo), (1, .int v1), (2, .int v2)]) hx hb dX7_of_26 rfl hl (by decide) rfl (fun ls hl => ?_)
      refine lv_iload_n hx hb dX7_of_27 rfl (lv_at hl 0 rfl) ?_
      refine lv_if_ge (tgt := 36) hx hb dX7_of_28 (by decide) (fun c18 => ?_) (fun c18 => ?_)
      · have h := (if_pos c18).symm.trans h
        refine lv_iload_n hx hb dX7_of_36 rfl (lv_at hl 0 rfl) ?_
        obtain rfl := Option.some.inj h
        exact g_iret X hW dX7_of_37
      · have h := (if_neg c18).symm.trans h
        refine lv_bipush hx hb dX7_of_31 qB_m3 ?_
        refine lv_goto (tgt := 37) hx hb dX7_of_33 (by decide) ?_
        obtain rfl := Option.some.inj h
        exact g_iret X hW dX7_of_37
    · have h := (if_pos c11).symm.trans h
      refine lv_iconst hx hb dX7_of_18 qI_m1 ?_
      obtain rfl := Option.some.inj h
      exact g_iret X hW dX7_of_19
theorem kcX7_of {l : Launch} (G : Gt) (a_mo a_mo_numbers a_mo_boxes a_mo_words a_mo_weeks a_mo_routes a_mo_turns a_mo_leave a_mo_leases a_mo_uses a_mo_arcFrom a_mo_arcTo a_mo_arcRoom a_mo_arcCost a_mo_far a_mo_by a_mo_best a_mo_tape a_mo_kept : Nat) (v1 : Int32) (v2 : Int32) (m_arcs : Int32) (m_tapeMany : Int32) (m_tokenKind : Int32) (m_tokenAt : Int32) (m_tokenEnd : Int32) (m_tokenValue : Int32) (m_fault : Int32) (m_seen : Int32) (m_isKept : Int32) (m_place : Int32) (m_numbers : (Nat → Int32)) (m_boxes : (Nat → Int32)) {r : Int32}  (h : fX7_of v1 v2 m_numbers m_boxes = some r) : CtI G l yX7_of wsX7_of rmX7_of [.ref a_mo, .int v1, .int v2] (wX7_of G a_mo a_mo_numbers a_mo_boxes a_mo_words a_mo_weeks a_mo_routes a_mo_turns a_mo_leave a_mo_leases a_mo_uses a_mo_arcFrom a_mo_arcTo a_mo_arcRoom a_mo_arcCost a_mo_far a_mo_by a_mo_best a_mo_tape a_mo_kept m_arcs m_tapeMany m_tokenKind m_tokenAt m_tokenEnd m_tokenValue m_fault m_seen m_isKept m_place m_numbers m_boxes) r (wX7_of G a_mo a_mo_numbers a_mo_boxes a_mo_words a_mo_weeks a_mo_routes a_mo_turns a_mo_leave a_mo_leases a_mo_uses a_mo_arcFrom a_mo_arcTo a_mo_arcRoom a_mo_arcCost a_mo_far a_mo_by a_mo_best a_mo_tape a_mo_kept m_arcs m_tapeMany m_tokenKind m_tokenAt m_tokenEnd m_tokenValue m_fault m_seen m_isKept m_place m_numbers m_boxes) := k0X7_of G a_mo a_mo_numbers a_mo_boxes a_mo_words a_mo_weeks a_mo_routes a_mo_turns a_mo_leave a_mo_leases a_mo_uses a_mo_arcFrom a_mo_arcTo a_mo_arcRoom a_mo_arcCost a_mo_far a_mo_by a_mo_best a_mo_tape a_mo_kept v1 v2 m_arcs m_tapeMany m_tokenKind m_tokenAt m_tokenEnd m_tokenValue m_fault m_seen m_isKept m_place m_numbers m_boxes h
end MX7_of
/-! EmptyBoxesModel.word -/
section MX7_word
theorem hdX7_word : yX7_word.cls = RX7 ∧ yX7_word.cls ≠ "java/lang/invoke/MethodHandle" ∧ yX7_word.cls ≠ "java/lang/invoke/VarHandle" ∧ (parseMethodDescriptor yX7_word.desc).map (fun d => d.parameters.length) = some 4 := by decide +kernel
abbrev wX7_word (G : Gt) (a_mo a_mo_numbers a_mo_boxes a_mo_words a_mo_weeks a_mo_routes a_mo_turns a_mo_leave a_mo_leases a_mo_uses a_mo_arcFrom a_mo_arcTo a_mo_arcRoom a_mo_arcCost a_mo_far a_mo_by a_mo_best a_mo_tape a_mo_kept : Nat) (m_arcs : Int32) (m_tapeMany : Int32) (m_tokenKind : Int32) (m_tokenAt : Int32) (m_tokenEnd : Int32) (m_tokenValue : Int32) (m_fault : Int32) (m_seen : Int32) (m_isKept : Int32) (m_place : Int32) (m_numbers : (Nat → Int32)) (m_boxes : (Nat → Int32)) (m_words : (Nat → Int32)) : va_W := [(a_mo, .inr (7, [.ref a_mo_numbers, .ref a_mo_boxes, .ref a_mo_words, .ref a_mo_weeks, .ref a_mo_routes, .ref a_mo_turns, .ref a_mo_leave, .ref a_mo_leases, .ref a_mo_uses, .ref a_mo_arcFrom, .ref a_mo_arcTo, .ref a_mo_arcRoom, .ref a_mo_arcCost, .int m_arcs, .ref a_mo_far, .ref a_mo_by, .ref a_mo_best, .ref a_mo_tape, .int m_tapeMany, .int m_tokenKind, .int m_tokenAt, .int m_tokenEnd, .int m_tokenValue, .int m_fault, .int m_seen, .int m_isKept, .ref a_mo_kept, .int m_place])), (a_mo_numbers, .inl (G.2.1, 10, .inl m_numbers)), (a_mo_boxes, .inl (G.2.1, 216, .inl m_boxes)), (a_mo_words, .inl (G.2.1, 300, .inl m_words))]
abbrev rmX7_word : Room := { frames := 2, cells := 0, slots := 0, locals := 43 }
theorem iX7_word_X7 : ∀ w ∈ wsX70, w ∈ wsX7_word := by decide +kernel
theorem eX7_word_16 : Fk wsX7_word RX7 16 7 2 := ⟨RX7, TX7, 28, rfl, iX7_word_X7, by decide, by decide +kernel⟩
theorem eX7_word_7 : Fk wsX7_word RX7 7 7 0 := ⟨RX7, TX7, 28, rfl, iX7_word_X7, by decide, by decide +kernel⟩
theorem ckX7_word_X7_get_68 : CkV wsX7_word RX7 68 yX7_get wsX7_get cX7_get 3 (some .int) 2 7 := ⟨RX7, TX7, 28, _, rfl, gX7_word_X7_get, rfl, hdX7_get⟩
theorem ckX7_word_X7_in_64 : CkS wsX7_word RX7 64 yX7_in wsX7_in cX7_in 3 (some .boolean) 3 := ⟨_, gX7_word_X7_in, rfl, hdX7_in.2⟩
theorem ckX7_word_X7_isBox_84 : CkV wsX7_word RX7 84 yX7_isBox wsX7_isBox cX7_isBox 2 (some .boolean) 1 7 := ⟨RX7, TX7, 28, _, rfl, gX7_word_X7_isBox, rfl, hdX7_isBox⟩
theorem ckX7_word_X7_isPast_87 : CkV wsX7_word RX7 87 yX7_isPast wsX7_isPast cX7_isPast 2 (some .boolean) 1 7 := ⟨RX7, TX7, 28, _, rfl, gX7_word_X7_isPast, rfl, hdX7_isPast⟩
theorem ckX7_word_X7_isPlace_90 : CkS wsX7_word RX7 90 yX7_isPlace wsX7_isPlace cX7_isPlace 1 (some .boolean) 1 := ⟨_, gX7_word_X7_isPlace, rfl, hdX7_isPlace.2⟩
variable {p : Program} {l : Launch} {e : Env} {s : State} {m : MethodId} {args : Array Value} {below : List Frame} {meth : Method} {c : Code} {A : Nat → Prop} {G : Gt} {a_mo a_mo_numbers a_mo_boxes a_mo_words a_mo_weeks a_mo_routes a_mo_turns a_mo_leave a_mo_leases a_mo_uses a_mo_arcFrom a_mo_arcTo a_mo_arcRoom a_mo_arcCost a_mo_far a_mo_by a_mo_best a_mo_tape a_mo_kept : Nat} {m_arcs : Int32} {m_tapeMany : Int32} {m_tokenKind : Int32} {m_tokenAt : Int32} {m_tokenEnd : Int32} {m_tokenValue : Int32} {m_fault : Int32} {m_seen : Int32} {m_isKept : Int32} {m_place : Int32} {m_boxes : (Nat → Int32)} {res : Int32 × (Nat → Int32) × (Nat → Int32)}
set_option maxHeartbeats 4000000 in
set_option maxRecDepth 100000 in
theorem k0X7_word {l : Launch} (G : Gt) (a_mo a_mo_numbers a_mo_boxes a_mo_words a_mo_weeks a_mo_routes a_mo_turns a_mo_leave a_mo_leases a_mo_uses a_mo_arcFrom a_mo_arcTo a_mo_arcRoom a_mo_arcCost a_mo_far a_mo_by a_mo_best a_mo_tape a_mo_kept : Nat) (v1 : Int32) (v2 : Int32) (v3 : Int32) (v4 : Int32) (m_arcs : Int32) (m_tapeMany : Int32) (m_tokenKind : Int32) (m_tokenAt : Int32) (m_tokenEnd : Int32) (m_tokenValue : Int32) (m_fault : Int32) (m_seen : Int32) (m_isKept : Int32) (m_place : Int32) (m_numbers : (Nat → Int32)) (m_boxes : (Nat → Int32)) (m_words : (Nat → Int32)) {res : Int32 × (Nat → Int32) × (Nat → Int32)} (h : fX7_word v1 v2 v3 v4 m_numbers m_boxes m_words = some res) : CtI G l yX7_word wsX7_word rmX7_word [.ref a_mo, .int v1, .int v2, .int v3, .int v4] (wX7_word G a_mo a_mo_numbers a_mo_boxes a_mo_words a_mo_weeks a_mo_routes a_mo_turns a_mo_leave a_mo_leases a_mo_uses a_mo_arcFrom a_mo_arcTo a_mo_arcRoom a_mo_arcCost a_mo_far a_mo_by a_mo_best a_mo_tape a_mo_kept m_arcs m_tapeMany m_tokenKind m_tokenAt m_tokenEnd m_tokenValue m_fault m_seen m_isKept m_place m_numbers m_boxes m_words) res.1 (wX7_word G a_mo a_mo_numbers a_mo_boxes a_mo_words a_mo_weeks a_mo_routes a_mo_turns a_mo_leave a_mo_leases a_mo_uses a_mo_arcFrom a_mo_arcTo a_mo_arcRoom a_mo_arcCost a_mo_far a_mo_by a_mo_best a_mo_tape a_mo_kept m_arcs m_tapeMany m_tokenKind m_tokenAt m_tokenEnd m_tokenValue m_fault m_seen m_isKept m_place res.2.1 m_boxes res.2.2) := by
  refine CtI.mk (cc := cX7_word) (maxL := 6) (ret := (some .int)) (own := RX7) (by decide) rfl rfl (Nat.le_of_ble_eq_true rfl) ?_
  intro p e s m below meth c A X ls hl hW
  obtain ⟨hx, hb, -⟩ := id X.1
  have hl : lv_has ls 6 [(0, .ref a_mo), (1, .int v1), (2, .int v2), (3, .int v3), (4, .int v4)] := hl
  generalize hH : s.heap = H at hW ⊢
  generalize hLo : ([] : List Loc) = locs at hW ⊢
  rw [fX7_word] at h
  refine lv_aload_n hx hb dX7_word_0 rfl (lv_at hl 0 rfl) ?_
  refine lv_iload_n hx hb dX7_word_1 rfl (lv_at hl 1 rfl) ?_
  obtain ⟨r3, hq, h⟩ := bn1_some h
  refine g_cvi X hW (As := [.int v1]) (ws' := (wX7_word G a_mo a_mo_numbers a_mo_boxes a_mo_words a_mo_weeks a_mo_routes a_mo_turns a_mo_leave a_mo_leases a_mo_uses a_mo_arcFrom a_mo_arcTo a_mo_arcRoom a_mo_arcCost a_mo_far a_mo_by a_mo_best a_mo_tape a_mo_kept m_arcs m_tapeMany m_tokenKind m_tokenAt m_tokenEnd m_tokenValue m_fault m_seen m_isKept m_place m_numbers m_boxes m_words)) ckX7_word_X7_isBox_84 (kcX7_isBox (l := l) G a_mo a_mo_numbers a_mo_boxes a_mo_words a_mo_weeks a_mo_routes a_mo_turns a_mo_leave a_mo_leases a_mo_uses a_mo_arcFrom a_mo_arcTo a_mo_arcRoom a_mo_arcCost a_mo_far a_mo_by a_mo_best a_mo_tape a_mo_kept v1 m_arcs m_tapeMany m_tokenKind m_tokenAt m_tokenEnd m_tokenValue m_fault m_seen m_isKept m_place m_numbers hq) ⟨rfl, rfl, Nat.le_of_ble_eq_true rfl, Nat.le_of_ble_eq_true rfl⟩ [0, 1] rfl rfl rfl rfl rfl rfl rfl hl.1 (Nat.le_of_ble_eq_true rfl) ⟨Nat.zero_le _, Nat.zero_le _⟩ dX7_word_2 (fun H locs hW => ?_)
  refine lv_if_eq (tgt := 33) hx hb dX7_word_5 (by decide) (fun c4 => ?_) (fun c4 => ?_)
  · have h := (if_pos c4).symm.trans h
    refine lv_iconst hx hb dX7_word_33 qI_m1 ?_
    obtain rfl := Option.some.inj h
    exact g_iret X hW dX7_word_34
  · have h := (if_neg c4).symm.trans h
    refine lv_aload_n hx hb dX7_word_8 rfl (lv_at hl 0 rfl) ?_
    refine lv_iload_n hx hb dX7_word_9 rfl (lv_at hl 2 rfl) ?_
    obtain ⟨r9, hq, h⟩ := bn1_some h
    refine g_cvi X hW (As := [.int v2]) (ws' := (wX7_word G a_mo a_mo_numbers a_mo_boxes a_mo_words a_mo_weeks a_mo_routes a_mo_turns a_mo_leave a_mo_leases a_mo_uses a_mo_arcFrom a_mo_arcTo a_mo_arcRoom a_mo_arcCost a_mo_far a_mo_by a_mo_best a_mo_tape a_mo_kept m_arcs m_tapeMany m_tokenKind m_tokenAt m_tokenEnd m_tokenValue m_fault m_seen m_isKept m_place m_numbers m_boxes m_words)) ckX7_word_X7_isPast_87 (kcX7_isPast (l := l) G a_mo a_mo_numbers a_mo_boxes a_mo_words a_mo_weeks a_mo_routes a_mo_turns a_mo_leave a_mo_leases a_mo_uses a_mo_arcFrom a_mo_arcTo a_mo_arcRoom a_mo_arcCost a_mo_far a_mo_by a_mo_best a_mo_tape a_mo_kept v2 m_arcs m_tapeMany m_tokenKind m_tokenAt m_tokenEnd m_tokenValue m_fault m_seen m_isKept m_place m_numbers hq) ⟨rfl, rfl, Nat.le_of_ble_eq_true rfl, Nat.le_of_ble_eq_true rfl⟩ [0, 1] rfl rfl rfl rfl rfl rfl rfl hl.1 (Nat.le_of_ble_eq_true rfl) ⟨Nat.zero_le _, Nat.zero_le _⟩ dX7_word_10 (fun H locs hW => ?_)
    refine lv_if_eq (tgt := 33) hx hb dX7_word_13 (by decide) (fun c10 => ?_) (fun c10 => ?_)
    · have h := (if_pos c10).symm.trans h
      refine lv_iconst hx hb dX7_word_33 qI_m1 ?_
      obtain rfl := Option.some.inj h
      exact g_iret X hW dX7_word_34
    · have h := (if_neg c10).symm.trans h
      refine lv_iload_n hx hb dX7_word_16 rfl (lv_at hl 3 rfl) ?_
      obtain ⟨r14, hq, h⟩ := bn1_some h
      refine g_csi X hW (As := [.int v3]) (ws' := (wX7_word G a_mo a_mo_numbers a_mo_boxes a_mo_words a_mo_weeks a_mo_routes a_mo_turns a_mo_leave a_mo_leases a_mo_uses a_mo_arcFrom a_mo_arcTo a_mo_arcRoom a_mo_arcCost a_mo_far a_mo_by a_mo_best a_mo_tape a_mo_kept m_arcs m_tapeMany m_tokenKind m_tokenAt m_tokenEnd m_tokenValue m_fault m_seen m_isKept m_place m_numbers m_boxes m_words)) ckX7_word_X7_isPlace_90 (kcX7_isPlace (l := l) G v3 hq) ⟨rfl, rfl, Nat.le_of_ble_eq_true rfl, Nat.le_of_ble_eq_true rfl⟩ [] rfl rfl rfl rfl rfl rfl hl.1 (Nat.le_of_ble_eq_true rfl) ⟨Nat.zero_le _, Nat.zero_le _⟩ dX7_word_17 (fun H locs hW => ?_)
      refine lv_if_eq (tgt := 33) hx hb dX7_word_20 (by decide) (fun c15 => ?_) (fun c15 => ?_)
      · have h := (if_pos c15).symm.trans h
        refine lv_iconst hx hb dX7_word_33 qI_m1 ?_
        obtain rfl := Option.some.inj h
        exact g_iret X hW dX7_word_34
      · have h := (if_neg c15).symm.trans h
        refine lv_iload hx hb dX7_word_23 (lv_at hl 4 rfl) ?_
        refine lv_iconst hx hb dX7_word_25 qI_0 ?_
        refine lv_iconst hx hb dX7_word_26 qI_1 ?_
        obtain ⟨r21, hq, h⟩ := bn1_some h
        refine g_csi X hW (As := [.int v4, .int (0 : Int32), .int (1 : Int32)]) (ws' := (wX7_word G a_mo a_mo_numbers a_mo_boxes a_mo_words a_mo_weeks a_mo_routes a_mo_turns a_mo_leave a_mo_leases a_mo_uses a_mo_arcFrom a_mo_arcTo a_mo_arcRoom a_mo_arcCost a_mo_far a_mo_by a_mo_best a_mo_tape a_mo_kept m_arcs m_tapeMany m_tokenKind m_tokenAt m_tokenEnd m_tokenValue m_fault m_seen m_isKept m_place m_numbers m_boxes m_words)) ckX7_word_X7_in_64 (kcX7_in (l := l) G v4 (0 : Int32) (1 : Int32) hq) ⟨rfl, rfl, Nat.le_of_ble_eq_true rfl, Nat.le_of_ble_eq_true rfl⟩ [] rfl rfl rfl rfl rfl rfl hl.1 (Nat.le_of_ble_eq_true rfl) ⟨Nat.zero_le _, Nat.zero_le _⟩ dX7_word_27 (fun H locs hW => ?_)
        refine lv_if_ne (tgt := 35) hx hb dX7_word_30 (by decide) (fun c22 => ?_) (fun c22 => ?_)
        · have h := (if_neg c22).symm.trans h
          refine lv_aload_n hx hb dX7_word_35 rfl (lv_at hl 0 rfl) ?_
          refine lv_iload_n hx hb dX7_word_36 rfl (lv_at hl 1 rfl) ?_
          refine lv_iconst hx hb dX7_word_37 qI_5 ?_
          obtain ⟨r26, hq, h⟩ := bn1_some h
          refine g_cvi X hW (As := [.int v1, .int (5 : Int32)]) (ws' := (wX7_word G a_mo a_mo_numbers a_mo_boxes a_mo_words a_mo_weeks a_mo_routes a_mo_turns a_mo_leave a_mo_leases a_mo_uses a_mo_arcFrom a_mo_arcTo a_mo_arcRoom a_mo_arcCost a_mo_far a_mo_by a_mo_best a_mo_tape a_mo_kept m_arcs m_tapeMany m_tokenKind m_tokenAt m_tokenEnd m_tokenValue m_fault m_seen m_isKept m_place m_numbers m_boxes m_words)) ckX7_word_X7_get_68 (kcX7_get (l := l) G a_mo a_mo_boxes a_mo_numbers a_mo_words a_mo_weeks a_mo_routes a_mo_turns a_mo_leave a_mo_leases a_mo_uses a_mo_arcFrom a_mo_arcTo a_mo_arcRoom a_mo_arcCost a_mo_far a_mo_by a_mo_best a_mo_tape a_mo_kept v1 (5 : Int32) m_arcs m_tapeMany m_tokenKind m_tokenAt m_tokenEnd m_tokenValue m_fault m_seen m_isKept m_place m_boxes hq) ⟨rfl, rfl, Nat.le_of_ble_eq_true rfl, Nat.le_of_ble_eq_true rfl⟩ [0, 2] rfl rfl rfl rfl rfl rfl rfl hl.1 (Nat.le_of_ble_eq_true rfl) ⟨Nat.zero_le _, Nat.zero_le _⟩ dX7_word_38 (fun H locs hW => ?_)
          refine lv_if_eq (tgt := 47) hx hb dX7_word_41 (by decide) (fun c27 => ?_) (fun c27 => ?_)
          · have h := (if_pos c27).symm.trans h
            refine lv_aload_n hx hb dX7_word_47 rfl (lv_at hl 0 rfl) ?_
            refine g_get X hW eX7_word_7 0 rfl rfl dX7_word_48 ?_
            refine lv_iconst hx hb dX7_word_51 qI_2 ?_
            obtain ⟨g31, h⟩ := gd_some h
            refine g_ald X hW 1 rfl g31 dX7_word_52 ?_
            refine lv_bipush hx hb dX7_word_53 qB_60 ?_
            refine lv_icmp_ne (tgt := 61) hx hb dX7_word_55 (by decide) (fun c33 => ?_) (fun c33 => ?_)
            · have h := (if_neg c33).symm.trans h
              refine lv_iconst hx hb dX7_word_61 qI_5 ?_
              refine lv_aload_n hx hb dX7_word_62 rfl (lv_at hl 0 rfl) ?_
              refine g_get X hW eX7_word_7 0 rfl rfl dX7_word_63 ?_
              refine lv_iconst hx hb dX7_word_66 qI_2 ?_
              obtain ⟨g38, h⟩ := gd_some h
              refine g_ald X hW 1 rfl g38 dX7_word_67 ?_
              refine lv_imul hx hb dX7_word_68 ?_
              refine lv_istore (lv' := [(5, .int ((5 : Int32) * (m_numbers (2 : Int32).toNatClampNeg))), (0, .ref a_mo), (1, .int v1), (2, .int v2), (3, .int v3), (4, .int v4)]) hx hb dX7_word_69 hl (by decide) rfl (fun ls hl => ?_)
              refine lv_aload_n hx hb dX7_word_71 rfl (lv_at hl 1 rfl) ?_
              refine g_get X hW eX7_word_16 0 rfl rfl dX7_word_72 ?_
              refine lv_iload hx hb dX7_word_75 (lv_at hl 0 rfl) ?_
              refine lv_iload_n hx hb dX7_word_77 rfl (lv_at hl 2 rfl) ?_
              obtain ⟨g45, h⟩ := gd_some h
              refine g_ast X hW (ws' := (wX7_word G a_mo a_mo_numbers a_mo_boxes a_mo_words a_mo_weeks a_mo_routes a_mo_turns a_mo_leave a_mo_leases a_mo_uses a_mo_arcFrom a_mo_arcTo a_mo_arcRoom a_mo_arcCost a_mo_far a_mo_by a_mo_best a_mo_tape a_mo_kept m_arcs m_tapeMany m_tokenKind m_tokenAt m_tokenEnd m_tokenValue m_fault m_seen m_isKept m_place m_numbers m_boxes (upd m_words ((5 : Int32) * (m_numbers (2 : Int32).toNatClampNeg)).toNatClampNeg v1))) 3 rfl g45 rfl dX7_word_78 (fun H locs hW => ?_)
              refine lv_aload_n hx hb dX7_word_79 rfl (lv_at hl 1 rfl) ?_
              refine g_get X hW eX7_word_16 0 rfl rfl dX7_word_80 ?_
              refine lv_iload hx hb dX7_word_83 (lv_at hl 0 rfl) ?_
              refine lv_iconst hx hb dX7_word_85 qI_1 ?_
              refine lv_iadd hx hb dX7_word_86 ?_
              refine lv_iload_n hx hb dX7_word_87 rfl (lv_at hl 3 rfl) ?_
              obtain ⟨g52, h⟩ := gd_some h
              refine g_ast X hW (ws' := (wX7_word G a_mo a_mo_numbers a_mo_boxes a_mo_words a_mo_weeks a_mo_routes a_mo_turns a_mo_leave a_mo_leases a_mo_uses a_mo_arcFrom a_mo_arcTo a_mo_arcRoom a_mo_arcCost a_mo_far a_mo_by a_mo_best a_mo_tape a_mo_kept m_arcs m_tapeMany m_tokenKind m_tokenAt m_tokenEnd m_tokenValue m_fault m_seen m_isKept m_place m_numbers m_boxes (upd (upd m_words ((5 : Int32) * (m_numbers (2 : Int32).toNatClampNeg)).toNatClampNeg v1) (((5 : Int32) * (m_numbers (2 : Int32).toNatClampNeg)) + (1 : Int32)).toNatClampNeg v2))) 3 rfl g52 rfl dX7_word_88 (fun H locs hW => ?_)
              refine lv_aload_n hx hb dX7_word_89 rfl (lv_at hl 1 rfl) ?_
              refine g_get X hW eX7_word_16 0 rfl rfl dX7_word_90 ?_
              refine lv_iload hx hb dX7_word_93 (lv_at hl 0 rfl) ?_
              refine lv_iconst hx hb dX7_word_95 qI_2 ?_
              refine lv_iadd hx hb dX7_word_96 ?_
              refine lv_iload_n hx hb dX7_word_97 rfl (lv_at hl 4 rfl) ?_
              obtain ⟨g59, h⟩ := gd_some h
              refine g_ast X hW (ws' := (wX7_word G a_mo a_mo_numbers a_mo_boxes a_mo_words a_mo_weeks a_mo_routes a_mo_turns a_mo_leave a_mo_leases a_mo_uses a_mo_arcFrom a_mo_arcTo a_mo_arcRoom a_mo_arcCost a_mo_far a_mo_by a_mo_best a_mo_tape a_mo_kept m_arcs m_tapeMany m_tokenKind m_tokenAt m_tokenEnd m_tokenValue m_fault m_seen m_isKept m_place m_numbers m_boxes (upd (upd (upd m_words ((5 : Int32) * (m_numbers (2 : Int32).toNatClampNeg)).toNatClampNeg v1) (((5 : Int32) * (m_numbers (2 : Int32).toNatClampNeg)) + (1 : Int32)).toNatClampNeg v2) (((5 : Int32) * (m_numbers (2 : Int32).toNatClampNeg)) + (2 : Int32)).toNatClampNeg v3))) 3 rfl g59 rfl dX7_word_98 (fun H locs hW => ?_)
              refine lv_aload_n hx hb dX7_word_99 rfl (lv_at hl 1 rfl) ?_
              refine g_get X hW eX7_word_16 0 rfl rfl dX7_word_100 ?_
              refine lv_iload hx hb dX7_word_103 (lv_at hl 0 rfl) ?_
              refine lv_iconst hx hb dX7_word_105 qI_3 ?_
              refine lv_iadd hx hb dX7_word_106 ?_
              refine lv_iload hx hb dX7_word_107 (lv_at hl 5 rfl) ?_
              obtain ⟨g66, h⟩ := gd_some h
              refine g_ast X hW (ws' := (wX7_word G a_mo a_mo_numbers a_mo_boxes a_mo_words a_mo_weeks a_mo_routes a_mo_turns a_mo_leave a_mo_leases a_mo_uses a_mo_arcFrom a_mo_arcTo a_mo_arcRoom a_mo_arcCost a_mo_far a_mo_by a_mo_best a_mo_tape a_mo_kept m_arcs m_tapeMany m_tokenKind m_tokenAt m_tokenEnd m_tokenValue m_fault m_seen m_isKept m_place m_numbers m_boxes (upd (upd (upd (upd m_words ((5 : Int32) * (m_numbers (2 : Int32).toNatClampNeg)).toNatClampNeg v1) (((5 : Int32) * (m_numbers (2 : Int32).toNatClampNeg)) + (1 : Int32)).toNatClampNeg v2) (((5 : Int32) * (m_numbers (2 : Int32).toNatClampNeg)) + (2 : Int32)).toNatClampNeg v3) (((5 : Int32) * (m_numbers (2 : Int32).toNatClampNeg)) + (3 : Int32)).toNatClampNeg v4))) 3 rfl g66 rfl dX7_word_109 (fun H locs hW => ?_)
              refine lv_aload_n hx hb dX7_word_110 rfl (lv_at hl 1 rfl) ?_
              refine g_get X hW eX7_word_16 0 rfl rfl dX7_word_111 ?_
              refine lv_iload hx hb dX7_word_114 (lv_at hl 0 rfl) ?_
              refine lv_iconst hx hb dX7_word_116 qI_4 ?_
              refine lv_iadd hx hb dX7_word_117 ?_
              refine lv_aload_n hx hb dX7_word_118 rfl (lv_at hl 1 rfl) ?_
              refine g_get X hW eX7_word_7 0 rfl rfl dX7_word_119 ?_
              refine lv_iconst hx hb dX7_word_122 qI_0 ?_
              obtain ⟨g75, h⟩ := gd_some h
              refine g_ald X hW 1 rfl g75 dX7_word_123 ?_
              obtain ⟨g76, h⟩ := gd_some h
              refine g_ast X hW (ws' := (wX7_word G a_mo a_mo_numbers a_mo_boxes a_mo_words a_mo_weeks a_mo_routes a_mo_turns a_mo_leave a_mo_leases a_mo_uses a_mo_arcFrom a_mo_arcTo a_mo_arcRoom a_mo_arcCost a_mo_far a_mo_by a_mo_best a_mo_tape a_mo_kept m_arcs m_tapeMany m_tokenKind m_tokenAt m_tokenEnd m_tokenValue m_fault m_seen m_isKept m_place m_numbers m_boxes (upd (upd (upd (upd (upd m_words ((5 : Int32) * (m_numbers (2 : Int32).toNatClampNeg)).toNatClampNeg v1) (((5 : Int32) * (m_numbers (2 : Int32).toNatClampNeg)) + (1 : Int32)).toNatClampNeg v2) (((5 : Int32) * (m_numbers (2 : Int32).toNatClampNeg)) + (2 : Int32)).toNatClampNeg v3) (((5 : Int32) * (m_numbers (2 : Int32).toNatClampNeg)) + (3 : Int32)).toNatClampNeg v4) (((5 : Int32) * (m_numbers (2 : Int32).toNatClampNeg)) + (4 : Int32)).toNatClampNeg (m_numbers (0 : Int32).toNatClampNeg)))) 3 rfl g76 rfl dX7_word_124 (fun H locs hW => ?_)
              refine lv_aload_n hx hb dX7_word_125 rfl (lv_at hl 1 rfl) ?_
              refine g_get X hW eX7_word_7 0 rfl rfl dX7_word_126 ?_
              refine lv_iconst hx hb dX7_word_129 qI_2 ?_
              refine lv_dup2_11 hx hb dX7_word_130 rfl rfl ?_
              obtain ⟨g81, h⟩ := gd_some h
              refine g_ald X hW 1 rfl g81 dX7_word_131 ?_
              refine lv_iconst hx hb dX7_word_132 qI_1 ?_
              refine lv_iadd hx hb dX7_word_133 ?_
              obtain ⟨g84, h⟩ := gd_some h
              refine g_ast X hW (ws' := (wX7_word G a_mo a_mo_numbers a_mo_boxes a_mo_words a_mo_weeks a_mo_routes a_mo_turns a_mo_leave a_mo_leases a_mo_uses a_mo_arcFrom a_mo_arcTo a_mo_arcRoom a_mo_arcCost a_mo_far a_mo_by a_mo_best a_mo_tape a_mo_kept m_arcs m_tapeMany m_tokenKind m_tokenAt m_tokenEnd m_tokenValue m_fault m_seen m_isKept m_place (upd m_numbers (2 : Int32).toNatClampNeg ((m_numbers (2 : Int32).toNatClampNeg) + (1 : Int32))) m_boxes (upd (upd (upd (upd (upd m_words ((5 : Int32) * (m_numbers (2 : Int32).toNatClampNeg)).toNatClampNeg v1) (((5 : Int32) * (m_numbers (2 : Int32).toNatClampNeg)) + (1 : Int32)).toNatClampNeg v2) (((5 : Int32) * (m_numbers (2 : Int32).toNatClampNeg)) + (2 : Int32)).toNatClampNeg v3) (((5 : Int32) * (m_numbers (2 : Int32).toNatClampNeg)) + (3 : Int32)).toNatClampNeg v4) (((5 : Int32) * (m_numbers (2 : Int32).toNatClampNeg)) + (4 : Int32)).toNatClampNeg (m_numbers (0 : Int32).toNatClampNeg)))) 1 rfl g84 rfl dX7_word_134 (fun H locs hW => ?_)
              refine lv_aload_n hx hb dX7_word_135 rfl (lv_at hl 1 rfl) ?_
              refine g_get X hW eX7_word_7 0 rfl rfl dX7_word_136 ?_
              refine lv_iconst hx hb dX7_word_139 qI_2 ?_
              obtain ⟨g88, h⟩ := gd_some h
              refine g_ald X hW 1 rfl g88 dX7_word_140 ?_
              refine lv_iconst hx hb dX7_word_141 qI_1 ?_
              refine lv_isub hx hb dX7_word_142 ?_
              obtain rfl := Option.some.inj h
              exact g_iret X hW dX7_word_143
            · have h := (if_pos c33).symm.trans h
              refine lv_bipush hx hb dX7_word_58 qB_m2 ?_
              obtain rfl := Option.some.inj h
              exact g_iret X hW dX7_word_60
          · have h := (if_neg c27).symm.trans h
            refine lv_bipush hx hb dX7_word_44 qB_m4 ?_
            obtain rfl := Option.some.inj h
            exact g_iret X hW dX7_word_46
        · have h := (if_pos c22).symm.trans h
          refine lv_iconst hx hb dX7_word_33 qI_m1 ?_
          obtain rfl := Option.some.inj h
          exact g_iret X hW dX7_word_34
theorem kcX7_word {l : Launch} (G : Gt) (a_mo a_mo_numbers a_mo_boxes a_mo_words a_mo_weeks a_mo_routes a_mo_turns a_mo_leave a_mo_leases a_mo_uses a_mo_arcFrom a_mo_arcTo a_mo_arcRoom a_mo_arcCost a_mo_far a_mo_by a_mo_best a_mo_tape a_mo_kept : Nat) (v1 : Int32) (v2 : Int32) (v3 : Int32) (v4 : Int32) (m_arcs : Int32) (m_tapeMany : Int32) (m_tokenKind : Int32) (m_tokenAt : Int32) (m_tokenEnd : Int32) (m_tokenValue : Int32) (m_fault : Int32) (m_seen : Int32) (m_isKept : Int32) (m_place : Int32) (m_numbers : (Nat → Int32)) (m_boxes : (Nat → Int32)) (m_words : (Nat → Int32)) {r : Int32} {z_m_numbers : (Nat → Int32)} {z_m_words : (Nat → Int32)} (h : fX7_word v1 v2 v3 v4 m_numbers m_boxes m_words = some (r, z_m_numbers, z_m_words)) : CtI G l yX7_word wsX7_word rmX7_word [.ref a_mo, .int v1, .int v2, .int v3, .int v4] (wX7_word G a_mo a_mo_numbers a_mo_boxes a_mo_words a_mo_weeks a_mo_routes a_mo_turns a_mo_leave a_mo_leases a_mo_uses a_mo_arcFrom a_mo_arcTo a_mo_arcRoom a_mo_arcCost a_mo_far a_mo_by a_mo_best a_mo_tape a_mo_kept m_arcs m_tapeMany m_tokenKind m_tokenAt m_tokenEnd m_tokenValue m_fault m_seen m_isKept m_place m_numbers m_boxes m_words) r (wX7_word G a_mo a_mo_numbers a_mo_boxes a_mo_words a_mo_weeks a_mo_routes a_mo_turns a_mo_leave a_mo_leases a_mo_uses a_mo_arcFrom a_mo_arcTo a_mo_arcRoom a_mo_arcCost a_mo_far a_mo_by a_mo_best a_mo_tape a_mo_kept m_arcs m_tapeMany m_tokenKind m_tokenAt m_tokenEnd m_tokenValue m_fault m_seen m_isKept m_place z_m_numbers m_boxes z_m_words) := k0X7_word G a_mo a_mo_numbers a_mo_boxes a_mo_words a_mo_weeks a_mo_routes a_mo_turns a_mo_leave a_mo_leases a_mo_uses a_mo_arcFrom a_mo_arcTo a_mo_arcRoom a_mo_arcCost a_mo_far a_mo_by a_mo_best a_mo_tape a_mo_kept v1 v2 v3 v4 m_arcs m_tapeMany m_tokenKind m_tokenAt m_tokenEnd m_tokenValue m_fault m_seen m_isKept m_place m_numbers m_boxes m_words h
end MX7_word
/-! EmptyBoxesModel.latest -/
section MX7_latest
theorem hdX7_latest : yX7_latest.cls = RX7 ∧ yX7_latest.cls ≠ "java/lang/invoke/MethodHandle" ∧ yX7_latest.cls ≠ "java/lang/invoke/VarHandle" ∧ (parseMethodDescriptor yX7_latest.desc).map (fun d => d.parameters.length) = some 3 := by decide +kernel
abbrev wX7_latest (G : Gt) (a_mo a_mo_numbers a_mo_words a_mo_boxes a_mo_weeks a_mo_routes a_mo_turns a_mo_leave a_mo_leases a_mo_uses a_mo_arcFrom a_mo_arcTo a_mo_arcRoom a_mo_arcCost a_mo_far a_mo_by a_mo_best a_mo_tape a_mo_kept : Nat) (m_arcs : Int32) (m_tapeMany : Int32) (m_tokenKind : Int32) (m_tokenAt : Int32) (m_tokenEnd : Int32) (m_tokenValue : Int32) (m_fault : Int32) (m_seen : Int32) (m_isKept : Int32) (m_place : Int32) (m_numbers : (Nat → Int32)) (m_words : (Nat → Int32)) : va_W := [(a_mo, .inr (7, [.ref a_mo_numbers, .ref a_mo_boxes, .ref a_mo_words, .ref a_mo_weeks, .ref a_mo_routes, .ref a_mo_turns, .ref a_mo_leave, .ref a_mo_leases, .ref a_mo_uses, .ref a_mo_arcFrom, .ref a_mo_arcTo, .ref a_mo_arcRoom, .ref a_mo_arcCost, .int m_arcs, .ref a_mo_far, .ref a_mo_by, .ref a_mo_best, .ref a_mo_tape, .int m_tapeMany, .int m_tokenKind, .int m_tokenAt, .int m_tokenEnd, .int m_tokenValue, .int m_fault, .int m_seen, .int m_isKept, .ref a_mo_kept, .int m_place])), (a_mo_numbers, .inl (G.2.1, 10, .inl m_numbers)), (a_mo_words, .inl (G.2.1, 300, .inl m_words))]
abbrev rmX7_latest : Room := { frames := 0, cells := 0, slots := 0, locals := 0 }
theorem iX7_latest_X7 : ∀ w ∈ wsX70, w ∈ wsX7_latest := by decide +kernel
theorem eX7_latest_16 : Fk wsX7_latest RX7 16 7 2 := ⟨RX7, TX7, 28, rfl, iX7_latest_X7, by decide, by decide +kernel⟩
theorem eX7_latest_7 : Fk wsX7_latest RX7 7 7 0 := ⟨RX7, TX7, 28, rfl, iX7_latest_X7, by decide, by decide +kernel⟩
variable {p : Program} {l : Launch} {e : Env} {s : State} {m : MethodId} {args : Array Value} {below : List Frame} {meth : Method} {c : Code} {A : Nat → Prop} {G : Gt} {a_mo a_mo_numbers a_mo_words a_mo_boxes a_mo_weeks a_mo_routes a_mo_turns a_mo_leave a_mo_leases a_mo_uses a_mo_arcFrom a_mo_arcTo a_mo_arcRoom a_mo_arcCost a_mo_far a_mo_by a_mo_best a_mo_tape a_mo_kept : Nat} {m_arcs : Int32} {m_tapeMany : Int32} {m_tokenKind : Int32} {m_tokenAt : Int32} {m_tokenEnd : Int32} {m_tokenValue : Int32} {m_fault : Int32} {m_seen : Int32} {m_isKept : Int32} {m_place : Int32} {m_numbers : (Nat → Int32)} {m_words : (Nat → Int32)} {res : Int32}
set_option maxHeartbeats 4000000 in
set_option maxRecDepth 100000 in
theorem tX7_latest_99 (X : Bx p s m args meth c cX7_latest 6 wsX7_latest RX7 (some .int)) (v1 : Int32) (v2 : Int32) (v3 : Int32) (v4 : Int32) (v5 : Int32) (k_6 : Int32 → Int32 → Option (Int32)) (Hk_6 : ∀ (v4 : Int32) (v5 : Int32), k_6 v4 v5 = some res → ∀ (H : Heap) (locs : List Loc), Wo G A s (wX7_latest G a_mo a_mo_numbers a_mo_words a_mo_boxes a_mo_weeks a_mo_routes a_mo_turns a_mo_leave a_mo_leases a_mo_uses a_mo_arcFrom a_mo_arcTo a_mo_arcRoom a_mo_arcCost a_mo_far a_mo_by a_mo_best a_mo_tape a_mo_kept m_arcs m_tapeMany m_tokenKind m_tokenAt m_tokenEnd m_tokenValue m_fault m_seen m_isKept m_place m_numbers m_words) H locs → ∀ ls : Array Slot, lv_has ls 6 [(0, .ref a_mo), (1, .int v1), (2, .int v2), (3, .int v3), (4, .int v4), (5, .int v5)] → W p l e rmX7_latest s m args below meth c H locs 0 0 (QI G A below args s res (wX7_latest G a_mo a_mo_numbers a_mo_words a_mo_boxes a_mo_weeks a_mo_routes a_mo_turns a_mo_leave a_mo_leases a_mo_uses a_mo_arcFrom a_mo_arcTo a_mo_arcRoom a_mo_arcCost a_mo_far a_mo_by a_mo_best a_mo_tape a_mo_kept m_arcs m_tapeMany m_tokenKind m_tokenAt m_tokenEnd m_tokenValue m_fault m_seen m_isKept m_place m_numbers m_words)) (F0 m 6 ls [])) (h : fX7_latest_99 k_6 v4 v5 = some res) : ∀ (H : Heap) (locs : List Loc), Wo G A s (wX7_latest G a_mo a_mo_numbers a_mo_words a_mo_boxes a_mo_weeks a_mo_routes a_mo_turns a_mo_leave a_mo_leases a_mo_uses a_mo_arcFrom a_mo_arcTo a_mo_arcRoom a_mo_arcCost a_mo_far a_mo_by a_mo_best a_mo_tape a_mo_kept m_arcs m_tapeMany m_tokenKind m_tokenAt m_tokenEnd m_tokenValue m_fault m_seen m_isKept m_place m_numbers m_words) H locs → ∀ ls : Array Slot, lv_has ls 6 [(0, .ref a_mo), (1, .int v1), (2, .int v2), (3, .int v3), (4, .int v4), (5, .int v5)] → W p l e rmX7_latest s m args below meth c H locs 0 0 (QI G A below args s res (wX7_latest G a_mo a_mo_numbers a_mo_words a_mo_boxes a_mo_weeks a_mo_routes a_mo_turns a_mo_leave a_mo_leases a_mo_uses a_mo_arcFrom a_mo_arcTo a_mo_arcRoom a_mo_arcCost a_mo_far a_mo_by a_mo_best a_mo_tape a_mo_kept m_arcs m_tapeMany m_tokenKind m_tokenAt m_tokenEnd m_tokenValue m_fault m_seen m_isKept m_place m_numbers m_words)) (F0 m 99 ls []) := by
  obtain ⟨hx, hb, -⟩ := id X.1
  intro H locs hW ls hl
  rw [fX7_latest_99] at h
  refine lv_iinc (v := (v5 + (1 : Int32))) (lv' := [(5, .int (v5 + (1 : Int32))), (0, .ref a_mo), (1, .int v1), (2, .int v2), (3, .int v3), (4, .int v4)]) hx hb dX7_latest_99 hl (k := 5) rfl (congrArg (fun z => v5 + z) qI_1) (by decide) rfl (fun ls hl => ?_)
  refine lv_goto (tgt := 6) hx hb dX7_latest_102 (by decide) ?_
  exact Hk_6 v4 (v5 + (1 : Int32)) h H locs hW ls (lv_sub hl [1, 2, 3, 4, 5, 0] rfl)
set_option maxHeartbeats 4000000 in
set_option maxRecDepth 100000 in
theorem tX7_latest_97 (X : Bx p s m args meth c cX7_latest 6 wsX7_latest RX7 (some .int)) (v1 : Int32) (v2 : Int32) (v3 : Int32) (v5 : Int32) (t0 : Int32) (k_6 : Int32 → Int32 → Option (Int32)) (Hk_6 : ∀ (v4 : Int32) (v5 : Int32), k_6 v4 v5 = some res → ∀ (H : Heap) (locs : List Loc), Wo G A s (wX7_latest G a_mo a_mo_numbers a_mo_words a_mo_boxes a_mo_weeks a_mo_routes a_mo_turns a_mo_leave a_mo_leases a_mo_uses a_mo_arcFrom a_mo_arcTo a_mo_arcRoom a_mo_arcCost a_mo_far a_mo_by a_mo_best a_mo_tape a_mo_kept m_arcs m_tapeMany m_tokenKind m_tokenAt m_tokenEnd m_tokenValue m_fault m_seen m_isKept m_place m_numbers m_words) H locs → ∀ ls : Array Slot, lv_has ls 6 [(0, .ref a_mo), (1, .int v1), (2, .int v2), (3, .int v3), (4, .int v4), (5, .int v5)] → W p l e rmX7_latest s m args below meth c H locs 0 0 (QI G A below args s res (wX7_latest G a_mo a_mo_numbers a_mo_words a_mo_boxes a_mo_weeks a_mo_routes a_mo_turns a_mo_leave a_mo_leases a_mo_uses a_mo_arcFrom a_mo_arcTo a_mo_arcRoom a_mo_arcCost a_mo_far a_mo_by a_mo_best a_mo_tape a_mo_kept m_arcs m_tapeMany m_tokenKind m_tokenAt m_tokenEnd m_tokenValue m_fault m_seen m_isKept m_place m_numbers m_words)) (F0 m 6 ls [])) (h : fX7_latest_97 k_6 v5 t0 = some res) : ∀ (H : Heap) (locs : List Loc), Wo G A s (wX7_latest G a_mo a_mo_numbers a_mo_words a_mo_boxes a_mo_weeks a_mo_routes a_mo_turns a_mo_leave a_mo_leases a_mo_uses a_mo_arcFrom a_mo_arcTo a_mo_arcRoom a_mo_arcCost a_mo_far a_mo_by a_mo_best a_mo_tape a_mo_kept m_arcs m_tapeMany m_tokenKind m_tokenAt m_tokenEnd m_tokenValue m_fault m_seen m_isKept m_place m_numbers m_words) H locs → ∀ ls : Array Slot, lv_has ls 6 [(0, .ref a_mo), (1, .int v1), (2, .int v2), (3, .int v3), (5, .int v5)] → W p l e rmX7_latest s m args below meth c H locs 0 0 (QI G A below args s res (wX7_latest G a_mo a_mo_numbers a_mo_words a_mo_boxes a_mo_weeks a_mo_routes a_mo_turns a_mo_leave a_mo_leases a_mo_uses a_mo_arcFrom a_mo_arcTo a_mo_arcRoom a_mo_arcCost a_mo_far a_mo_by a_mo_best a_mo_tape a_mo_kept m_arcs m_tapeMany m_tokenKind m_tokenAt m_tokenEnd m_tokenValue m_fault m_seen m_isKept m_place m_numbers m_words)) (F0 m 97 ls [.int t0]) := by
  obtain ⟨hx, hb, -⟩ := id X.1
  intro H locs hW ls hl
  rw [fX7_latest_97] at h
  refine lv_istore (lv' := [(4, .int t0), (0, .ref a_mo), (1, .int v1), (2, .int v2), (3, .int v3), (5, .int v5)]) hx hb dX7_latest_97 hl (by decide) rfl (fun ls hl => ?_)
  exact tX7_latest_99 X v1 v2 v3 t0 v5 k_6 Hk_6 h H locs hW ls (lv_sub hl [1, 2, 3, 4, 0, 5] rfl)
set_option maxHeartbeats 4000000 in
set_option maxRecDepth 100000 in
theorem tX7_latest_90 (X : Bx p s m args meth c cX7_latest 6 wsX7_latest RX7 (some .int)) (v1 : Int32) (v2 : Int32) (v3 : Int32) (v5 : Int32) (k_6 : Int32 → Int32 → Option (Int32)) (Hk_6 : ∀ (v4 : Int32) (v5 : Int32), k_6 v4 v5 = some res → ∀ (H : Heap) (locs : List Loc), Wo G A s (wX7_latest G a_mo a_mo_numbers a_mo_words a_mo_boxes a_mo_weeks a_mo_routes a_mo_turns a_mo_leave a_mo_leases a_mo_uses a_mo_arcFrom a_mo_arcTo a_mo_arcRoom a_mo_arcCost a_mo_far a_mo_by a_mo_best a_mo_tape a_mo_kept m_arcs m_tapeMany m_tokenKind m_tokenAt m_tokenEnd m_tokenValue m_fault m_seen m_isKept m_place m_numbers m_words) H locs → ∀ ls : Array Slot, lv_has ls 6 [(0, .ref a_mo), (1, .int v1), (2, .int v2), (3, .int v3), (4, .int v4), (5, .int v5)] → W p l e rmX7_latest s m args below meth c H locs 0 0 (QI G A below args s res (wX7_latest G a_mo a_mo_numbers a_mo_words a_mo_boxes a_mo_weeks a_mo_routes a_mo_turns a_mo_leave a_mo_leases a_mo_uses a_mo_arcFrom a_mo_arcTo a_mo_arcRoom a_mo_arcCost a_mo_far a_mo_by a_mo_best a_mo_tape a_mo_kept m_arcs m_tapeMany m_tokenKind m_tokenAt m_tokenEnd m_tokenValue m_fault m_seen m_isKept m_place m_numbers m_words)) (F0 m 6 ls [])) (h : fX7_latest_90 k_6 v5 = some res) : ∀ (H : Heap) (locs : List Loc), Wo G A s (wX7_latest G a_mo a_mo_numbers a_mo_words a_mo_boxes a_mo_weeks a_mo_routes a_mo_turns a_mo_leave a_mo_leases a_mo_uses a_mo_arcFrom a_mo_arcTo a_mo_arcRoom a_mo_arcCost a_mo_far a_mo_by a_mo_best a_mo_tape a_mo_kept m_arcs m_tapeMany m_tokenKind m_tokenAt m_tokenEnd m_tokenValue m_fault m_seen m_isKept m_place m_numbers m_words) H locs → ∀ ls : Array Slot, lv_has ls 6 [(0, .ref a_mo), (1, .int v1), (2, .int v2), (3, .int v3), (5, .int v5)] → W p l e rmX7_latest s m args below meth c H locs 0 0 (QI G A below args s res (wX7_latest G a_mo a_mo_numbers a_mo_words a_mo_boxes a_mo_weeks a_mo_routes a_mo_turns a_mo_leave a_mo_leases a_mo_uses a_mo_arcFrom a_mo_arcTo a_mo_arcRoom a_mo_arcCost a_mo_far a_mo_by a_mo_best a_mo_tape a_mo_kept m_arcs m_tapeMany m_tokenKind m_tokenAt m_tokenEnd m_tokenValue m_fault m_seen m_isKept m_place m_numbers m_words)) (F0 m 90 ls []) := by
  obtain ⟨hx, hb, -⟩ := id X.1
  intro H locs hW ls hl
  rw [fX7_latest_90] at h
  refine lv_iload hx hb dX7_latest_90 (lv_at hl 4 rfl) ?_
  refine lv_goto (tgt := 97) hx hb dX7_latest_92 (by decide) ?_
  exact tX7_latest_97 X v1 v2 v3 v5 v5 k_6 Hk_6 h H locs hW ls hl
set_option maxHeartbeats 4000000 in
set_option maxRecDepth 100000 in
theorem tX7_latest_6 (X : Bx p s m args meth c cX7_latest 6 wsX7_latest RX7 (some .int)) (v1 : Int32) (v2 : Int32) (v3 : Int32)   : ∀ (n : Nat) (v4 : Int32) (v5 : Int32), fX7_latest_6 v1 v2 v3 m_numbers m_words n v4 v5 = some res → ∀ (H : Heap) (locs : List Loc), Wo G A s (wX7_latest G a_mo a_mo_numbers a_mo_words a_mo_boxes a_mo_weeks a_mo_routes a_mo_turns a_mo_leave a_mo_leases a_mo_uses a_mo_arcFrom a_mo_arcTo a_mo_arcRoom a_mo_arcCost a_mo_far a_mo_by a_mo_best a_mo_tape a_mo_kept m_arcs m_tapeMany m_tokenKind m_tokenAt m_tokenEnd m_tokenValue m_fault m_seen m_isKept m_place m_numbers m_words) H locs → ∀ ls : Array Slot, lv_has ls 6 [(0, .ref a_mo), (1, .int v1), (2, .int v2), (3, .int v3), (4, .int v4), (5, .int v5)] → W p l e rmX7_latest s m args below meth c H locs 0 0 (QI G A below args s res (wX7_latest G a_mo a_mo_numbers a_mo_words a_mo_boxes a_mo_weeks a_mo_routes a_mo_turns a_mo_leave a_mo_leases a_mo_uses a_mo_arcFrom a_mo_arcTo a_mo_arcRoom a_mo_arcCost a_mo_far a_mo_by a_mo_best a_mo_tape a_mo_kept m_arcs m_tapeMany m_tokenKind m_tokenAt m_tokenEnd m_tokenValue m_fault m_seen m_isKept m_place m_numbers m_words)) (F0 m 6 ls []) := by
  obtain ⟨hx, hb, -⟩ := id X.1
  intro n
  induction n with
  | zero => intro v4 v5 h; rw [fX7_latest_6] at h; cases h
  | succ n ih =>
    intro v4 v5 h H locs hW ls hl
    rw [fX7_latest_6] at h
    refine lv_iload hx hb dX7_latest_6 (lv_at hl 5 rfl) ?_
    refine lv_aload_n hx hb dX7_latest_8 rfl (lv_at hl 0 rfl) ?_
    refine g_get X hW eX7_latest_7 0 rfl rfl dX7_latest_9 ?_
    refine lv_iconst hx hb dX7_latest_12 qI_2 ?_
    obtain ⟨g10, h⟩ := gd_some h
    refine g_ald X hW 1 rfl g10 dX7_latest_13 ?_
    refine lv_icmp_ge (tgt := 105) hx hb dX7_latest_14 (by decide) (fun c11 => ?_) (fun c11 => ?_)
    · have h := (if_pos c11).symm.trans h
      refine lv_iload hx hb dX7_latest_105 (lv_at hl 4 rfl) ?_
      obtain rfl := Option.some.inj h
      exact g_iret X hW dX7_latest_107
    · have h := (if_neg c11).symm.trans h
      refine lv_aload_n hx hb dX7_latest_17 rfl (lv_at hl 0 rfl) ?_
      refine g_get X hW eX7_latest_16 0 rfl rfl dX7_latest_18 ?_
      refine lv_iconst hx hb dX7_latest_21 qI_5 ?_
      refine lv_iload hx hb dX7_latest_22 (lv_at hl 5 rfl) ?_
      refine lv_imul hx hb dX7_latest_24 ?_
      obtain ⟨g19, h⟩ := gd_some h
      refine g_ald X hW 2 rfl g19 dX7_latest_25 ?_
      refine lv_iload_n hx hb dX7_latest_26 rfl (lv_at hl 1 rfl) ?_
      refine lv_icmp_ne (tgt := 99) hx hb dX7_latest_27 (by decide) (fun c21 => ?_) (fun c21 => ?_)
      · have h := (if_neg c21).symm.trans h
        exact tX7_latest_99 X v1 v2 v3 v4 v5 (fun v4 v5 => fX7_latest_6 v1 v2 v3 m_numbers m_words n v4 v5) ih h H locs hW ls hl
      · have h := (if_pos c21).symm.trans h
        refine lv_aload_n hx hb dX7_latest_30 rfl (lv_at hl 0 rfl) ?_
        refine g_get X hW eX7_latest_16 0 rfl rfl dX7_latest_31 ?_
        refine lv_iconst hx hb dX7_latest_34 qI_5 ?_
        refine lv_iload hx hb dX7_latest_35 (lv_at hl 5 rfl) ?_
        refine lv_imul hx hb dX7_latest_37 ?_
        refine lv_iconst hx hb dX7_latest_38 qI_1 ?_
        refine lv_iadd hx hb dX7_latest_39 ?_
        obtain ⟨g29, h⟩ := gd_some h
        refine g_ald X hW 2 rfl g29 dX7_latest_40 ?_
        refine lv_iload_n hx hb dX7_latest_41 rfl (lv_at hl 2 rfl) ?_
        refine lv_icmp_gt (tgt := 99) hx hb dX7_latest_42 (by decide) (fun c31 => ?_) (fun c31 => ?_)
        · have h := (if_pos c31).symm.trans h
          exact tX7_latest_99 X v1 v2 v3 v4 v5 (fun v4 v5 => fX7_latest_6 v1 v2 v3 m_numbers m_words n v4 v5) ih h H locs hW ls hl
        · have h := (if_neg c31).symm.trans h
          refine lv_aload_n hx hb dX7_latest_45 rfl (lv_at hl 0 rfl) ?_
          refine g_get X hW eX7_latest_16 0 rfl rfl dX7_latest_46 ?_
          refine lv_iconst hx hb dX7_latest_49 qI_5 ?_
          refine lv_iload hx hb dX7_latest_50 (lv_at hl 5 rfl) ?_
          refine lv_imul hx hb dX7_latest_52 ?_
          refine lv_iconst hx hb dX7_latest_53 qI_4 ?_
          refine lv_iadd hx hb dX7_latest_54 ?_
          obtain ⟨g39, h⟩ := gd_some h
          refine g_ald X hW 2 rfl g39 dX7_latest_55 ?_
          refine lv_iload_n hx hb dX7_latest_56 rfl (lv_at hl 3 rfl) ?_
          refine lv_icmp_gt (tgt := 99) hx hb dX7_latest_57 (by decide) (fun c41 => ?_) (fun c41 => ?_)
          · have h := (if_pos c41).symm.trans h
            exact tX7_latest_99 X v1 v2 v3 v4 v5 (fun v4 v5 => fX7_latest_6 v1 v2 v3 m_numbers m_words n v4 v5) ih h H locs hW ls hl
          · have h := (if_neg c41).symm.trans h
            refine lv_iload hx hb dX7_latest_60 (lv_at hl 4 rfl) ?_
            refine lv_if_lt (tgt := 90) hx hb dX7_latest_62 (by decide) (fun c43 => ?_) (fun c43 => ?_)
            · have h := (if_pos c43).symm.trans h
              exact tX7_latest_90 X v1 v2 v3 v5 (fun v4 v5 => fX7_latest_6 v1 v2 v3 m_numbers m_words n v4 v5) ih h H locs hW ls (lv_sub hl [0, 1, 2, 3, 5] rfl)
            · have h := (if_neg c43).symm.trans h
              refine lv_aload_n hx hb dX7_latest_65 rfl (lv_at hl 0 rfl) ?_
              refine g_get X hW eX7_latest_16 0 rfl rfl dX7_latest_66 ?_
              refine lv_iconst hx hb dX7_latest_69 qI_5 ?_
              refine lv_iload hx hb dX7_latest_70 (lv_at hl 5 rfl) ?_
              refine lv_imul hx hb dX7_latest_72 ?_
              refine lv_iconst hx hb dX7_latest_73 qI_1 ?_
              refine lv_iadd hx hb dX7_latest_74 ?_
              obtain ⟨g51, h⟩ := gd_some h
              refine g_ald X hW 2 rfl g51 dX7_latest_75 ?_
              refine lv_aload_n hx hb dX7_latest_76 rfl (lv_at hl 0 rfl) ?_
              refine g_get X hW eX7_latest_16 0 rfl rfl dX7_latest_77 ?_
              refine lv_iconst hx hb dX7_latest_80 qI_5 ?_
              refine lv_iload hx hb dX7_latest_81 (lv_at hl 4 rfl) ?_
              refine lv_imul hx hb dX7_latest_83 ?_
              refine lv_iconst hx hb dX7_latest_84 qI_1 ?_
              refine lv_iadd hx hb dX7_latest_85 ?_
              obtain ⟨g59, h⟩ := gd_some h
              refine g_ald X hW 2 rfl g59 dX7_latest_86 ?_
              refine lv_icmp_lt (tgt := 95) hx hb dX7_latest_87 (by decide) (fun c60 => ?_) (fun c60 => ?_)
              · have h := (if_pos c60).symm.trans h
                refine lv_iload hx hb dX7_latest_95 (lv_at hl 4 rfl) ?_
                exact tX7_latest_97 X v1 v2 v3 v5 v4 (fun v4 v5 => fX7_latest_6 v1 v2 v3 m_numbers m_words n v4 v5) ih h H locs hW ls (lv_sub hl [0, 1, 2, 3, 5] rfl)
              · have h := (if_neg c60).symm.trans h
                exact tX7_latest_90 X v1 v2 v3 v5 (fun v4 v5 => fX7_latest_6 v1 v2 v3 m_numbers m_words n v4 v5) ih h H locs hW ls (lv_sub hl [0, 1, 2, 3, 5] rfl)
set_option maxHeartbeats 4000000 in
set_option maxRecDepth 100000 in
theorem k0X7_latest {l : Launch} (G : Gt) (a_mo a_mo_numbers a_mo_words a_mo_boxes a_mo_weeks a_mo_routes a_mo_turns a_mo_leave a_mo_leases a_mo_uses a_mo_arcFrom a_mo_arcTo a_mo_arcRoom a_mo_arcCost a_mo_far a_mo_by a_mo_best a_mo_tape a_mo_kept : Nat) (v1 : Int32) (v2 : Int32) (v3 : Int32) (m_arcs : Int32) (m_tapeMany : Int32) (m_tokenKind : Int32) (m_tokenAt : Int32) (m_tokenEnd : Int32) (m_tokenValue : Int32) (m_fault : Int32) (m_seen : Int32) (m_isKept : Int32) (m_place : Int32) (m_numbers : (Nat → Int32)) (m_words : (Nat → Int32)) {res : Int32} (h : fX7_latest v1 v2 v3 m_numbers m_words = some res) : CtI G l yX7_latest wsX7_latest rmX7_latest [.ref a_mo, .int v1, .int v2, .int v3] (wX7_latest G a_mo a_mo_numbers a_mo_words a_mo_boxes a_mo_weeks a_mo_routes a_mo_turns a_mo_leave a_mo_leases a_mo_uses a_mo_arcFrom a_mo_arcTo a_mo_arcRoom a_mo_arcCost a_mo_far a_mo_by a_mo_best a_mo_tape a_mo_kept m_arcs m_tapeMany m_tokenKind m_tokenAt m_tokenEnd m_tokenValue m_fault m_seen m_isKept m_place m_numbers m_words) res (wX7_latest G a_mo a_mo_numbers a_mo_words a_mo_boxes a_mo_weeks a_mo_routes a_mo_turns a_mo_leave a_mo_leases a_mo_uses a_mo_arcFrom a_mo_arcTo a_mo_arcRoom a_mo_arcCost a_mo_far a_mo_by a_mo_best a_mo_tape a_mo_kept m_arcs m_tapeMany m_tokenKind m_tokenAt m_tokenEnd m_tokenValue m_fault m_seen m_isKept m_place m_numbers m_words) := by
  refine CtI.mk (cc := cX7_latest) (maxL := 6) (ret := (some .int)) (own := RX7) (by decide) rfl rfl (Nat.le_of_ble_eq_true rfl) ?_
  intro p e s m below meth c A X ls hl hW
  obtain ⟨hx, hb, -⟩ := id X.1
  have hl : lv_has ls 6 [(0, .ref a_mo), (1, .int v1), (2, .int v2), (3, .int v3)] := hl
  generalize hH : s.heap = H at hW ⊢
  generalize hLo : ([] : List Loc) = locs at hW ⊢
  rw [fX7_latest] at h
  refine lv_iconst hx hb dX7_latest_0 qI_m1 ?_
  refine lv_istore (lv' := [(4, .int (-1 : Int32)), (0, .ref a_mo), (1, .int v1), (2, .int v2), (3, .int v3)]) hx hb dX7_latest_1 hl (by decide) rfl (fun ls hl => ?_)
  refine lv_iconst hx hb dX7_latest_3 qI_0 ?_
  refine lv_istore (lv' := [(5, .int (0 : Int32)), (4, .int (-1 : Int32)), (0, .ref a_mo), (1, .int v1), (2, .int v2), (3, .int v3)]) hx hb dX7_latest_4 hl (by decide) rfl (fun ls hl => ?_)
  exact tX7_latest_6 X v1 v2 v3 FU (-1 : Int32) (0 : Int32) h H locs hW ls (lv_sub hl [2, 3, 4, 5, 1, 0] rfl)
theorem kcX7_latest {l : Launch} (G : Gt) (a_mo a_mo_numbers a_mo_words a_mo_boxes a_mo_weeks a_mo_routes a_mo_turns a_mo_leave a_mo_leases a_mo_uses a_mo_arcFrom a_mo_arcTo a_mo_arcRoom a_mo_arcCost a_mo_far a_mo_by a_mo_best a_mo_tape a_mo_kept : Nat) (v1 : Int32) (v2 : Int32) (v3 : Int32) (m_arcs : Int32) (m_tapeMany : Int32) (m_tokenKind : Int32) (m_tokenAt : Int32) (m_tokenEnd : Int32) (m_tokenValue : Int32) (m_fault : Int32) (m_seen : Int32) (m_isKept : Int32) (m_place : Int32) (m_numbers : (Nat → Int32)) (m_words : (Nat → Int32)) {r : Int32}  (h : fX7_latest v1 v2 v3 m_numbers m_words = some r) : CtI G l yX7_latest wsX7_latest rmX7_latest [.ref a_mo, .int v1, .int v2, .int v3] (wX7_latest G a_mo a_mo_numbers a_mo_words a_mo_boxes a_mo_weeks a_mo_routes a_mo_turns a_mo_leave a_mo_leases a_mo_uses a_mo_arcFrom a_mo_arcTo a_mo_arcRoom a_mo_arcCost a_mo_far a_mo_by a_mo_best a_mo_tape a_mo_kept m_arcs m_tapeMany m_tokenKind m_tokenAt m_tokenEnd m_tokenValue m_fault m_seen m_isKept m_place m_numbers m_words) r (wX7_latest G a_mo a_mo_numbers a_mo_words a_mo_boxes a_mo_weeks a_mo_routes a_mo_turns a_mo_leave a_mo_leases a_mo_uses a_mo_arcFrom a_mo_arcTo a_mo_arcRoom a_mo_arcCost a_mo_far a_mo_by a_mo_best a_mo_tape a_mo_kept m_arcs m_tapeMany m_tokenKind m_tokenAt m_tokenEnd m_tokenValue m_fault m_seen m_isKept m_place m_numbers m_words) := k0X7_latest G a_mo a_mo_numbers a_mo_words a_mo_boxes a_mo_weeks a_mo_routes a_mo_turns a_mo_leave a_mo_leases a_mo_uses a_mo_arcFrom a_mo_arcTo a_mo_arcRoom a_mo_arcCost a_mo_far a_mo_by a_mo_best a_mo_tape a_mo_kept v1 v2 v3 m_arcs m_tapeMany m_tokenKind m_tokenAt m_tokenEnd m_tokenValue m_fault m_seen m_isKept m_place m_numbers m_words h
end MX7_latest
/-! EmptyBoxesModel.whereIs -/
section MX7_whereIs
theorem hdX7_whereIs : yX7_whereIs.cls = RX7 ∧ yX7_whereIs.cls ≠ "java/lang/invoke/MethodHandle" ∧ yX7_whereIs.cls ≠ "java/lang/invoke/VarHandle" ∧ (parseMethodDescriptor yX7_whereIs.desc).map (fun d => d.parameters.length) = some 3 := by decide +kernel
abbrev wX7_whereIs (G : Gt) (a_mo a_mo_numbers a_mo_words a_mo_boxes a_mo_weeks a_mo_routes a_mo_turns a_mo_leave a_mo_leases a_mo_uses a_mo_arcFrom a_mo_arcTo a_mo_arcRoom a_mo_arcCost a_mo_far a_mo_by a_mo_best a_mo_tape a_mo_kept : Nat) (m_arcs : Int32) (m_tapeMany : Int32) (m_tokenKind : Int32) (m_tokenAt : Int32) (m_tokenEnd : Int32) (m_tokenValue : Int32) (m_fault : Int32) (m_seen : Int32) (m_isKept : Int32) (m_place : Int32) (m_numbers : (Nat → Int32)) (m_words : (Nat → Int32)) : va_W := [(a_mo, .inr (7, [.ref a_mo_numbers, .ref a_mo_boxes, .ref a_mo_words, .ref a_mo_weeks, .ref a_mo_routes, .ref a_mo_turns, .ref a_mo_leave, .ref a_mo_leases, .ref a_mo_uses, .ref a_mo_arcFrom, .ref a_mo_arcTo, .ref a_mo_arcRoom, .ref a_mo_arcCost, .int m_arcs, .ref a_mo_far, .ref a_mo_by, .ref a_mo_best, .ref a_mo_tape, .int m_tapeMany, .int m_tokenKind, .int m_tokenAt, .int m_tokenEnd, .int m_tokenValue, .int m_fault, .int m_seen, .int m_isKept, .ref a_mo_kept, .int m_place])), (a_mo_numbers, .inl (G.2.1, 10, .inl m_numbers)), (a_mo_words, .inl (G.2.1, 300, .inl m_words))]
abbrev rmX7_whereIs : Room := { frames := 1, cells := 0, slots := 0, locals := 25 }
theorem iX7_whereIs_X7 : ∀ w ∈ wsX70, w ∈ wsX7_whereIs := by decide +kernel
theorem eX7_whereIs_16 : Fk wsX7_whereIs RX7 16 7 2 := ⟨RX7, TX7, 28, rfl, iX7_whereIs_X7, by decide, by decide +kernel⟩
theorem ckX7_whereIs_X7_latest_93 : CkV wsX7_whereIs RX7 93 yX7_latest wsX7_latest cX7_latest 6 (some .int) 3 7 := ⟨RX7, TX7, 28, _, rfl, gX7_whereIs_X7_latest, rfl, hdX7_latest⟩
variable {p : Program} {l : Launch} {e : Env} {s : State} {m : MethodId} {args : Array Value} {below : List Frame} {meth : Method} {c : Code} {A : Nat → Prop} {G : Gt} {a_mo a_mo_numbers a_mo_words a_mo_boxes a_mo_weeks a_mo_routes a_mo_turns a_mo_leave a_mo_leases a_mo_uses a_mo_arcFrom a_mo_arcTo a_mo_arcRoom a_mo_arcCost a_mo_far a_mo_by a_mo_best a_mo_tape a_mo_kept : Nat} {m_arcs : Int32} {m_tapeMany : Int32} {m_tokenKind : Int32} {m_tokenAt : Int32} {m_tokenEnd : Int32} {m_tokenValue : Int32} {m_fault : Int32} {m_seen : Int32} {m_isKept : Int32} {m_place : Int32} {m_numbers : (Nat → Int32)} {m_words : (Nat → Int32)} {res : Int32}
set_option maxHeartbeats 4000000 in
set_option maxRecDepth 100000 in
theorem k0X7_whereIs {l : Launch} (G : Gt) (a_mo a_mo_numbers a_mo_words a_mo_boxes a_mo_weeks a_mo_routes a_mo_turns a_mo_leave a_mo_leases a_mo_uses a_mo_arcFrom a_mo_arcTo a_mo_arcRoom a_mo_arcCost a_mo_far a_mo_by a_mo_best a_mo_tape a_mo_kept : Nat) (v1 : Int32) (v2 : Int32) (v3 : Int32) (m_arcs : Int32) (m_tapeMany : Int32) (m_tokenKind : Int32) (m_tokenAt : Int32) (m_tokenEnd : Int32) (m_tokenValue : Int32) (m_fault : Int32) (m_seen : Int32) (m_isKept : Int32) (m_place : Int32) (m_numbers : (Nat → Int32)) (m_words : (Nat → Int32)) {res : Int32} (h : fX7_whereIs v1 v2 v3 m_numbers m_words = some res) : CtI G l yX7_whereIs wsX7_whereIs rmX7_whereIs [.ref a_mo, .int v1, .int v2, .int v3] (wX7_whereIs G a_mo a_mo_numbers a_mo_words a_mo_boxes a_mo_weeks a_mo_routes a_mo_turns a_mo_leave a_mo_leases a_mo_uses a_mo_arcFrom a_mo_arcTo a_mo_arcRoom a_mo_arcCost a_mo_far a_mo_by a_mo_best a_mo_tape a_mo_kept m_arcs m_tapeMany m_tokenKind m_tokenAt m_tokenEnd m_tokenValue m_fault m_seen m_isKept m_place m_numbers m_words) res (wX7_whereIs G a_mo a_mo_numbers a_mo_words a_mo_boxes a_mo_weeks a_mo_routes a_mo_turns a_mo_leave a_mo_leases a_mo_uses a_mo_arcFrom a_mo_arcTo a_mo_arcRoom a_mo_arcCost a_mo_far a_mo_by a_mo_best a_mo_tape a_mo_kept m_arcs m_tapeMany m_tokenKind m_tokenAt m_tokenEnd m_tokenValue m_fault m_seen m_isKept m_place m_numbers m_words) := by
  refine CtI.mk (cc := cX7_whereIs) (maxL := 5) (ret := (some .int)) (own := RX7) (by decide) rfl rfl (Nat.le_of_ble_eq_true rfl) ?_
  intro p e s m below meth c A X ls hl hW
  obtain ⟨hx, hb, -⟩ := id X.1
  have hl : lv_has ls 5 [(0, .ref a_mo), (1, .int v1), (2, .int v2), (3, .int v3)] := hl
  generalize hH : s.heap = H at hW ⊢
  generalize hLo : ([] : List Loc) = locs at hW ⊢
  rw [fX7_whereIs] at h
  refine lv_aload_n hx hb dX7_whereIs_0 rfl (lv_at hl 0 rfl) ?_
  refine lv_iload_n hx hb dX7_whereIs_1 rfl (lv_at hl 1 rfl) ?_
  refine lv_iload_n hx hb dX7_whereIs_2 rfl (lv_at hl 2 rfl) ?_
  refine lv_iload_n hx hb dX7_whereIs_3 rfl (lv_at hl 3 rfl) ?_
  obtain ⟨r5, hq, h⟩ := bn1_some h
  refine g_cvi X hW (As := [.int v1, .int v2, .int v3]) (ws' := (wX7_whereIs G a_mo a_mo_numbers a_mo_words a_mo_boxes a_mo_weeks a_mo_routes a_mo_turns a_mo_leave a_mo_leases a_mo_uses a_mo_arcFrom a_mo_arcTo a_mo_arcRoom a_mo_arcCost a_mo_far a_mo_by a_mo_best a_mo_tape a_mo_kept m_arcs m_tapeMany m_tokenKind m_tokenAt m_tokenEnd m_tokenValue m_fault m_seen m_isKept m_place m_numbers m_words)) ckX7_whereIs_X7_latest_93 (kcX7_latest (l := l) G a_mo a_mo_numbers a_mo_words a_mo_boxes a_mo_weeks a_mo_routes a_mo_turns a_mo_leave a_mo_leases a_mo_uses a_mo_arcFrom a_mo_arcTo a_mo_arcRoom a_mo_arcCost a_mo_far a_mo_by a_mo_best a_mo_tape a_mo_kept v1 v2 v3 m_arcs m_tapeMany m_tokenKind m_tokenAt m_tokenEnd m_tokenValue m_fault m_seen m_isKept m_place m_numbers m_words hq) ⟨rfl, rfl, Nat.le_of_ble_eq_true rfl, Nat.le_of_ble_eq_true rfl⟩ [0, 1, 2] rfl rfl rfl rfl rfl rfl rfl hl.1 (Nat.le_of_ble_eq_true rfl) ⟨Nat.zero_le _, Nat.zero_le _⟩ dX7_whereIs_4 (fun H locs hW => ?_)
  refine lv_istore (lv' := [(4, .int r5), (0, .ref a_mo), (1, .int v1), (2, .int v2), (3, .int v3)]) hx hb dX7_whereIs_7 hl (by decide) rfl (fun ls hl => ?_)
  refine lv_iload hx hb dX7_whereIs_9 (lv_at hl 0 rfl) ?_
  refine lv_if_ge (tgt := 19) hx hb dX7_whereIs_11 (by decide) (fun c8 => ?_) (fun c8 => ?_)
  · have h := (if_pos c8).symm.trans h
    refine lv_aload_n hx hb dX7_whereIs_19 rfl (lv_at hl 1 rfl) ?_
    refine g_get X hW eX7_whereIs_16 0 rfl rfl dX7_whereIs_20 ?_
    refine lv_iconst hx hb dX7_whereIs_23 qI_5 ?_
    refine lv_iload hx hb dX7_whereIs_24 (lv_at hl 0 rfl) ?_
    refine lv_imul hx hb dX7_whereIs_26 ?_
    refine lv_iconst hx hb dX7_whereIs_27 qI_2 ?_
    refine lv_iadd hx hb dX7_whereIs_28 ?_
    obtain ⟨g16, h⟩ := gd_some h
    refine g_ald X hW 2 rfl g16 dX7_whereIs_29 ?_
    refine lv_bipush hx hb dX7_whereIs_30 qB_10 ?_
    refine lv_aload_n hx hb dX7_whereIs_32 rfl (lv_at hl 1 rfl) ?_
    refine g_get X hW eX7_whereIs_16 0 rfl rfl dX7_whereIs_33 ?_
    refine lv_iconst hx hb dX7_whereIs_36 qI_5 ?_
    refine lv_iload hx hb dX7_whereIs_37 (lv_at hl 0 rfl) ?_
    refine lv_imul hx hb dX7_whereIs_39 ?_
    refine lv_iconst hx hb dX7_whereIs_40 qI_3 ?_
    refine lv_iadd hx hb dX7_whereIs_41 ?_
    obtain ⟨g25, h⟩ := gd_some h
    refine g_ald X hW 2 rfl g25 dX7_whereIs_42 ?_
    refine lv_imul hx hb dX7_whereIs_43 ?_
    refine lv_iadd hx hb dX7_whereIs_44 ?_
    obtain rfl := Option.some.inj h
    exact g_iret X hW dX7_whereIs_45
  · have h := (if_neg c8).symm.trans h
    refine lv_bipush hx hb dX7_whereIs_14 qB_20 ?_
    refine lv_goto (tgt := 45) hx hb dX7_whereIs_16 (by decide) ?_
    obtain rfl := Option.some.inj h
    exact g_iret X hW dX7_whereIs_45
theorem kcX7_whereIs {l : Launch} (G : Gt) (a_mo a_mo_numbers a_mo_words a_mo_boxes a_mo_weeks a_mo_routes a_mo_turns a_mo_leave a_mo_leases a_mo_uses a_mo_arcFrom a_mo_arcTo a_mo_arcRoom a_mo_arcCost a_mo_far a_mo_by a_mo_best a_mo_tape a_mo_kept : Nat) (v1 : Int32) (v2 : Int32) (v3 : Int32) (m_arcs : Int32) (m_tapeMany : Int32) (m_tokenKind : Int32) (m_tokenAt : Int32) (m_tokenEnd : Int32) (m_tokenValue : Int32) (m_fault : Int32) (m_seen : Int32) (m_isKept : Int32) (m_place : Int32) (m_numbers : (Nat → Int32)) (m_words : (Nat → Int32)) {r : Int32}  (h : fX7_whereIs v1 v2 v3 m_numbers m_words = some r) : CtI G l yX7_whereIs wsX7_whereIs rmX7_whereIs [.ref a_mo, .int v1, .int v2, .int v3] (wX7_whereIs G a_mo a_mo_numbers a_mo_words a_mo_boxes a_mo_weeks a_mo_routes a_mo_turns a_mo_leave a_mo_leases a_mo_uses a_mo_arcFrom a_mo_arcTo a_mo_arcRoom a_mo_arcCost a_mo_far a_mo_by a_mo_best a_mo_tape a_mo_kept m_arcs m_tapeMany m_tokenKind m_tokenAt m_tokenEnd m_tokenValue m_fault m_seen m_isKept m_place m_numbers m_words) r (wX7_whereIs G a_mo a_mo_numbers a_mo_words a_mo_boxes a_mo_weeks a_mo_routes a_mo_turns a_mo_leave a_mo_leases a_mo_uses a_mo_arcFrom a_mo_arcTo a_mo_arcRoom a_mo_arcCost a_mo_far a_mo_by a_mo_best a_mo_tape a_mo_kept m_arcs m_tapeMany m_tokenKind m_tokenAt m_tokenEnd m_tokenValue m_fault m_seen m_isKept m_place m_numbers m_words) := k0X7_whereIs G a_mo a_mo_numbers a_mo_words a_mo_boxes a_mo_weeks a_mo_routes a_mo_turns a_mo_leave a_mo_leases a_mo_uses a_mo_arcFrom a_mo_arcTo a_mo_arcRoom a_mo_arcCost a_mo_far a_mo_by a_mo_best a_mo_tape a_mo_kept v1 v2 v3 m_arcs m_tapeMany m_tokenKind m_tokenAt m_tokenEnd m_tokenValue m_fault m_seen m_isKept m_place m_numbers m_words h
end MX7_whereIs
/-! EmptyBoxesModel.where -/
section MX7_where
theorem hdX7_where : yX7_where.cls = RX7 ∧ yX7_where.cls ≠ "java/lang/invoke/MethodHandle" ∧ yX7_where.cls ≠ "java/lang/invoke/VarHandle" ∧ (parseMethodDescriptor yX7_where.desc).map (fun d => d.parameters.length) = some 3 := by decide +kernel
abbrev wX7_where (G : Gt) (a_mo a_mo_numbers a_mo_words a_mo_boxes a_mo_weeks a_mo_routes a_mo_turns a_mo_leave a_mo_leases a_mo_uses a_mo_arcFrom a_mo_arcTo a_mo_arcRoom a_mo_arcCost a_mo_far a_mo_by a_mo_best a_mo_tape a_mo_kept : Nat) (m_arcs : Int32) (m_tapeMany : Int32) (m_tokenKind : Int32) (m_tokenAt : Int32) (m_tokenEnd : Int32) (m_tokenValue : Int32) (m_fault : Int32) (m_seen : Int32) (m_isKept : Int32) (m_place : Int32) (m_numbers : (Nat → Int32)) (m_words : (Nat → Int32)) : va_W := [(a_mo, .inr (7, [.ref a_mo_numbers, .ref a_mo_boxes, .ref a_mo_words, .ref a_mo_weeks, .ref a_mo_routes, .ref a_mo_turns, .ref a_mo_leave, .ref a_mo_leases, .ref a_mo_uses, .ref a_mo_arcFrom, .ref a_mo_arcTo, .ref a_mo_arcRoom, .ref a_mo_arcCost, .int m_arcs, .ref a_mo_far, .ref a_mo_by, .ref a_mo_best, .ref a_mo_tape, .int m_tapeMany, .int m_tokenKind, .int m_tokenAt, .int m_tokenEnd, .int m_tokenValue, .int m_fault, .int m_seen, .int m_isKept, .ref a_mo_kept, .int m_place])), (a_mo_numbers, .inl (G.2.1, 10, .inl m_numbers)), (a_mo_words, .inl (G.2.1, 300, .inl m_words))]
abbrev rmX7_where : Room := { frames := 2, cells := 0, slots := 0, locals := 49 }
theorem ckX7_where_X7_isBox_84 : CkV wsX7_where RX7 84 yX7_isBox wsX7_isBox cX7_isBox 2 (some .boolean) 1 7 := ⟨RX7, TX7, 28, _, rfl, gX7_where_X7_isBox, rfl, hdX7_isBox⟩
theorem ckX7_where_X7_isDay_97 : CkS wsX7_where RX7 97 yX7_isDay wsX7_isDay cX7_isDay 1 (some .boolean) 1 := ⟨_, gX7_where_X7_isDay, rfl, hdX7_isDay.2⟩
theorem ckX7_where_X7_isPast_87 : CkV wsX7_where RX7 87 yX7_isPast wsX7_isPast cX7_isPast 2 (some .boolean) 1 7 := ⟨RX7, TX7, 28, _, rfl, gX7_where_X7_isPast, rfl, hdX7_isPast⟩
theorem ckX7_where_X7_whereIs_100 : CkV wsX7_where RX7 100 yX7_whereIs wsX7_whereIs cX7_whereIs 5 (some .int) 3 7 := ⟨RX7, TX7, 28, _, rfl, gX7_where_X7_whereIs, rfl, hdX7_whereIs⟩
variable {p : Program} {l : Launch} {e : Env} {s : State} {m : MethodId} {args : Array Value} {below : List Frame} {meth : Method} {c : Code} {A : Nat → Prop} {G : Gt} {a_mo a_mo_numbers a_mo_words a_mo_boxes a_mo_weeks a_mo_routes a_mo_turns a_mo_leave a_mo_leases a_mo_uses a_mo_arcFrom a_mo_arcTo a_mo_arcRoom a_mo_arcCost a_mo_far a_mo_by a_mo_best a_mo_tape a_mo_kept : Nat} {m_arcs : Int32} {m_tapeMany : Int32} {m_tokenKind : Int32} {m_tokenAt : Int32} {m_tokenEnd : Int32} {m_tokenValue : Int32} {m_fault : Int32} {m_seen : Int32} {m_isKept : Int32} {m_place : Int32} {m_numbers : (Nat → Int32)} {m_words : (Nat → Int32)} {res : Int32}
set_option maxHeartbeats 4000000 in
set_option maxRecDepth 100000 in
theorem k0X7_where {l : Launch} (G : Gt) (a_mo a_mo_numbers a_mo_words a_mo_boxes a_mo_weeks a_mo_routes a_mo_turns a_mo_leave a_mo_leases a_mo_uses a_mo_arcFrom a_mo_arcTo a_mo_arcRoom a_mo_arcCost a_mo_far a_mo_by a_mo_best a_mo_tape a_mo_kept : Nat) (v1 : Int32) (v2 : Int32) (v3 : Int32) (m_arcs : Int32) (m_tapeMany : Int32) (m_tokenKind : Int32) (m_tokenAt : Int32) (m_tokenEnd : Int32) (m_tokenValue : Int32) (m_fault : Int32) (m_seen : Int32) (m_isKept : Int32) (m_place : Int32) (m_numbers : (Nat → Int32)) (m_words : (Nat → Int32)) {res : Int32} (h : fX7_where v1 v2 v3 m_numbers m_words = some res) : CtI G l yX7_where wsX7_where rmX7_where [.ref a_mo, .int v1, .int v2, .int v3] (wX7_where G a_mo a_mo_numbers a_mo_words a_mo_boxes a_mo_weeks a_mo_routes a_mo_turns a_mo_leave a_mo_leases a_mo_uses a_mo_arcFrom a_mo_arcTo a_mo_arcRoom a_mo_arcCost a_mo_far a_mo_by a_mo_best a_mo_tape a_mo_kept m_arcs m_tapeMany m_tokenKind m_tokenAt m_tokenEnd m_tokenValue m_fault m_seen m_isKept m_place m_numbers m_words) res (wX7_where G a_mo a_mo_numbers a_mo_words a_mo_boxes a_mo_weeks a_mo_routes a_mo_turns a_mo_leave a_mo_leases a_mo_uses a_mo_arcFrom a_mo_arcTo a_mo_arcRoom a_mo_arcCost a_mo_far a_mo_by a_mo_best a_mo_tape a_mo_kept m_arcs m_tapeMany m_tokenKind m_tokenAt m_tokenEnd m_tokenValue m_fault m_seen m_isKept m_place m_numbers m_words) := by
  refine CtI.mk (cc := cX7_where) (maxL := 4) (ret := (some .int)) (own := RX7) (by decide) rfl rfl (Nat.le_of_ble_eq_true rfl) ?_
  intro p e s m below meth c A X ls hl hW
  obtain ⟨hx, hb, -⟩ := id X.1
  have hl : lv_has ls 4 [(0, .ref a_mo), (1, .int v1), (2, .int v2), (3, .int v3)] := hl
  generalize hH : s.heap = H at hW ⊢
  generalize hLo : ([] : List Loc) = locs at hW ⊢
  rw [fX7_where] at h
  refine lv_aload_n hx hb dX7_where_0 rfl (lv_at hl 0 rfl) ?_
  refine lv_iload_n hx hb dX7_where_1 rfl (lv_at hl 1 rfl) ?_
  obtain ⟨r3, hq, h⟩ := bn1_some h
  refine g_cvi X hW (As := [.int v1]) (ws' := (wX7_where G a_mo a_mo_numbers a_mo_words a_mo_boxes a_mo_weeks a_mo_routes a_mo_turns a_mo_leave a_mo_leases a_mo_uses a_mo_arcFrom a_mo_arcTo a_mo_arcRoom a_mo_arcCost a_mo_far a_mo_by a_mo_best a_mo_tape a_mo_kept m_arcs m_tapeMany m_tokenKind m_tokenAt m_tokenEnd m_tokenValue m_fault m_seen m_isKept m_place m_numbers m_words)) ckX7_where_X7_isBox_84 (kcX7_isBox (l := l) G a_mo a_mo_numbers a_mo_boxes a_mo_words a_mo_weeks a_mo_routes a_mo_turns a_mo_leave a_mo_leases a_mo_uses a_mo_arcFrom a_mo_arcTo a_mo_arcRoom a_mo_arcCost a_mo_far a_mo_by a_mo_best a_mo_tape a_mo_kept v1 m_arcs m_tapeMany m_tokenKind m_tokenAt m_tokenEnd m_tokenValue m_fault m_seen m_isKept m_place m_numbers hq) ⟨rfl, rfl, Nat.le_of_ble_eq_true rfl, Nat.le_of_ble_eq_true rfl⟩ [0, 1] rfl rfl rfl rfl rfl rfl rfl hl.1 (Nat.le_of_ble_eq_true rfl) ⟨Nat.zero_le _, Nat.zero_le _⟩ dX7_where_2 (fun H locs hW => ?_)
  refine lv_if_eq (tgt := 33) hx hb dX7_where_5 (by decide) (fun c4 => ?_) (fun c4 => ?_)
  · have h := (if_pos c4).symm.trans h
    refine lv_iconst hx hb dX7_where_33 qI_m1 ?_
    obtain rfl := Option.some.inj h
    exact g_iret X hW dX7_where_34
  · have h := (if_neg c4).symm.trans h
    refine lv_iload_n hx hb dX7_where_8 rfl (lv_at hl 2 rfl) ?_
    obtain ⟨r8, hq, h⟩ := bn1_some h
    refine g_csi X hW (As := [.int v2]) (ws' := (wX7_where G a_mo a_mo_numbers a_mo_words a_mo_boxes a_mo_weeks a_mo_routes a_mo_turns a_mo_leave a_mo_leases a_mo_uses a_mo_arcFrom a_mo_arcTo a_mo_arcRoom a_mo_arcCost a_mo_far a_mo_by a_mo_best a_mo_tape a_mo_kept m_arcs m_tapeMany m_tokenKind m_tokenAt m_tokenEnd m_tokenValue m_fault m_seen m_isKept m_place m_numbers m_words)) ckX7_where_X7_isDay_97 (kcX7_isDay (l := l) G v2 hq) ⟨rfl, rfl, Nat.le_of_ble_eq_true rfl, Nat.le_of_ble_eq_true rfl⟩ [] rfl rfl rfl rfl rfl rfl hl.1 (Nat.le_of_ble_eq_true rfl) ⟨Nat.zero_le _, Nat.zero_le _⟩ dX7_where_9 (fun H locs hW => ?_)
    refine lv_if_eq (tgt := 33) hx hb dX7_where_12 (by decide) (fun c9 => ?_) (fun c9 => ?_)
    · have h := (if_pos c9).symm.trans h
      refine lv_iconst hx hb dX7_where_33 qI_m1 ?_
      obtain rfl := Option.some.inj h
      exact g_iret X hW dX7_where_34
    · have h := (if_neg c9).symm.trans h
      refine lv_aload_n hx hb dX7_where_15 rfl (lv_at hl 0 rfl) ?_
      refine lv_iload_n hx hb dX7_where_16 rfl (lv_at hl 3 rfl) ?_
      obtain ⟨r14, hq, h⟩ := bn1_some h
      refine g_cvi X hW (As := [.int v3]) (ws' := (wX7_where G a_mo a_mo_numbers a_mo_words a_mo_boxes a_mo_weeks a_mo_routes a_mo_turns a_mo_leave a_mo_leases a_mo_uses a_mo_arcFrom a_mo_arcTo a_mo_arcRoom a_mo_arcCost a_mo_far a_mo_by a_mo_best a_mo_tape a_mo_kept m_arcs m_tapeMany m_tokenKind m_tokenAt m_tokenEnd m_tokenValue m_fault m_seen m_isKept m_place m_numbers m_words)) ckX7_where_X7_isPast_87 (kcX7_isPast (l := l) G a_mo a_mo_numbers a_mo_boxes a_mo_words a_mo_weeks a_mo_routes a_mo_turns a_mo_leave a_mo_leases a_mo_uses a_mo_arcFrom a_mo_arcTo a_mo_arcRoom a_mo_arcCost a_mo_far a_mo_by a_mo_best a_mo_tape a_mo_kept v3 m_arcs m_tapeMany m_tokenKind m_tokenAt m_tokenEnd m_tokenValue m_fault m_seen m_isKept m_place m_numbers hq) ⟨rfl, rfl, Nat.le_of_ble_eq_true rfl, Nat.le_of_ble_eq_true rfl⟩ [0, 1] rfl rfl rfl rfl rfl rfl rfl hl.1 (Nat.le_of_ble_eq_true rfl) ⟨Nat.zero_le _, Nat.zero_le _⟩ dX7_where_17 (fun H locs hW => ?_)
      refine lv_if_eq (tgt := 33) hx hb dX7_where_20 (by decide) (fun c15 => ?_) (fun c15 => ?_)
      · have h := (if_pos c15).symm.trans h
        refine lv_iconst hx hb dX7_where_33 qI_m1 ?_
        obtain rfl := Option.some.inj h
        exact g_iret X hW dX7_where_34
      · have h := (if_neg c15).symm.trans h
        refine lv_aload_n hx hb dX7_where_23 rfl (lv_at hl 0 rfl) ?_
        refine lv_iload_n hx hb dX7_where_24 rfl (lv_at hl 1 rfl) ?_
        refine lv_iload_n hx hb dX7_where_25 rfl (lv_at hl 2 rfl) ?_
        refine lv_iload_n hx hb dX7_where_26 rfl (lv_at hl 3 rfl) ?_
        obtain ⟨r22, hq, h⟩ := bn1_some h
        refine g_cvi X hW (As := [.int v1, .int v2, .int v3]) (ws' := (wX7_where G a_mo a_mo_numbers a_mo_words a_mo_boxes a_mo_weeks a_mo_routes a_mo_turns a_mo_leave a_mo_leases a_mo_uses a_mo_arcFrom a_mo_arcTo a_mo_arcRoom a_mo_arcCost a_mo_far a_mo_by a_mo_best a_mo_tape a_mo_kept m_arcs m_tapeMany m_tokenKind m_tokenAt m_tokenEnd m_tokenValue m_fault m_seen m_isKept m_place m_numbers m_words)) ckX7_where_X7_whereIs_100 (kcX7_whereIs (l := l) G a_mo a_mo_numbers a_mo_words a_mo_boxes a_mo_weeks a_mo_routes a_mo_turns a_mo_leave a_mo_leases a_mo_uses a_mo_arcFrom a_mo_arcTo a_mo_arcRoom a_mo_arcCost a_mo_far a_mo_by a_mo_best a_mo_tape a_mo_kept v1 v2 v3 m_arcs m_tapeMany m_tokenKind m_tokenAt m_tokenEnd m_tokenValue m_fault m_seen m_isKept m_place m_numbers m_words hq) ⟨rfl, rfl, Nat.le_of_ble_eq_true rfl, Nat.le_of_ble_eq_true rfl⟩ [0, 1, 2] rfl rfl rfl rfl rfl rfl rfl hl.1 (Nat.le_of_ble_eq_true rfl) ⟨Nat.zero_le _, Nat.zero_le _⟩ dX7_where_27 (fun H locs hW => ?_)
        refine lv_goto (tgt := 34) hx hb dX7_where_30 (by decide) ?_
        obtain rfl := Option.some.inj h
        exact g_iret X hW dX7_where_34
theorem kcX7_where {l : Launch} (G : Gt) (a_mo a_mo_numbers a_mo_words a_mo_boxes a_mo_weeks a_mo_routes a_mo_turns a_mo_leave a_mo_leases a_mo_uses a_mo_arcFrom a_mo_arcTo a_mo_arcRoom a_mo_arcCost a_mo_far a_mo_by a_mo_best a_mo_tape a_mo_kept : Nat) (v1 : Int32) (v2 : Int32) (v3 : Int32) (m_arcs : Int32) (m_tapeMany : Int32) (m_tokenKind : Int32) (m_tokenAt : Int32) (m_tokenEnd : Int32) (m_tokenValue : Int32) (m_fault : Int32) (m_seen : Int32) (m_isKept : Int32) (m_place : Int32) (m_numbers : (Nat → Int32)) (m_words : (Nat → Int32)) {r : Int32}  (h : fX7_where v1 v2 v3 m_numbers m_words = some r) : CtI G l yX7_where wsX7_where rmX7_where [.ref a_mo, .int v1, .int v2, .int v3] (wX7_where G a_mo a_mo_numbers a_mo_words a_mo_boxes a_mo_weeks a_mo_routes a_mo_turns a_mo_leave a_mo_leases a_mo_uses a_mo_arcFrom a_mo_arcTo a_mo_arcRoom a_mo_arcCost a_mo_far a_mo_by a_mo_best a_mo_tape a_mo_kept m_arcs m_tapeMany m_tokenKind m_tokenAt m_tokenEnd m_tokenValue m_fault m_seen m_isKept m_place m_numbers m_words) r (wX7_where G a_mo a_mo_numbers a_mo_words a_mo_boxes a_mo_weeks a_mo_routes a_mo_turns a_mo_leave a_mo_leases a_mo_uses a_mo_arcFrom a_mo_arcTo a_mo_arcRoom a_mo_arcCost a_mo_far a_mo_by a_mo_best a_mo_tape a_mo_kept m_arcs m_tapeMany m_tokenKind m_tokenAt m_tokenEnd m_tokenValue m_fault m_seen m_isKept m_place m_numbers m_words) := k0X7_where G a_mo a_mo_numbers a_mo_words a_mo_boxes a_mo_weeks a_mo_routes a_mo_turns a_mo_leave a_mo_leases a_mo_uses a_mo_arcFrom a_mo_arcTo a_mo_arcRoom a_mo_arcCost a_mo_far a_mo_by a_mo_best a_mo_tape a_mo_kept v1 v2 v3 m_arcs m_tapeMany m_tokenKind m_tokenAt m_tokenEnd m_tokenValue m_fault m_seen m_isKept m_place m_numbers m_words h
end MX7_where
/-! EmptyBoxesModel.since -/
section MX7_since
theorem hdX7_since : yX7_since.cls = RX7 ∧ yX7_since.cls ≠ "java/lang/invoke/MethodHandle" ∧ yX7_since.cls ≠ "java/lang/invoke/VarHandle" ∧ (parseMethodDescriptor yX7_since.desc).map (fun d => d.parameters.length) = some 3 := by decide +kernel
abbrev wX7_since (G : Gt) (a_mo a_mo_numbers a_mo_words a_mo_boxes a_mo_weeks a_mo_routes a_mo_turns a_mo_leave a_mo_leases a_mo_uses a_mo_arcFrom a_mo_arcTo a_mo_arcRoom a_mo_arcCost a_mo_far a_mo_by a_mo_best a_mo_tape a_mo_kept : Nat) (m_arcs : Int32) (m_tapeMany : Int32) (m_tokenKind : Int32) (m_tokenAt : Int32) (m_tokenEnd : Int32) (m_tokenValue : Int32) (m_fault : Int32) (m_seen : Int32) (m_isKept : Int32) (m_place : Int32) (m_numbers : (Nat → Int32)) (m_words : (Nat → Int32)) : va_W := [(a_mo, .inr (7, [.ref a_mo_numbers, .ref a_mo_boxes, .ref a_mo_words, .ref a_mo_weeks, .ref a_mo_routes, .ref a_mo_turns, .ref a_mo_leave, .ref a_mo_leases, .ref a_mo_uses, .ref a_mo_arcFrom, .ref a_mo_arcTo, .ref a_mo_arcRoom, .ref a_mo_arcCost, .int m_arcs, .ref a_mo_far, .ref a_mo_by, .ref a_mo_best, .ref a_mo_tape, .int m_tapeMany, .int m_tokenKind, .int m_tokenAt, .int m_tokenEnd, .int m_tokenValue, .int m_fault, .int m_seen, .int m_isKept, .ref a_mo_kept, .int m_place])), (a_mo_numbers, .inl (G.2.1, 10, .inl m_numbers)), (a_mo_words, .inl (G.2.1, 300, .inl m_words))]
abbrev rmX7_since : Room := { frames := 2, cells := 0, slots := 0, locals := 43 }
theorem iX7_since_X7 : ∀ w ∈ wsX70, w ∈ wsX7_since := by decide +kernel
theorem eX7_since_16 : Fk wsX7_since RX7 16 7 2 := ⟨RX7, TX7, 28, rfl, iX7_since_X7, by decide, by decide +kernel⟩
theorem ckX7_since_X7_isBox_84 : CkV wsX7_since RX7 84 yX7_isBox wsX7_isBox cX7_isBox 2 (some .boolean) 1 7 := ⟨RX7, TX7, 28, _, rfl, gX7_since_X7_isBox, rfl, hdX7_isBox⟩
theorem ckX7_since_X7_isDay_97 : CkS wsX7_since RX7 97 yX7_isDay wsX7_isDay cX7_isDay 1 (some .boolean) 1 := ⟨_, gX7_since_X7_isDay, rfl, hdX7_isDay.2⟩
theorem ckX7_since_X7_isPast_87 : CkV wsX7_since RX7 87 yX7_isPast wsX7_isPast cX7_isPast 2 (some .boolean) 1 7 := ⟨RX7, TX7, 28, _, rfl, gX7_since_X7_isPast, rfl, hdX7_isPast⟩
theorem ckX7_since_X7_latest_93 : CkV wsX7_since RX7 93 yX7_latest wsX7_latest cX7_latest 6 (some .int) 3 7 := ⟨RX7, TX7, 28, _, rfl, gX7_since_X7_latest, rfl, hdX7_latest⟩
variable {p : Program} {l : Launch} {e : Env} {s : State} {m : MethodId} {args : Array Value} {below : List Frame} {meth : Method} {c : Code} {A : Nat → Prop} {G : Gt} {a_mo a_mo_numbers a_mo_words a_mo_boxes a_mo_weeks a_mo_routes a_mo_turns a_mo_leave a_mo_leases a_mo_uses a_mo_arcFrom a_mo_arcTo a_mo_arcRoom a_mo_arcCost a_mo_far a_mo_by a_mo_best a_mo_tape a_mo_kept : Nat} {m_arcs : Int32} {m_tapeMany : Int32} {m_tokenKind : Int32} {m_tokenAt : Int32} {m_tokenEnd : Int32} {m_tokenValue : Int32} {m_fault : Int32} {m_seen : Int32} {m_isKept : Int32} {m_place : Int32} {m_numbers : (Nat → Int32)} {m_words : (Nat → Int32)} {res : Int32}
set_option maxHeartbeats 4000000 in
set_option maxRecDepth 100000 in
theorem k0X7_since {l : Launch} (G : Gt) (a_mo a_mo_numbers a_mo_words a_mo_boxes a_mo_weeks a_mo_routes a_mo_turns a_mo_leave a_mo_leases a_mo_uses a_mo_arcFrom a_mo_arcTo a_mo_arcRoom a_mo_arcCost a_mo_far a_mo_by a_mo_best a_mo_tape a_mo_kept : Nat) (v1 : Int32) (v2 : Int32) (v3 : Int32) (m_arcs : Int32) (m_tapeMany : Int32) (m_tokenKind : Int32) (m_tokenAt : Int32) (m_tokenEnd : Int32) (m_tokenValue : Int32) (m_fault : Int32) (m_seen : Int32) (m_isKept : Int32) (m_place : Int32) (m_numbers : (Nat → Int32)) (m_words : (Nat → Int32)) {res : Int32} (h : fX7_since v1 v2 v3 m_numbers m_words = some res) : CtI G l yX7_since wsX7_since rmX7_since [.ref a_mo, .int v1, .int v2, .int v3] (wX7_since G a_mo a_mo_numbers a_mo_words a_mo_boxes a_mo_weeks a_mo_routes a_mo_turns a_mo_leave a_mo_leases a_mo_uses a_mo_arcFrom a_mo_arcTo a_mo_arcRoom a_mo_arcCost a_mo_far a_mo_by a_mo_best a_mo_tape a_mo_kept m_arcs m_tapeMany m_tokenKind m_tokenAt m_tokenEnd m_tokenValue m_fault m_seen m_isKept m_place m_numbers m_words) res (wX7_since G a_mo a_mo_numbers a_mo_words a_mo_boxes a_mo_weeks a_mo_routes a_mo_turns a_mo_leave a_mo_leases a_mo_uses a_mo_arcFrom a_mo_arcTo a_mo_arcRoom a_mo_arcCost a_mo_far a_mo_by a_mo_best a_mo_tape a_mo_kept m_arcs m_tapeMany m_tokenKind m_tokenAt m_tokenEnd m_tokenValue m_fault m_seen m_isKept m_place m_numbers m_words) := by
  refine CtI.mk (cc := cX7_since) (maxL := 5) (ret := (some .int)) (own := RX7) (by decide) rfl rfl (Nat.le_of_ble_eq_true rfl) ?_
  intro p e s m below meth c A X ls hl hW
  obtain ⟨hx, hb, -⟩ := id X.1
  have hl : lv_has ls 5 [(0, .ref a_mo), (1, .int v1), (2, .int v2), (3, .int v3)] := hl
  generalize hH : s.heap = H at hW ⊢
  generalize hLo : ([] : List Loc) = locs at hW ⊢
  rw [fX7_since] at h
  refine lv_aload_n hx hb dX7_since_0 rfl (lv_at hl 0 rfl) ?_
  refine lv_iload_n hx hb dX7_since_1 rfl (lv_at hl 1 rfl) ?_
  obtain ⟨r3, hq, h⟩ := bn1_some h
  refine g_cvi X hW (As := [.int v1]) (ws' := (wX7_since G a_mo a_mo_numbers a_mo_words a_mo_boxes a_mo_weeks a_mo_routes a_mo_turns a_mo_leave a_mo_leases a_mo_uses a_mo_arcFrom a_mo_arcTo a_mo_arcRoom a_mo_arcCost a_mo_far a_mo_by a_mo_best a_mo_tape a_mo_kept m_arcs m_tapeMany m_tokenKind m_tokenAt m_tokenEnd m_tokenValue m_fault m_seen m_isKept m_place m_numbers m_words)) ckX7_since_X7_isBox_84 (kcX7_isBox (l := l) G a_mo a_mo_numbers a_mo_boxes a_mo_words a_mo_weeks a_mo_routes a_mo_turns a_mo_leave a_mo_leases a_mo_uses a_mo_arcFrom a_mo_arcTo a_mo_arcRoom a_mo_arcCost a_mo_far a_mo_by a_mo_best a_mo_tape a_mo_kept v1 m_arcs m_tapeMany m_tokenKind m_tokenAt m_tokenEnd m_tokenValue m_fault m_seen m_isKept m_place m_numbers hq) ⟨rfl, rfl, Nat.le_of_ble_eq_true rfl, Nat.le_of_ble_eq_true rfl⟩ [0, 1] rfl rfl rfl rfl rfl rfl rfl hl.1 (Nat.le_of_ble_eq_true rfl) ⟨Nat.zero_le _, Nat.zero_le _⟩ dX7_since_2 (fun H locs hW => ?_)
  refine lv_if_eq (tgt := 23) hx hb dX7_since_5 (by decide) (fun c4 => ?_) (fun c4 => ?_)
  · have h := (if_pos c4).symm.trans h
    refine lv_iconst hx hb dX7_since_23 qI_m1 ?_
    obtain rfl := Option.some.inj h
    exact g_iret X hW dX7_since_24
  · have h := (if_neg c4).symm.trans h
    refine lv_iload_n hx hb dX7_since_8 rfl (lv_at hl 2 rfl) ?_
    obtain ⟨r8, hq, h⟩ := bn1_some h
    refine g_csi X hW (As := [.int v2]) (ws' := (wX7_since G a_mo a_mo_numbers a_mo_words a_mo_boxes a_mo_weeks a_mo_routes a_mo_turns a_mo_leave a_mo_leases a_mo_uses a_mo_arcFrom a_mo_arcTo a_mo_arcRoom a_mo_arcCost a_mo_far a_mo_by a_mo_best a_mo_tape a_mo_kept m_arcs m_tapeMany m_tokenKind m_tokenAt m_tokenEnd m_tokenValue m_fault m_seen m_isKept m_place m_numbers m_words)) ckX7_since_X7_isDay_97 (kcX7_isDay (l := l) G v2 hq) ⟨rfl, rfl, Nat.le_of_ble_eq_true rfl, Nat.le_of_ble_eq_true rfl⟩ [] rfl rfl rfl rfl rfl rfl hl.1 (Nat.le_of_ble_eq_true rfl) ⟨Nat.zero_le _, Nat.zero_le _⟩ dX7_since_9 (fun H locs hW => ?_)
    refine lv_if_eq (tgt := 23) hx hb dX7_since_12 (by decide) (fun c9 => ?_) (fun c9 => ?_)
    · have h := (if_pos c9).symm.trans h
      refine lv_iconst hx hb dX7_since_23 qI_m1 ?_
      obtain rfl := Option.some.inj h
      exact g_iret X hW dX7_since_24
    · have h := (if_neg c9).symm.trans h
      refine lv_aload_n hx hb dX7_since_15 rfl (lv_at hl 0 rfl) ?_
      refine lv_iload_n hx hb dX7_since_16 rfl (lv_at hl 3 rfl) ?_
      obtain ⟨r14, hq, h⟩ := bn1_some h
      refine g_cvi X hW (As := [.int v3]) (ws' := (wX7_since G a_mo a_mo_numbers a_mo_words a_mo_boxes a_mo_weeks a_mo_routes a_mo_turns a_mo_leave a_mo_leases a_mo_uses a_mo_arcFrom a_mo_arcTo a_mo_arcRoom a_mo_arcCost a_mo_far a_mo_by a_mo_best a_mo_tape a_mo_kept m_arcs m_tapeMany m_tokenKind m_tokenAt m_tokenEnd m_tokenValue m_fault m_seen m_isKept m_place m_numbers m_words)) ckX7_since_X7_isPast_87 (kcX7_isPast (l := l) G a_mo a_mo_numbers a_mo_boxes a_mo_words a_mo_weeks a_mo_routes a_mo_turns a_mo_leave a_mo_leases a_mo_uses a_mo_arcFrom a_mo_arcTo a_mo_arcRoom a_mo_arcCost a_mo_far a_mo_by a_mo_best a_mo_tape a_mo_kept v3 m_arcs m_tapeMany m_tokenKind m_tokenAt m_tokenEnd m_tokenValue m_fault m_seen m_isKept m_place m_numbers hq) ⟨rfl, rfl, Nat.le_of_ble_eq_true rfl, Nat.le_of_ble_eq_true rfl⟩ [0, 1] rfl rfl rfl rfl rfl rfl rfl hl.1 (Nat.le_of_ble_eq_true rfl) ⟨Nat.zero_le _, Nat.zero_le _⟩ dX7_since_17 (fun H locs hW => ?_)
      refine lv_if_ne (tgt := 25) hx hb dX7_since_20 (by decide) (fun c15 => ?_) (fun c15 => ?_)
      · have h := (if_neg c15).symm.trans h
        refine lv_aload_n hx hb dX7_since_25 rfl (lv_at hl 0 rfl) ?_
        refine lv_iload_n hx hb dX7_since_26 rfl (lv_at hl 1 rfl) ?_
        refine lv_iload_n hx hb dX7_since_27 rfl (lv_at hl 2 rfl) ?_
        refine lv_iload_n hx hb dX7_since_28 rfl (lv_at hl 3 rfl) ?_
        obtain ⟨r20, hq, h⟩ := bn1_some h
        refine g_cvi X hW (As := [.int v1, .int v2, .int v3]) (ws' := (wX7_since G a_mo a_mo_numbers a_mo_words a_mo_boxes a_mo_weeks a_mo_routes a_mo_turns a_mo_leave a_mo_leases a_mo_uses a_mo_arcFrom a_mo_arcTo a_mo_arcRoom a_mo_arcCost a_mo_far a_mo_by a_mo_best a_mo_tape a_mo_kept m_arcs m_tapeMany m_tokenKind m_tokenAt m_tokenEnd m_tokenValue m_fault m_seen m_isKept m_place m_numbers m_words)) ckX7_since_X7_latest_93 (kcX7_latest (l := l) G a_mo a_mo_numbers a_mo_words a_mo_boxes a_mo_weeks a_mo_routes a_mo_turns a_mo_leave a_mo_leases a_mo_uses a_mo_arcFrom a_mo_arcTo a_mo_arcRoom a_mo_arcCost a_mo_far a_mo_by a_mo_best a_mo_tape a_mo_kept v1 v2 v3 m_arcs m_tapeMany m_tokenKind m_tokenAt m_tokenEnd m_tokenValue m_fault m_seen m_isKept m_place m_numbers m_words hq) ⟨rfl, rfl, Nat.le_of_ble_eq_true rfl, Nat.le_of_ble_eq_true rfl⟩ [0, 1, 2] rfl rfl rfl rfl rfl rfl rfl hl.1 (Nat.le_of_ble_eq_true rfl) ⟨Nat.zero_le _, Nat.zero_le _⟩ dX7_since_29 (fun H locs hW => ?_)
        refine lv_istore (lv' := [(4, .int r20), (0, .ref a_mo), (1, .int v1), (2, .int v2), (3, .int v3)]) hx hb dX7_since_32 hl (by decide) rfl (fun ls hl => ?_)
        refine lv_iload hx hb dX7_since_34 (lv_at hl 0 rfl) ?_
        refine lv_if_ge (tgt := 44) hx hb dX7_since_36 (by decide) (fun c23 => ?_) (fun c23 => ?_)
        · have h := (if_pos c23).symm.trans h
          refine lv_aload_n hx hb dX7_since_44 rfl (lv_at hl 1 rfl) ?_
          refine g_get X hW eX7_since_16 0 rfl rfl dX7_since_45 ?_
          refine lv_iconst hx hb dX7_since_48 qI_5 ?_
          refine lv_iload hx hb dX7_since_49 (lv_at hl 0 rfl) ?_
          refine lv_imul hx hb dX7_since_51 ?_
          refine lv_iconst hx hb dX7_since_52 qI_1 ?_
          refine lv_iadd hx hb dX7_since_53 ?_
          obtain ⟨g31, h⟩ := gd_some h
          refine g_ald X hW 2 rfl g31 dX7_since_54 ?_
          obtain rfl := Option.some.inj h
          exact g_iret X hW dX7_since_55
        · have h := (if_neg c23).symm.trans h
          refine lv_bipush hx hb dX7_since_39 qB_m3 ?_
          refine lv_goto (tgt := 55) hx hb dX7_since_41 (by decide) ?_
          obtain rfl := Option.some.inj h
          exact g_iret X hW dX7_since_55
      · have h := (if_pos c15).symm.trans h
        refine lv_iconst hx hb dX7_since_23 qI_m1 ?_
        obtain rfl := Option.some.inj h
        exact g_iret X hW dX7_since_24
theorem kcX7_since {l : Launch} (G : Gt) (a_mo a_mo_numbers a_mo_words a_mo_boxes a_mo_weeks a_mo_routes a_mo_turns a_mo_leave a_mo_leases a_mo_uses a_mo_arcFrom a_mo_arcTo a_mo_arcRoom a_mo_arcCost a_mo_far a_mo_by a_mo_best a_mo_tape a_mo_kept : Nat) (v1 : Int32) (v2 : Int32) (v3 : Int32) (m_arcs : Int32) (m_tapeMany : Int32) (m_tokenKind : Int32) (m_tokenAt : Int32) (m_tokenEnd : Int32) (m_tokenValue : Int32) (m_fault : Int32) (m_seen : Int32) (m_isKept : Int32) (m_place : Int32) (m_numbers : (Nat → Int32)) (m_words : (Nat → Int32)) {r : Int32}  (h : fX7_since v1 v2 v3 m_numbers m_words = some r) : CtI G l yX7_since wsX7_since rmX7_since [.ref a_mo, .int v1, .int v2, .int v3] (wX7_since G a_mo a_mo_numbers a_mo_words a_mo_boxes a_mo_weeks a_mo_routes a_mo_turns a_mo_leave a_mo_leases a_mo_uses a_mo_arcFrom a_mo_arcTo a_mo_arcRoom a_mo_arcCost a_mo_far a_mo_by a_mo_best a_mo_tape a_mo_kept m_arcs m_tapeMany m_tokenKind m_tokenAt m_tokenEnd m_tokenValue m_fault m_seen m_isKept m_place m_numbers m_words) r (wX7_since G a_mo a_mo_numbers a_mo_words a_mo_boxes a_mo_weeks a_mo_routes a_mo_turns a_mo_leave a_mo_leases a_mo_uses a_mo_arcFrom a_mo_arcTo a_mo_arcRoom a_mo_arcCost a_mo_far a_mo_by a_mo_best a_mo_tape a_mo_kept m_arcs m_tapeMany m_tokenKind m_tokenAt m_tokenEnd m_tokenValue m_fault m_seen m_isKept m_place m_numbers m_words) := k0X7_since G a_mo a_mo_numbers a_mo_words a_mo_boxes a_mo_weeks a_mo_routes a_mo_turns a_mo_leave a_mo_leases a_mo_uses a_mo_arcFrom a_mo_arcTo a_mo_arcRoom a_mo_arcCost a_mo_far a_mo_by a_mo_best a_mo_tape a_mo_kept v1 v2 v3 m_arcs m_tapeMany m_tokenKind m_tokenAt m_tokenEnd m_tokenValue m_fault m_seen m_isKept m_place m_numbers m_words h
end MX7_since
/-! EmptyBoxesModel.follows -/
section MX7_follows
theorem hdX7_follows : yX7_follows.cls = RX7 ∧ yX7_follows.cls ≠ "java/lang/invoke/MethodHandle" ∧ yX7_follows.cls ≠ "java/lang/invoke/VarHandle" ∧ (parseMethodDescriptor yX7_follows.desc).map (fun d => d.parameters.length) = some 3 := by decide +kernel
abbrev wX7_follows (G : Gt) (a_mo a_mo_numbers a_mo_words a_mo_boxes a_mo_weeks a_mo_routes a_mo_turns a_mo_leave a_mo_leases a_mo_uses a_mo_arcFrom a_mo_arcTo a_mo_arcRoom a_mo_arcCost a_mo_far a_mo_by a_mo_best a_mo_tape a_mo_kept : Nat) (m_arcs : Int32) (m_tapeMany : Int32) (m_tokenKind : Int32) (m_tokenAt : Int32) (m_tokenEnd : Int32) (m_tokenValue : Int32) (m_fault : Int32) (m_seen : Int32) (m_isKept : Int32) (m_place : Int32) (m_numbers : (Nat → Int32)) (m_words : (Nat → Int32)) : va_W := [(a_mo, .inr (7, [.ref a_mo_numbers, .ref a_mo_boxes, .ref a_mo_words, .ref a_mo_weeks, .ref a_mo_routes, .ref a_mo_turns, .ref a_mo_leave, .ref a_mo_leases, .ref a_mo_uses, .ref a_mo_arcFrom, .ref a_mo_arcTo, .ref a_mo_arcRoom, .ref a_mo_arcCost, .int m_arcs, .ref a_mo_far, .ref a_mo_by, .ref a_mo_best, .ref a_mo_tape, .int m_tapeMany, .int m_tokenKind, .int m_tokenAt, .int m_tokenEnd, .int m_tokenValue, .int m_fault, .int m_seen, .int m_isKept, .ref a_mo_kept, .int m_place])), (a_mo_numbers, .inl (G.2.1, 10, .inl m_numbers)), (a_mo_words, .inl (G.2.1, 300, .inl m_words))]
abbrev rmX7_follows : Room := { frames := 0, cells := 0, slots := 0, locals := 0 }
theorem iX7_follows_X7 : ∀ w ∈ wsX70, w ∈ wsX7_follows := by decide +kernel
theorem eX7_follows_16 : Fk wsX7_follows RX7 16 7 2 := ⟨RX7, TX7, 28, rfl, iX7_follows_X7, by decide, by decide +kernel⟩
theorem eX7_follows_7 : Fk wsX7_follows RX7 7 7 0 := ⟨RX7, TX7, 28, rfl, iX7_follows_X7, by decide, by decide +kernel⟩
variable {p : Program} {l : Launch} {e : Env} {s : State} {m : MethodId} {args : Array Value} {below : List Frame} {meth : Method} {c : Code} {A : Nat → Prop} {G : Gt} {a_mo a_mo_numbers a_mo_words a_mo_boxes a_mo_weeks a_mo_routes a_mo_turns a_mo_leave a_mo_leases a_mo_uses a_mo_arcFrom a_mo_arcTo a_mo_arcRoom a_mo_arcCost a_mo_far a_mo_by a_mo_best a_mo_tape a_mo_kept : Nat} {m_arcs : Int32} {m_tapeMany : Int32} {m_tokenKind : Int32} {m_tokenAt : Int32} {m_tokenEnd : Int32} {m_tokenValue : Int32} {m_fault : Int32} {m_seen : Int32} {m_isKept : Int32} {m_place : Int32} {m_numbers : (Nat → Int32)} {m_words : (Nat → Int32)} {res : Int32}
set_option maxHeartbeats 4000000 in
set_option maxRecDepth 100000 in
theorem tX7_follows_161 (X : Bx p s m args meth c cX7_follows 7 wsX7_follows RX7 (some .int)) (v1 : Int32) (v2 : Int32) (v3 : Int32) (v4 : Int32) (v5 : Int32) (k_6 : Int32 → Int32 → Option (Int32)) (Hk_6 : ∀ (v4 : Int32) (v5 : Int32), k_6 v4 v5 = some res → ∀ (H : Heap) (locs : List Loc), Wo G A s (wX7_follows G a_mo a_mo_numbers a_mo_words a_mo_boxes a_mo_weeks a_mo_routes a_mo_turns a_mo_leave a_mo_leases a_mo_uses a_mo_arcFrom a_mo_arcTo a_mo_arcRoom a_mo_arcCost a_mo_far a_mo_by a_mo_best a_mo_tape a_mo_kept m_arcs m_tapeMany m_tokenKind m_tokenAt m_tokenEnd m_tokenValue m_fault m_seen m_isKept m_place m_numbers m_words) H locs → ∀ ls : Array Slot, lv_has ls 7 [(0, .ref a_mo), (1, .int v1), (2, .int v2), (3, .int v3), (4, .int v4), (5, .int v5)] → W p l e rmX7_follows s m args below meth c H locs 0 0 (QI G A below args s res (wX7_follows G a_mo a_mo_numbers a_mo_words a_mo_boxes a_mo_weeks a_mo_routes a_mo_turns a_mo_leave a_mo_leases a_mo_uses a_mo_arcFrom a_mo_arcTo a_mo_arcRoom a_mo_arcCost a_mo_far a_mo_by a_mo_best a_mo_tape a_mo_kept m_arcs m_tapeMany m_tokenKind m_tokenAt m_tokenEnd m_tokenValue m_fault m_seen m_isKept m_place m_numbers m_words)) (F0 m 6 ls [])) (h : fX7_follows_161 k_6 v4 v5 = some res) : ∀ (H : Heap) (locs : List Loc), Wo G A s (wX7_follows G a_mo a_mo_numbers a_mo_words a_mo_boxes a_mo_weeks a_mo_routes a_mo_turns a_mo_leave a_mo_leases a_mo_uses a_mo_arcFrom a_mo_arcTo a_mo_arcRoom a_mo_arcCost a_mo_far a_mo_by a_mo_best a_mo_tape a_mo_kept m_arcs m_tapeMany m_tokenKind m_tokenAt m_tokenEnd m_tokenValue m_fault m_seen m_isKept m_place m_numbers m_words) H locs → ∀ ls : Array Slot, lv_has ls 7 [(0, .ref a_mo), (1, .int v1), (2, .int v2), (3, .int v3), (4, .int v4), (5, .int v5)] → W p l e rmX7_follows s m args below meth c H locs 0 0 (QI G A below args s res (wX7_follows G a_mo a_mo_numbers a_mo_words a_mo_boxes a_mo_weeks a_mo_routes a_mo_turns a_mo_leave a_mo_leases a_mo_uses a_mo_arcFrom a_mo_arcTo a_mo_arcRoom a_mo_arcCost a_mo_far a_mo_by a_mo_best a_mo_tape a_mo_kept m_arcs m_tapeMany m_tokenKind m_tokenAt m_tokenEnd m_tokenValue m_fault m_seen m_isKept m_place m_numbers m_words)) (F0 m 161 ls []) := by
  obtain ⟨hx, hb, -⟩ := id X.1
  intro H locs hW ls hl
  rw [fX7_follows_161] at h
  refine lv_iinc (v := (v5 + (1 : Int32))) (lv' := [(5, .int (v5 + (1 : Int32))), (0, .ref a_mo), (1, .int v1), (2, .int v2), (3, .int v3), (4, .int v4)]) hx hb dX7_follows_161 hl (k := 5) rfl (congrArg (fun z => v5 + z) qI_1) (by decide) rfl (fun ls hl => ?_)
  refine lv_goto (tgt := 6) hx hb dX7_follows_164 (by decide) ?_
  exact Hk_6 v4 (v5 + (1 : Int32)) h H locs hW ls (lv_sub hl [1, 2, 3, 4, 5, 0] rfl)
set_option maxHeartbeats 4000000 in
set_option maxRecDepth 100000 in
theorem tX7_follows_157 (X : Bx p s m args meth c cX7_follows 7 wsX7_follows RX7 (some .int)) (v1 : Int32) (v2 : Int32) (v3 : Int32) (v5 : Int32) (k_6 : Int32 → Int32 → Option (Int32)) (Hk_6 : ∀ (v4 : Int32) (v5 : Int32), k_6 v4 v5 = some res → ∀ (H : Heap) (locs : List Loc), Wo G A s (wX7_follows G a_mo a_mo_numbers a_mo_words a_mo_boxes a_mo_weeks a_mo_routes a_mo_turns a_mo_leave a_mo_leases a_mo_uses a_mo_arcFrom a_mo_arcTo a_mo_arcRoom a_mo_arcCost a_mo_far a_mo_by a_mo_best a_mo_tape a_mo_kept m_arcs m_tapeMany m_tokenKind m_tokenAt m_tokenEnd m_tokenValue m_fault m_seen m_isKept m_place m_numbers m_words) H locs → ∀ ls : Array Slot, lv_has ls 7 [(0, .ref a_mo), (1, .int v1), (2, .int v2), (3, .int v3), (4, .int v4), (5, .int v5)] → W p l e rmX7_follows s m args below meth c H locs 0 0 (QI G A below args s res (wX7_follows G a_mo a_mo_numbers a_mo_words a_mo_boxes a_mo_weeks a_mo_routes a_mo_turns a_mo_leave a_mo_leases a_mo_uses a_mo_arcFrom a_mo_arcTo a_mo_arcRoom a_mo_arcCost a_mo_far a_mo_by a_mo_best a_mo_tape a_mo_kept m_arcs m_tapeMany m_tokenKind m_tokenAt m_tokenEnd m_tokenValue m_fault m_seen m_isKept m_place m_numbers m_words)) (F0 m 6 ls [])) (h : fX7_follows_157 k_6 v5 = some res) : ∀ (H : Heap) (locs : List Loc), Wo G A s (wX7_follows G a_mo a_mo_numbers a_mo_words a_mo_boxes a_mo_weeks a_mo_routes a_mo_turns a_mo_leave a_mo_leases a_mo_uses a_mo_arcFrom a_mo_arcTo a_mo_arcRoom a_mo_arcCost a_mo_far a_mo_by a_mo_best a_mo_tape a_mo_kept m_arcs m_tapeMany m_tokenKind m_tokenAt m_tokenEnd m_tokenValue m_fault m_seen m_isKept m_place m_numbers m_words) H locs → ∀ ls : Array Slot, lv_has ls 7 [(0, .ref a_mo), (1, .int v1), (2, .int v2), (3, .int v3), (5, .int v5)] → W p l e rmX7_follows s m args below meth c H locs 0 0 (QI G A below args s res (wX7_follows G a_mo a_mo_numbers a_mo_words a_mo_boxes a_mo_weeks a_mo_routes a_mo_turns a_mo_leave a_mo_leases a_mo_uses a_mo_arcFrom a_mo_arcTo a_mo_arcRoom a_mo_arcCost a_mo_far a_mo_by a_mo_best a_mo_tape a_mo_kept m_arcs m_tapeMany m_tokenKind m_tokenAt m_tokenEnd m_tokenValue m_fault m_seen m_isKept m_place m_numbers m_words)) (F0 m 157 ls []) := by
  obtain ⟨hx, hb, -⟩ := id X.1
  intro H locs hW ls hl
  rw [fX7_follows_157] at h
  refine lv_iload hx hb dX7_follows_157 (lv_at hl 4 rfl) ?_
  refine lv_istore (lv' := [(4, .int v5), (0, .ref a_mo), (1, .int v1), (2, .int v2), (3, .int v3), (5, .int v5)]) hx hb dX7_follows_159 hl (by decide) rfl (fun ls hl => ?_)
  exact tX7_follows_161 X v1 v2 v3 v5 v5 k_6 Hk_6 h H locs hW ls (lv_sub hl [1, 2, 3, 4, 0, 5] rfl)
set_option maxHeartbeats 4000000 in
set_option maxRecDepth 100000 in
theorem tX7_follows_120 (X : Bx p s m args meth c cX7_follows 7 wsX7_follows RX7 (some .int)) (v1 : Int32) (v2 : Int32) (v3 : Int32) (v4 : Int32) (v5 : Int32) (t0 : Int32) (k_6 : Int32 → Int32 → Option (Int32)) (Hk_6 : ∀ (v4 : Int32) (v5 : Int32), k_6 v4 v5 = some res → ∀ (H : Heap) (locs : List Loc), Wo G A s (wX7_follows G a_mo a_mo_numbers a_mo_words a_mo_boxes a_mo_weeks a_mo_routes a_mo_turns a_mo_leave a_mo_leases a_mo_uses a_mo_arcFrom a_mo_arcTo a_mo_arcRoom a_mo_arcCost a_mo_far a_mo_by a_mo_best a_mo_tape a_mo_kept m_arcs m_tapeMany m_tokenKind m_tokenAt m_tokenEnd m_tokenValue m_fault m_seen m_isKept m_place m_numbers m_words) H locs → ∀ ls : Array Slot, lv_has ls 7 [(0, .ref a_mo), (1, .int v1), (2, .int v2), (3, .int v3), (4, .int v4), (5, .int v5)] → W p l e rmX7_follows s m args below meth c H locs 0 0 (QI G A below args s res (wX7_follows G a_mo a_mo_numbers a_mo_words a_mo_boxes a_mo_weeks a_mo_routes a_mo_turns a_mo_leave a_mo_leases a_mo_uses a_mo_arcFrom a_mo_arcTo a_mo_arcRoom a_mo_arcCost a_mo_far a_mo_by a_mo_best a_mo_tape a_mo_kept m_arcs m_tapeMany m_tokenKind m_tokenAt m_tokenEnd m_tokenValue m_fault m_seen m_isKept m_place m_numbers m_words)) (F0 m 6 ls [])) (h : fX7_follows_120 k_6 v4 v5 t0 m_words = some res) : ∀ (H : Heap) (locs : List Loc), Wo G A s (wX7_follows G a_mo a_mo_numbers a_mo_words a_mo_boxes a_mo_weeks a_mo_routes a_mo_turns a_mo_leave a_mo_leases a_mo_uses a_mo_arcFrom a_mo_arcTo a_mo_arcRoom a_mo_arcCost a_mo_far a_mo_by a_mo_best a_mo_tape a_mo_kept m_arcs m_tapeMany m_tokenKind m_tokenAt m_tokenEnd m_tokenValue m_fault m_seen m_isKept m_place m_numbers m_words) H locs → ∀ ls : Array Slot, lv_has ls 7 [(0, .ref a_mo), (1, .int v1), (2, .int v2), (3, .int v3), (4, .int v4), (5, .int v5)] → W p l e rmX7_follows s m args below meth c H locs 0 0 (QI G A below args s res (wX7_follows G a_mo a_mo_numbers a_mo_words a_mo_boxes a_mo_weeks a_mo_routes a_mo_turns a_mo_leave a_mo_leases a_mo_uses a_mo_arcFrom a_mo_arcTo a_mo_arcRoom a_mo_arcCost a_mo_far a_mo_by a_mo_best a_mo_tape a_mo_kept m_arcs m_tapeMany m_tokenKind m_tokenAt m_tokenEnd m_tokenValue m_fault m_seen m_isKept m_place m_numbers m_words)) (F0 m 120 ls [.int t0]) := by
  obtain ⟨hx, hb, -⟩ := id X.1
  intro H locs hW ls hl
  rw [fX7_follows_120] at h
  refine lv_istore (lv' := [(6, .int t0), (0, .ref a_mo), (1, .int v1), (2, .int v2), (3, .int v3), (4, .int v4), (5, .int v5)]) hx hb dX7_follows_120 hl (by decide) rfl (fun ls hl => ?_)
  refine lv_iload hx hb dX7_follows_122 (lv_at hl 0 rfl) ?_
  refine lv_if_eq (tgt := 161) hx hb dX7_follows_124 (by decide) (fun c7 => ?_) (fun c7 => ?_)
  · have h := (if_pos c7).symm.trans h
    exact tX7_follows_161 X v1 v2 v3 v4 v5 k_6 Hk_6 h H locs hW ls (lv_sub hl [1, 2, 3, 4, 5, 6] rfl)
  · have h := (if_neg c7).symm.trans h
    refine lv_iload hx hb dX7_follows_127 (lv_at hl 5 rfl) ?_
    refine lv_if_lt (tgt := 157) hx hb dX7_follows_129 (by decide) (fun c9 => ?_) (fun c9 => ?_)
    · have h := (if_pos c9).symm.trans h
      exact tX7_follows_157 X v1 v2 v3 v5 k_6 Hk_6 h H locs hW ls (lv_sub hl [1, 2, 3, 4, 6] rfl)
    · have h := (if_neg c9).symm.trans h
      refine lv_aload_n hx hb dX7_follows_132 rfl (lv_at hl 1 rfl) ?_
      refine g_get X hW eX7_follows_16 0 rfl rfl dX7_follows_133 ?_
      refine lv_iconst hx hb dX7_follows_136 qI_5 ?_
      refine lv_iload hx hb dX7_follows_137 (lv_at hl 6 rfl) ?_
      refine lv_imul hx hb dX7_follows_139 ?_
      refine lv_iconst hx hb dX7_follows_140 qI_1 ?_
      refine lv_iadd hx hb dX7_follows_141 ?_
      obtain ⟨g17, h⟩ := gd_some h
      refine g_ald X hW 2 rfl g17 dX7_follows_142 ?_
      refine lv_aload_n hx hb dX7_follows_143 rfl (lv_at hl 1 rfl) ?_
      refine g_get X hW eX7_follows_16 0 rfl rfl dX7_follows_144 ?_
      refine lv_iconst hx hb dX7_follows_147 qI_5 ?_
      refine lv_iload hx hb dX7_follows_148 (lv_at hl 5 rfl) ?_
      refine lv_imul hx hb dX7_follows_150 ?_
      refine lv_iconst hx hb dX7_follows_151 qI_1 ?_
      refine lv_iadd hx hb dX7_follows_152 ?_
      obtain ⟨g25, h⟩ := gd_some h
      refine g_ald X hW 2 rfl g25 dX7_follows_153 ?_
      refine lv_icmp_ge (tgt := 161) hx hb dX7_follows_154 (by decide) (fun c26 => ?_) (fun c26 => ?_)
      · have h := (if_pos c26).symm.trans h
        exact tX7_follows_161 X v1 v2 v3 v4 v5 k_6 Hk_6 h H locs hW ls (lv_sub hl [1, 2, 3, 4, 5, 6] rfl)
      · have h := (if_neg c26).symm.trans h
        exact tX7_follows_157 X v1 v2 v3 v5 k_6 Hk_6 h H locs hW ls (lv_sub hl [1, 2, 3, 4, 6] rfl)
set_option maxHeartbeats 4000000 in
set_option maxRecDepth 100000 in
theorem tX7_follows_119 (X : Bx p s m args meth c cX7_follows 7 wsX7_follows RX7 (some .int)) (v1 : Int32) (v2 : Int32) (v3 : Int32) (v4 : Int32) (v5 : Int32) (k_6 : Int32 → Int32 → Option (Int32)) (Hk_6 : ∀ (v4 : Int32) (v5 : Int32), k_6 v4 v5 = some res → ∀ (H : Heap) (locs : List Loc), Wo G A s (wX7_follows G a_mo a_mo_numbers a_mo_words a_mo_boxes a_mo_weeks a_mo_routes a_mo_turns a_mo_leave a_mo_leases a_mo_uses a_mo_arcFrom a_mo_arcTo a_mo_arcRoom a_mo_arcCost a_mo_far a_mo_by a_mo_best a_mo_tape a_mo_kept m_arcs m_tapeMany m_tokenKind m_tokenAt m_tokenEnd m_tokenValue m_fault m_seen m_isKept m_place m_numbers m_words) H locs → ∀ ls : Array Slot, lv_has ls 7 [(0, .ref a_mo), (1, .int v1), (2, .int v2), (3, .int v3), (4, .int v4), (5, .int v5)] → W p l e rmX7_follows s m args below meth c H locs 0 0 (QI G A below args s res (wX7_follows G a_mo a_mo_numbers a_mo_words a_mo_boxes a_mo_weeks a_mo_routes a_mo_turns a_mo_leave a_mo_leases a_mo_uses a_mo_arcFrom a_mo_arcTo a_mo_arcRoom a_mo_arcCost a_mo_far a_mo_by a_mo_best a_mo_tape a_mo_kept m_arcs m_tapeMany m_tokenKind m_tokenAt m_tokenEnd m_tokenValue m_fault m_seen m_isKept m_place m_numbers m_words)) (F0 m 6 ls [])) (h : fX7_follows_119 k_6 v4 v5 m_words = some res) : ∀ (H : Heap) (locs : List Loc), Wo G A s (wX7_follows G a_mo a_mo_numbers a_mo_words a_mo_boxes a_mo_weeks a_mo_routes a_mo_turns a_mo_leave a_mo_leases a_mo_uses a_mo_arcFrom a_mo_arcTo a_mo_arcRoom a_mo_arcCost a_mo_far a_mo_by a_mo_best a_mo_tape a_mo_kept m_arcs m_tapeMany m_tokenKind m_tokenAt m_tokenEnd m_tokenValue m_fault m_seen m_isKept m_place m_numbers m_words) H locs → ∀ ls : Array Slot, lv_has ls 7 [(0, .ref a_mo), (1, .int v1), (2, .int v2), (3, .int v3), (4, .int v4), (5, .int v5)] → W p l e rmX7_follows s m args below meth c H locs 0 0 (QI G A below args s res (wX7_follows G a_mo a_mo_numbers a_mo_words a_mo_boxes a_mo_weeks a_mo_routes a_mo_turns a_mo_leave a_mo_leases a_mo_uses a_mo_arcFrom a_mo_arcTo a_mo_arcRoom a_mo_arcCost a_mo_far a_mo_by a_mo_best a_mo_tape a_mo_kept m_arcs m_tapeMany m_tokenKind m_tokenAt m_tokenEnd m_tokenValue m_fault m_seen m_isKept m_place m_numbers m_words)) (F0 m 119 ls []) := by
  obtain ⟨hx, hb, -⟩ := id X.1
  intro H locs hW ls hl
  rw [fX7_follows_119] at h
  refine lv_iconst hx hb dX7_follows_119 qI_0 ?_
  exact tX7_follows_120 X v1 v2 v3 v4 v5 (0 : Int32) k_6 Hk_6 h H locs hW ls hl
set_option maxHeartbeats 4000000 in
set_option maxRecDepth 100000 in
theorem tX7_follows_115 (X : Bx p s m args meth c cX7_follows 7 wsX7_follows RX7 (some .int)) (v1 : Int32) (v2 : Int32) (v3 : Int32) (v4 : Int32) (v5 : Int32) (k_6 : Int32 → Int32 → Option (Int32)) (Hk_6 : ∀ (v4 : Int32) (v5 : Int32), k_6 v4 v5 = some res → ∀ (H : Heap) (locs : List Loc), Wo G A s (wX7_follows G a_mo a_mo_numbers a_mo_words a_mo_boxes a_mo_weeks a_mo_routes a_mo_turns a_mo_leave a_mo_leases a_mo_uses a_mo_arcFrom a_mo_arcTo a_mo_arcRoom a_mo_arcCost a_mo_far a_mo_by a_mo_best a_mo_tape a_mo_kept m_arcs m_tapeMany m_tokenKind m_tokenAt m_tokenEnd m_tokenValue m_fault m_seen m_isKept m_place m_numbers m_words) H locs → ∀ ls : Array Slot, lv_has ls 7 [(0, .ref a_mo), (1, .int v1), (2, .int v2), (3, .int v3), (4, .int v4), (5, .int v5)] → W p l e rmX7_follows s m args below meth c H locs 0 0 (QI G A below args s res (wX7_follows G a_mo a_mo_numbers a_mo_words a_mo_boxes a_mo_weeks a_mo_routes a_mo_turns a_mo_leave a_mo_leases a_mo_uses a_mo_arcFrom a_mo_arcTo a_mo_arcRoom a_mo_arcCost a_mo_far a_mo_by a_mo_best a_mo_tape a_mo_kept m_arcs m_tapeMany m_tokenKind m_tokenAt m_tokenEnd m_tokenValue m_fault m_seen m_isKept m_place m_numbers m_words)) (F0 m 6 ls [])) (h : fX7_follows_115 k_6 v4 v5 m_words = some res) : ∀ (H : Heap) (locs : List Loc), Wo G A s (wX7_follows G a_mo a_mo_numbers a_mo_words a_mo_boxes a_mo_weeks a_mo_routes a_mo_turns a_mo_leave a_mo_leases a_mo_uses a_mo_arcFrom a_mo_arcTo a_mo_arcRoom a_mo_arcCost a_mo_far a_mo_by a_mo_best a_mo_tape a_mo_kept m_arcs m_tapeMany m_tokenKind m_tokenAt m_tokenEnd m_tokenValue m_fault m_seen m_isKept m_place m_numbers m_words) H locs → ∀ ls : Array Slot, lv_has ls 7 [(0, .ref a_mo), (1, .int v1), (2, .int v2), (3, .int v3), (4, .int v4), (5, .int v5)] → W p l e rmX7_follows s m args below meth c H locs 0 0 (QI G A below args s res (wX7_follows G a_mo a_mo_numbers a_mo_words a_mo_boxes a_mo_weeks a_mo_routes a_mo_turns a_mo_leave a_mo_leases a_mo_uses a_mo_arcFrom a_mo_arcTo a_mo_arcRoom a_mo_arcCost a_mo_far a_mo_by a_mo_best a_mo_tape a_mo_kept m_arcs m_tapeMany m_tokenKind m_tokenAt m_tokenEnd m_tokenValue m_fault m_seen m_isKept m_place m_numbers m_words)) (F0 m 115 ls []) := by
  obtain ⟨hx, hb, -⟩ := id X.1
  intro H locs hW ls hl
  rw [fX7_follows_115] at h
  refine lv_iconst hx hb dX7_follows_115 qI_1 ?_
  refine lv_goto (tgt := 120) hx hb dX7_follows_116 (by decide) ?_
  exact tX7_follows_120 X v1 v2 v3 v4 v5 (1 : Int32) k_6 Hk_6 h H locs hW ls hl
set_option maxHeartbeats 4000000 in
set_option maxRecDepth 100000 in
theorem tX7_follows_50 (X : Bx p s m args meth c cX7_follows 7 wsX7_follows RX7 (some .int)) (v1 : Int32) (v2 : Int32) (v3 : Int32) (v4 : Int32) (v5 : Int32) (t0 : Int32) (k_6 : Int32 → Int32 → Option (Int32)) (Hk_6 : ∀ (v4 : Int32) (v5 : Int32), k_6 v4 v5 = some res → ∀ (H : Heap) (locs : List Loc), Wo G A s (wX7_follows G a_mo a_mo_numbers a_mo_words a_mo_boxes a_mo_weeks a_mo_routes a_mo_turns a_mo_leave a_mo_leases a_mo_uses a_mo_arcFrom a_mo_arcTo a_mo_arcRoom a_mo_arcCost a_mo_far a_mo_by a_mo_best a_mo_tape a_mo_kept m_arcs m_tapeMany m_tokenKind m_tokenAt m_tokenEnd m_tokenValue m_fault m_seen m_isKept m_place m_numbers m_words) H locs → ∀ ls : Array Slot, lv_has ls 7 [(0, .ref a_mo), (1, .int v1), (2, .int v2), (3, .int v3), (4, .int v4), (5, .int v5)] → W p l e rmX7_follows s m args below meth c H locs 0 0 (QI G A below args s res (wX7_follows G a_mo a_mo_numbers a_mo_words a_mo_boxes a_mo_weeks a_mo_routes a_mo_turns a_mo_leave a_mo_leases a_mo_uses a_mo_arcFrom a_mo_arcTo a_mo_arcRoom a_mo_arcCost a_mo_far a_mo_by a_mo_best a_mo_tape a_mo_kept m_arcs m_tapeMany m_tokenKind m_tokenAt m_tokenEnd m_tokenValue m_fault m_seen m_isKept m_place m_numbers m_words)) (F0 m 6 ls [])) (h : fX7_follows_50 k_6 v2 v4 v5 t0 m_words = some res) : ∀ (H : Heap) (locs : List Loc), Wo G A s (wX7_follows G a_mo a_mo_numbers a_mo_words a_mo_boxes a_mo_weeks a_mo_routes a_mo_turns a_mo_leave a_mo_leases a_mo_uses a_mo_arcFrom a_mo_arcTo a_mo_arcRoom a_mo_arcCost a_mo_far a_mo_by a_mo_best a_mo_tape a_mo_kept m_arcs m_tapeMany m_tokenKind m_tokenAt m_tokenEnd m_tokenValue m_fault m_seen m_isKept m_place m_numbers m_words) H locs → ∀ ls : Array Slot, lv_has ls 7 [(0, .ref a_mo), (1, .int v1), (2, .int v2), (3, .int v3), (4, .int v4), (5, .int v5)] → W p l e rmX7_follows s m args below meth c H locs 0 0 (QI G A below args s res (wX7_follows G a_mo a_mo_numbers a_mo_words a_mo_boxes a_mo_weeks a_mo_routes a_mo_turns a_mo_leave a_mo_leases a_mo_uses a_mo_arcFrom a_mo_arcTo a_mo_arcRoom a_mo_arcCost a_mo_far a_mo_by a_mo_best a_mo_tape a_mo_kept m_arcs m_tapeMany m_tokenKind m_tokenAt m_tokenEnd m_tokenValue m_fault m_seen m_isKept m_place m_numbers m_words)) (F0 m 50 ls [.int t0]) := by
  obtain ⟨hx, hb, -⟩ := id X.1
  intro H locs hW ls hl
  rw [fX7_follows_50] at h
  refine lv_istore (lv' := [(6, .int t0), (0, .ref a_mo), (1, .int v1), (2, .int v2), (3, .int v3), (4, .int v4), (5, .int v5)]) hx hb dX7_follows_50 hl (by decide) rfl (fun ls hl => ?_)
  refine lv_iload hx hb dX7_follows_52 (lv_at hl 0 rfl) ?_
  refine lv_if_eq (tgt := 119) hx hb dX7_follows_54 (by decide) (fun c32 => ?_) (fun c32 => ?_)
  · have h := (if_pos c32).symm.trans h
    exact tX7_follows_119 X v1 v2 v3 v4 v5 k_6 Hk_6 h H locs hW ls (lv_sub hl [1, 2, 3, 4, 5, 6] rfl)
  · have h := (if_neg c32).symm.trans h
    refine lv_iload_n hx hb dX7_follows_57 rfl (lv_at hl 3 rfl) ?_
    refine lv_if_lt (tgt := 115) hx hb dX7_follows_58 (by decide) (fun c34 => ?_) (fun c34 => ?_)
    · have h := (if_pos c34).symm.trans h
      exact tX7_follows_115 X v1 v2 v3 v4 v5 k_6 Hk_6 h H locs hW ls (lv_sub hl [1, 2, 3, 4, 5, 6] rfl)
    · have h := (if_neg c34).symm.trans h
      refine lv_aload_n hx hb dX7_follows_61 rfl (lv_at hl 1 rfl) ?_
      refine g_get X hW eX7_follows_16 0 rfl rfl dX7_follows_62 ?_
      refine lv_iconst hx hb dX7_follows_65 qI_5 ?_
      refine lv_iload hx hb dX7_follows_66 (lv_at hl 6 rfl) ?_
      refine lv_imul hx hb dX7_follows_68 ?_
      refine lv_iconst hx hb dX7_follows_69 qI_1 ?_
      refine lv_iadd hx hb dX7_follows_70 ?_
      obtain ⟨g42, h⟩ := gd_some h
      refine g_ald X hW 2 rfl g42 dX7_follows_71 ?_
      refine lv_aload_n hx hb dX7_follows_72 rfl (lv_at hl 1 rfl) ?_
      refine g_get X hW eX7_follows_16 0 rfl rfl dX7_follows_73 ?_
      refine lv_iconst hx hb dX7_follows_76 qI_5 ?_
      refine lv_iload_n hx hb dX7_follows_77 rfl (lv_at hl 3 rfl) ?_
      refine lv_imul hx hb dX7_follows_78 ?_
      refine lv_iconst hx hb dX7_follows_79 qI_1 ?_
      refine lv_iadd hx hb dX7_follows_80 ?_
      obtain ⟨g50, h⟩ := gd_some h
      refine g_ald X hW 2 rfl g50 dX7_follows_81 ?_
      refine lv_icmp_gt (tgt := 115) hx hb dX7_follows_82 (by decide) (fun c51 => ?_) (fun c51 => ?_)
      · have h := (if_pos c51).symm.trans h
        exact tX7_follows_115 X v1 v2 v3 v4 v5 k_6 Hk_6 h H locs hW ls (lv_sub hl [1, 2, 3, 4, 5, 6] rfl)
      · have h := (if_neg c51).symm.trans h
        refine lv_aload_n hx hb dX7_follows_85 rfl (lv_at hl 1 rfl) ?_
        refine g_get X hW eX7_follows_16 0 rfl rfl dX7_follows_86 ?_
        refine lv_iconst hx hb dX7_follows_89 qI_5 ?_
        refine lv_iload hx hb dX7_follows_90 (lv_at hl 6 rfl) ?_
        refine lv_imul hx hb dX7_follows_92 ?_
        refine lv_iconst hx hb dX7_follows_93 qI_1 ?_
        refine lv_iadd hx hb dX7_follows_94 ?_
        obtain ⟨g59, h⟩ := gd_some h
        refine g_ald X hW 2 rfl g59 dX7_follows_95 ?_
        refine lv_aload_n hx hb dX7_follows_96 rfl (lv_at hl 1 rfl) ?_
        refine g_get X hW eX7_follows_16 0 rfl rfl dX7_follows_97 ?_
        refine lv_iconst hx hb dX7_follows_100 qI_5 ?_
        refine lv_iload_n hx hb dX7_follows_101 rfl (lv_at hl 3 rfl) ?_
        refine lv_imul hx hb dX7_follows_102 ?_
        refine lv_iconst hx hb dX7_follows_103 qI_1 ?_
        refine lv_iadd hx hb dX7_follows_104 ?_
        obtain ⟨g67, h⟩ := gd_some h
        refine g_ald X hW 2 rfl g67 dX7_follows_105 ?_
        refine lv_icmp_ne (tgt := 119) hx hb dX7_follows_106 (by decide) (fun c68 => ?_) (fun c68 => ?_)
        · have h := (if_neg c68).symm.trans h
          exact tX7_follows_119 X v1 v2 v3 v4 v5 k_6 Hk_6 h H locs hW ls (lv_sub hl [1, 2, 3, 4, 5, 6] rfl)
        · have h := (if_pos c68).symm.trans h
          refine lv_iload hx hb dX7_follows_109 (lv_at hl 6 rfl) ?_
          refine lv_iload_n hx hb dX7_follows_111 rfl (lv_at hl 3 rfl) ?_
          refine lv_icmp_le (tgt := 119) hx hb dX7_follows_112 (by decide) (fun c71 => ?_) (fun c71 => ?_)
          · have h := (if_pos c71).symm.trans h
            exact tX7_follows_119 X v1 v2 v3 v4 v5 k_6 Hk_6 h H locs hW ls (lv_sub hl [1, 2, 3, 4, 5, 6] rfl)
          · have h := (if_neg c71).symm.trans h
            exact tX7_follows_115 X v1 v2 v3 v4 v5 k_6 Hk_6 h H locs hW ls (lv_sub hl [1, 2, 3, 4, 5, 6] rfl)
set_option maxHeartbeats 4000000 in
set_option maxRecDepth 100000 in
theorem tX7_follows_49 (X : Bx p s m args meth c cX7_follows 7 wsX7_follows RX7 (some .int)) (v1 : Int32) (v2 : Int32) (v3 : Int32) (v4 : Int32) (v5 : Int32) (k_6 : Int32 → Int32 → Option (Int32)) (Hk_6 : ∀ (v4 : Int32) (v5 : Int32), k_6 v4 v5 = some res → ∀ (H : Heap) (locs : List Loc), Wo G A s (wX7_follows G a_mo a_mo_numbers a_mo_words a_mo_boxes a_mo_weeks a_mo_routes a_mo_turns a_mo_leave a_mo_leases a_mo_uses a_mo_arcFrom a_mo_arcTo a_mo_arcRoom a_mo_arcCost a_mo_far a_mo_by a_mo_best a_mo_tape a_mo_kept m_arcs m_tapeMany m_tokenKind m_tokenAt m_tokenEnd m_tokenValue m_fault m_seen m_isKept m_place m_numbers m_words) H locs → ∀ ls : Array Slot, lv_has ls 7 [(0, .ref a_mo), (1, .int v1), (2, .int v2), (3, .int v3), (4, .int v4), (5, .int v5)] → W p l e rmX7_follows s m args below meth c H locs 0 0 (QI G A below args s res (wX7_follows G a_mo a_mo_numbers a_mo_words a_mo_boxes a_mo_weeks a_mo_routes a_mo_turns a_mo_leave a_mo_leases a_mo_uses a_mo_arcFrom a_mo_arcTo a_mo_arcRoom a_mo_arcCost a_mo_far a_mo_by a_mo_best a_mo_tape a_mo_kept m_arcs m_tapeMany m_tokenKind m_tokenAt m_tokenEnd m_tokenValue m_fault m_seen m_isKept m_place m_numbers m_words)) (F0 m 6 ls [])) (h : fX7_follows_49 k_6 v2 v4 v5 m_words = some res) : ∀ (H : Heap) (locs : List Loc), Wo G A s (wX7_follows G a_mo a_mo_numbers a_mo_words a_mo_boxes a_mo_weeks a_mo_routes a_mo_turns a_mo_leave a_mo_leases a_mo_uses a_mo_arcFrom a_mo_arcTo a_mo_arcRoom a_mo_arcCost a_mo_far a_mo_by a_mo_best a_mo_tape a_mo_kept m_arcs m_tapeMany m_tokenKind m_tokenAt m_tokenEnd m_tokenValue m_fault m_seen m_isKept m_place m_numbers m_words) H locs → ∀ ls : Array Slot, lv_has ls 7 [(0, .ref a_mo), (1, .int v1), (2, .int v2), (3, .int v3), (4, .int v4), (5, .int v5)] → W p l e rmX7_follows s m args below meth c H locs 0 0 (QI G A below args s res (wX7_follows G a_mo a_mo_numbers a_mo_words a_mo_boxes a_mo_weeks a_mo_routes a_mo_turns a_mo_leave a_mo_leases a_mo_uses a_mo_arcFrom a_mo_arcTo a_mo_arcRoom a_mo_arcCost a_mo_far a_mo_by a_mo_best a_mo_tape a_mo_kept m_arcs m_tapeMany m_tokenKind m_tokenAt m_tokenEnd m_tokenValue m_fault m_seen m_isKept m_place m_numbers m_words)) (F0 m 49 ls []) := by
  obtain ⟨hx, hb, -⟩ := id X.1
  intro H locs hW ls hl
  rw [fX7_follows_49] at h
  refine lv_iconst hx hb dX7_follows_49 qI_0 ?_
  exact tX7_follows_50 X v1 v2 v3 v4 v5 (0 : Int32) k_6 Hk_6 h H locs hW ls hl
set_option maxHeartbeats 4000000 in
set_option maxRecDepth 100000 in
theorem tX7_follows_6 (X : Bx p s m args meth c cX7_follows 7 wsX7_follows RX7 (some .int)) (v1 : Int32) (v2 : Int32) (v3 : Int32)   : ∀ (n : Nat) (v4 : Int32) (v5 : Int32), fX7_follows_6 v1 v2 v3 m_numbers m_words n v4 v5 = some res → ∀ (H : Heap) (locs : List Loc), Wo G A s (wX7_follows G a_mo a_mo_numbers a_mo_words a_mo_boxes a_mo_weeks a_mo_routes a_mo_turns a_mo_leave a_mo_leases a_mo_uses a_mo_arcFrom a_mo_arcTo a_mo_arcRoom a_mo_arcCost a_mo_far a_mo_by a_mo_best a_mo_tape a_mo_kept m_arcs m_tapeMany m_tokenKind m_tokenAt m_tokenEnd m_tokenValue m_fault m_seen m_isKept m_place m_numbers m_words) H locs → ∀ ls : Array Slot, lv_has ls 7 [(0, .ref a_mo), (1, .int v1), (2, .int v2), (3, .int v3), (4, .int v4), (5, .int v5)] → W p l e rmX7_follows s m args below meth c H locs 0 0 (QI G A below args s res (wX7_follows G a_mo a_mo_numbers a_mo_words a_mo_boxes a_mo_weeks a_mo_routes a_mo_turns a_mo_leave a_mo_leases a_mo_uses a_mo_arcFrom a_mo_arcTo a_mo_arcRoom a_mo_arcCost a_mo_far a_mo_by a_mo_best a_mo_tape a_mo_kept m_arcs m_tapeMany m_tokenKind m_tokenAt m_tokenEnd m_tokenValue m_fault m_seen m_isKept m_place m_numbers m_words)) (F0 m 6 ls []) := by
  obtain ⟨hx, hb, -⟩ := id X.1
  intro n
  induction n with
  | zero => intro v4 v5 h; rw [fX7_follows_6] at h; cases h
  | succ n ih =>
    intro v4 v5 h H locs hW ls hl
    rw [fX7_follows_6] at h
    refine lv_iload hx hb dX7_follows_6 (lv_at hl 5 rfl) ?_
    refine lv_aload_n hx hb dX7_follows_8 rfl (lv_at hl 0 rfl) ?_
    refine g_get X hW eX7_follows_7 0 rfl rfl dX7_follows_9 ?_
    refine lv_iconst hx hb dX7_follows_12 qI_2 ?_
    obtain ⟨g77, h⟩ := gd_some h
    refine g_ald X hW 1 rfl g77 dX7_follows_13 ?_
    refine lv_icmp_ge (tgt := 167) hx hb dX7_follows_14 (by decide) (fun c78 => ?_) (fun c78 => ?_)
    · have h := (if_pos c78).symm.trans h
      refine lv_iload hx hb dX7_follows_167 (lv_at hl 4 rfl) ?_
      obtain rfl := Option.some.inj h
      exact g_iret X hW dX7_follows_169
    · have h := (if_neg c78).symm.trans h
      refine lv_aload_n hx hb dX7_follows_17 rfl (lv_at hl 0 rfl) ?_
      refine g_get X hW eX7_follows_16 0 rfl rfl dX7_follows_18 ?_
      refine lv_iconst hx hb dX7_follows_21 qI_5 ?_
      refine lv_iload hx hb dX7_follows_22 (lv_at hl 5 rfl) ?_
      refine lv_imul hx hb dX7_follows_24 ?_
      obtain ⟨g86, h⟩ := gd_some h
      refine g_ald X hW 2 rfl g86 dX7_follows_25 ?_
      refine lv_iload_n hx hb dX7_follows_26 rfl (lv_at hl 1 rfl) ?_
      refine lv_icmp_ne (tgt := 49) hx hb dX7_follows_27 (by decide) (fun c88 => ?_) (fun c88 => ?_)
      · have h := (if_neg c88).symm.trans h
        exact tX7_follows_49 X v1 v2 v3 v4 v5 (fun v4 v5 => fX7_follows_6 v1 v2 v3 m_numbers m_words n v4 v5) ih h H locs hW ls hl
      · have h := (if_pos c88).symm.trans h
        refine lv_aload_n hx hb dX7_follows_30 rfl (lv_at hl 0 rfl) ?_
        refine g_get X hW eX7_follows_16 0 rfl rfl dX7_follows_31 ?_
        refine lv_iconst hx hb dX7_follows_34 qI_5 ?_
        refine lv_iload hx hb dX7_follows_35 (lv_at hl 5 rfl) ?_
        refine lv_imul hx hb dX7_follows_37 ?_
        refine lv_iconst hx hb dX7_follows_38 qI_4 ?_
        refine lv_iadd hx hb dX7_follows_39 ?_
        obtain ⟨g96, h⟩ := gd_some h
        refine g_ald X hW 2 rfl g96 dX7_follows_40 ?_
        refine lv_iload_n hx hb dX7_follows_41 rfl (lv_at hl 3 rfl) ?_
        refine lv_icmp_gt (tgt := 49) hx hb dX7_follows_42 (by decide) (fun c98 => ?_) (fun c98 => ?_)
        · have h := (if_pos c98).symm.trans h
          exact tX7_follows_49 X v1 v2 v3 v4 v5 (fun v4 v5 => fX7_follows_6 v1 v2 v3 m_numbers m_words n v4 v5) ih h H locs hW ls hl
        · have h := (if_neg c98).symm.trans h
          refine lv_iconst hx hb dX7_follows_45 qI_1 ?_
          refine lv_goto (tgt := 50) hx hb dX7_follows_46 (by decide) ?_
          exact tX7_follows_50 X v1 v2 v3 v4 v5 (1 : Int32) (fun v4 v5 => fX7_follows_6 v1 v2 v3 m_numbers m_words n v4 v5) ih h H locs hW ls hl
set_option maxHeartbeats 4000000 in
set_option maxRecDepth 100000 in
theorem k0X7_follows {l : Launch} (G : Gt) (a_mo a_mo_numbers a_mo_words a_mo_boxes a_mo_weeks a_mo_routes a_mo_turns a_mo_leave a_mo_leases a_mo_uses a_mo_arcFrom a_mo_arcTo a_mo_arcRoom a_mo_arcCost a_mo_far a_mo_by a_mo_best a_mo_tape a_mo_kept : Nat) (v1 : Int32) (v2 : Int32) (v3 : Int32) (m_arcs : Int32) (m_tapeMany : Int32) (m_tokenKind : Int32) (m_tokenAt : Int32) (m_tokenEnd : Int32) (m_tokenValue : Int32) (m_fault : Int32) (m_seen : Int32) (m_isKept : Int32) (m_place : Int32) (m_numbers : (Nat → Int32)) (m_words : (Nat → Int32)) {res : Int32} (h : fX7_follows v1 v2 v3 m_numbers m_words = some res) : CtI G l yX7_follows wsX7_follows rmX7_follows [.ref a_mo, .int v1, .int v2, .int v3] (wX7_follows G a_mo a_mo_numbers a_mo_words a_mo_boxes a_mo_weeks a_mo_routes a_mo_turns a_mo_leave a_mo_leases a_mo_uses a_mo_arcFrom a_mo_arcTo a_mo_arcRoom a_mo_arcCost a_mo_far a_mo_by a_mo_best a_mo_tape a_mo_kept m_arcs m_tapeMany m_tokenKind m_tokenAt m_tokenEnd m_tokenValue m_fault m_seen m_isKept m_place m_numbers m_words) res (wX7_follows G a_mo a_mo_numbers a_mo_words a_mo_boxes a_mo_weeks a_mo_routes a_mo_turns a_mo_leave a_mo_leases a_mo_uses a_mo_arcFrom a_mo_arcTo a_mo_arcRoom a_mo_arcCost a_mo_far a_mo_by a_mo_best a_mo_tape a_mo_kept m_arcs m_tapeMany m_tokenKind m_tokenAt m_tokenEnd m_tokenValue m_fault m_seen m_isKept m_place m_numbers m_words) := by
  refine CtI.mk (cc := cX7_follows) (maxL := 7) (ret := (some .int)) (own := RX7) (by decide) rfl rfl (Nat.le_of_ble_eq_true rfl) ?_
  intro p e s m below meth c A X ls hl hW
  obtain ⟨hx, hb, -⟩ := id X.1
  have hl : lv_has ls 7 [(0, .ref a_mo), (1, .int v1), (2, .int v2), (3, .int v3)] := hl
  generalize hH : s.heap = H at hW ⊢
  generalize hLo : ([] : List Loc) = locs at hW ⊢
  rw [fX7_follows] at h
  refine lv_iconst hx hb dX7_follows_0 qI_m1 ?_
  refine lv_istore (lv' := [(4, .int (-1 : Int32)), (0, .ref a_mo), (1, .int v1), (2, .int v2), (3, .int v3)]) hx hb dX7_follows_1 hl (by decide) rfl (fun ls hl => ?_)
  refine lv_iconst hx hb dX7_follows_3 qI_0 ?_
  refine lv_istore (lv' := [(5, .int (0 : Int32)), (4, .int (-1 : Int32)), (0, .ref a_mo), (1, .int v1), (2, .int v2), (3, .int v3)]) hx hb dX7_follows_4 hl (by decide) rfl (fun ls hl => ?_)
  exact tX7_follows_6 X v1 v2 v3 FU (-1 : Int32) (0 : Int32) h H locs hW ls (lv_sub hl [2, 3, 4, 5, 1, 0] rfl)
theorem kcX7_follows {l : Launch} (G : Gt) (a_mo a_mo_numbers a_mo_words a_mo_boxes a_mo_weeks a_mo_routes a_mo_turns a_mo_leave a_mo_leases a_mo_uses a_mo_arcFrom a_mo_arcTo a_mo_arcRoom a_mo_arcCost a_mo_far a_mo_by a_mo_best a_mo_tape a_mo_kept : Nat) (v1 : Int32) (v2 : Int32) (v3 : Int32) (m_arcs : Int32) (m_tapeMany : Int32) (m_tokenKind : Int32) (m_tokenAt : Int32) (m_tokenEnd : Int32) (m_tokenValue : Int32) (m_fault : Int32) (m_seen : Int32) (m_isKept : Int32) (m_place : Int32) (m_numbers : (Nat → Int32)) (m_words : (Nat → Int32)) {r : Int32}  (h : fX7_follows v1 v2 v3 m_numbers m_words = some r) : CtI G l yX7_follows wsX7_follows rmX7_follows [.ref a_mo, .int v1, .int v2, .int v3] (wX7_follows G a_mo a_mo_numbers a_mo_words a_mo_boxes a_mo_weeks a_mo_routes a_mo_turns a_mo_leave a_mo_leases a_mo_uses a_mo_arcFrom a_mo_arcTo a_mo_arcRoom a_mo_arcCost a_mo_far a_mo_by a_mo_best a_mo_tape a_mo_kept m_arcs m_tapeMany m_tokenKind m_tokenAt m_tokenEnd m_tokenValue m_fault m_seen m_isKept m_place m_numbers m_words) r (wX7_follows G a_mo a_mo_numbers a_mo_words a_mo_boxes a_mo_weeks a_mo_routes a_mo_turns a_mo_leave a_mo_leases a_mo_uses a_mo_arcFrom a_mo_arcTo a_mo_arcRoom a_mo_arcCost a_mo_far a_mo_by a_mo_best a_mo_tape a_mo_kept m_arcs m_tapeMany m_tokenKind m_tokenAt m_tokenEnd m_tokenValue m_fault m_seen m_isKept m_place m_numbers m_words) := k0X7_follows G a_mo a_mo_numbers a_mo_words a_mo_boxes a_mo_weeks a_mo_routes a_mo_turns a_mo_leave a_mo_leases a_mo_uses a_mo_arcFrom a_mo_arcTo a_mo_arcRoom a_mo_arcCost a_mo_far a_mo_by a_mo_best a_mo_tape a_mo_kept v1 v2 v3 m_arcs m_tapeMany m_tokenKind m_tokenAt m_tokenEnd m_tokenValue m_fault m_seen m_isKept m_place m_numbers m_words h
end MX7_follows
/-! EmptyBoxesModel.quarrels -/
section MX7_quarrels
theorem hdX7_quarrels : yX7_quarrels.cls = RX7 ∧ yX7_quarrels.cls ≠ "java/lang/invoke/MethodHandle" ∧ yX7_quarrels.cls ≠ "java/lang/invoke/VarHandle" ∧ (parseMethodDescriptor yX7_quarrels.desc).map (fun d => d.parameters.length) = some 2 := by decide +kernel
abbrev wX7_quarrels (G : Gt) (a_mo a_mo_numbers a_mo_words a_mo_boxes a_mo_weeks a_mo_routes a_mo_turns a_mo_leave a_mo_leases a_mo_uses a_mo_arcFrom a_mo_arcTo a_mo_arcRoom a_mo_arcCost a_mo_far a_mo_by a_mo_best a_mo_tape a_mo_kept : Nat) (m_arcs : Int32) (m_tapeMany : Int32) (m_tokenKind : Int32) (m_tokenAt : Int32) (m_tokenEnd : Int32) (m_tokenValue : Int32) (m_fault : Int32) (m_seen : Int32) (m_isKept : Int32) (m_place : Int32) (m_numbers : (Nat → Int32)) (m_words : (Nat → Int32)) : va_W := [(a_mo, .inr (7, [.ref a_mo_numbers, .ref a_mo_boxes, .ref a_mo_words, .ref a_mo_weeks, .ref a_mo_routes, .ref a_mo_turns, .ref a_mo_leave, .ref a_mo_leases, .ref a_mo_uses, .ref a_mo_arcFrom, .ref a_mo_arcTo, .ref a_mo_arcRoom, .ref a_mo_arcCost, .int m_arcs, .ref a_mo_far, .ref a_mo_by, .ref a_mo_best, .ref a_mo_tape, .int m_tapeMany, .int m_tokenKind, .int m_tokenAt, .int m_tokenEnd, .int m_tokenValue, .int m_fault, .int m_seen, .int m_isKept, .ref a_mo_kept, .int m_place])), (a_mo_numbers, .inl (G.2.1, 10, .inl m_numbers)), (a_mo_words, .inl (G.2.1, 300, .inl m_words))]
abbrev rmX7_quarrels : Room := { frames := 2, cells := 0, slots := 0, locals := 43 }
theorem iX7_quarrels_X7 : ∀ w ∈ wsX70, w ∈ wsX7_quarrels := by decide +kernel
theorem eX7_quarrels_16 : Fk wsX7_quarrels RX7 16 7 2 := ⟨RX7, TX7, 28, rfl, iX7_quarrels_X7, by decide, by decide +kernel⟩
theorem ckX7_quarrels_X7_follows_103 : CkV wsX7_quarrels RX7 103 yX7_follows wsX7_follows cX7_follows 7 (some .int) 3 7 := ⟨RX7, TX7, 28, _, rfl, gX7_quarrels_X7_follows, rfl, hdX7_follows⟩
theorem ckX7_quarrels_X7_isBox_84 : CkV wsX7_quarrels RX7 84 yX7_isBox wsX7_isBox cX7_isBox 2 (some .boolean) 1 7 := ⟨RX7, TX7, 28, _, rfl, gX7_quarrels_X7_isBox, rfl, hdX7_isBox⟩
theorem ckX7_quarrels_X7_isPast_87 : CkV wsX7_quarrels RX7 87 yX7_isPast wsX7_isPast cX7_isPast 2 (some .boolean) 1 7 := ⟨RX7, TX7, 28, _, rfl, gX7_quarrels_X7_isPast, rfl, hdX7_isPast⟩
variable {p : Program} {l : Launch} {e : Env} {s : State} {m : MethodId} {args : Array Value} {below : List Frame} {meth : Method} {c : Code} {A : Nat → Prop} {G : Gt} {a_mo a_mo_numbers a_mo_words a_mo_boxes a_mo_weeks a_mo_routes a_mo_turns a_mo_leave a_mo_leases a_mo_uses a_mo_arcFrom a_mo_arcTo a_mo_arcRoom a_mo_arcCost a_mo_far a_mo_by a_mo_best a_mo_tape a_mo_kept : Nat} {m_arcs : Int32} {m_tapeMany : Int32} {m_tokenKind : Int32} {m_tokenAt : Int32} {m_tokenEnd : Int32} {m_tokenValue : Int32} {m_fault : Int32} {m_seen : Int32} {m_isKept : Int32} {m_place : Int32} {m_numbers : (Nat → Int32)} {m_words : (Nat → Int32)} {res : Int32}
set_option maxHeartbeats 4000000 in
set_option maxRecDepth 100000 in
theorem tX7_quarrels_150 (X : Bx p s m args meth c cX7_quarrels 8 wsX7_quarrels RX7 (some .int)) (v1 : Int32) (v2 : Int32) (v3 : Int32) (v5 : Int32) (k_29 : Int32 → Int32 → Option (Int32)) (Hk_29 : ∀ (v3 : Int32) (v4 : Int32), k_29 v3 v4 = some res → ∀ (H : Heap) (locs : List Loc), Wo G A s (wX7_quarrels G a_mo a_mo_numbers a_mo_words a_mo_boxes a_mo_weeks a_mo_routes a_mo_turns a_mo_leave a_mo_leases a_mo_uses a_mo_arcFrom a_mo_arcTo a_mo_arcRoom a_mo_arcCost a_mo_far a_mo_by a_mo_best a_mo_tape a_mo_kept m_arcs m_tapeMany m_tokenKind m_tokenAt m_tokenEnd m_tokenValue m_fault m_seen m_isKept m_place m_numbers m_words) H locs → ∀ ls : Array Slot, lv_has ls 8 [(0, .ref a_mo), (1, .int v1), (2, .int v2), (3, .int v3), (4, .int v4)] → W p l e rmX7_quarrels s m args below meth c H locs 0 0 (QI G A below args s res (wX7_quarrels G a_mo a_mo_numbers a_mo_words a_mo_boxes a_mo_weeks a_mo_routes a_mo_turns a_mo_leave a_mo_leases a_mo_uses a_mo_arcFrom a_mo_arcTo a_mo_arcRoom a_mo_arcCost a_mo_far a_mo_by a_mo_best a_mo_tape a_mo_kept m_arcs m_tapeMany m_tokenKind m_tokenAt m_tokenEnd m_tokenValue m_fault m_seen m_isKept m_place m_numbers m_words)) (F0 m 29 ls [])) (h : fX7_quarrels_150 k_29 v3 v5 = some res) : ∀ (H : Heap) (locs : List Loc), Wo G A s (wX7_quarrels G a_mo a_mo_numbers a_mo_words a_mo_boxes a_mo_weeks a_mo_routes a_mo_turns a_mo_leave a_mo_leases a_mo_uses a_mo_arcFrom a_mo_arcTo a_mo_arcRoom a_mo_arcCost a_mo_far a_mo_by a_mo_best a_mo_tape a_mo_kept m_arcs m_tapeMany m_tokenKind m_tokenAt m_tokenEnd m_tokenValue m_fault m_seen m_isKept m_place m_numbers m_words) H locs → ∀ ls : Array Slot, lv_has ls 8 [(0, .ref a_mo), (1, .int v1), (2, .int v2), (3, .int v3), (5, .int v5)] → W p l e rmX7_quarrels s m args below meth c H locs 0 0 (QI G A below args s res (wX7_quarrels G a_mo a_mo_numbers a_mo_words a_mo_boxes a_mo_weeks a_mo_routes a_mo_turns a_mo_leave a_mo_leases a_mo_uses a_mo_arcFrom a_mo_arcTo a_mo_arcRoom a_mo_arcCost a_mo_far a_mo_by a_mo_best a_mo_tape a_mo_kept m_arcs m_tapeMany m_tokenKind m_tokenAt m_tokenEnd m_tokenValue m_fault m_seen m_isKept m_place m_numbers m_words)) (F0 m 150 ls []) := by
  obtain ⟨hx, hb, -⟩ := id X.1
  intro H locs hW ls hl
  rw [fX7_quarrels_150] at h
  refine lv_iload hx hb dX7_quarrels_150 (lv_at hl 4 rfl) ?_
  refine lv_istore (lv' := [(4, .int v5), (0, .ref a_mo), (1, .int v1), (2, .int v2), (3, .int v3), (5, .int v5)]) hx hb dX7_quarrels_152 hl (by decide) rfl (fun ls hl => ?_)
  refine lv_goto (tgt := 29) hx hb dX7_quarrels_154 (by decide) ?_
  exact Hk_29 v3 v5 h H locs hW ls (lv_sub hl [1, 2, 3, 4, 0] rfl)
set_option maxHeartbeats 4000000 in
set_option maxRecDepth 100000 in
theorem tX7_quarrels_148 (X : Bx p s m args meth c cX7_quarrels 8 wsX7_quarrels RX7 (some .int)) (v1 : Int32) (v2 : Int32) (v5 : Int32) (t0 : Int32) (t1 : Int32) (k_29 : Int32 → Int32 → Option (Int32)) (Hk_29 : ∀ (v3 : Int32) (v4 : Int32), k_29 v3 v4 = some res → ∀ (H : Heap) (locs : List Loc), Wo G A s (wX7_quarrels G a_mo a_mo_numbers a_mo_words a_mo_boxes a_mo_weeks a_mo_routes a_mo_turns a_mo_leave a_mo_leases a_mo_uses a_mo_arcFrom a_mo_arcTo a_mo_arcRoom a_mo_arcCost a_mo_far a_mo_by a_mo_best a_mo_tape a_mo_kept m_arcs m_tapeMany m_tokenKind m_tokenAt m_tokenEnd m_tokenValue m_fault m_seen m_isKept m_place m_numbers m_words) H locs → ∀ ls : Array Slot, lv_has ls 8 [(0, .ref a_mo), (1, .int v1), (2, .int v2), (3, .int v3), (4, .int v4)] → W p l e rmX7_quarrels s m args below meth c H locs 0 0 (QI G A below args s res (wX7_quarrels G a_mo a_mo_numbers a_mo_words a_mo_boxes a_mo_weeks a_mo_routes a_mo_turns a_mo_leave a_mo_leases a_mo_uses a_mo_arcFrom a_mo_arcTo a_mo_arcRoom a_mo_arcCost a_mo_far a_mo_by a_mo_best a_mo_tape a_mo_kept m_arcs m_tapeMany m_tokenKind m_tokenAt m_tokenEnd m_tokenValue m_fault m_seen m_isKept m_place m_numbers m_words)) (F0 m 29 ls [])) (h : fX7_quarrels_148 k_29 v5 t0 t1 = some res) : ∀ (H : Heap) (locs : List Loc), Wo G A s (wX7_quarrels G a_mo a_mo_numbers a_mo_words a_mo_boxes a_mo_weeks a_mo_routes a_mo_turns a_mo_leave a_mo_leases a_mo_uses a_mo_arcFrom a_mo_arcTo a_mo_arcRoom a_mo_arcCost a_mo_far a_mo_by a_mo_best a_mo_tape a_mo_kept m_arcs m_tapeMany m_tokenKind m_tokenAt m_tokenEnd m_tokenValue m_fault m_seen m_isKept m_place m_numbers m_words) H locs → ∀ ls : Array Slot, lv_has ls 8 [(0, .ref a_mo), (1, .int v1), (2, .int v2), (5, .int v5)] → W p l e rmX7_quarrels s m args below meth c H locs 0 0 (QI G A below args s res (wX7_quarrels G a_mo a_mo_numbers a_mo_words a_mo_boxes a_mo_weeks a_mo_routes a_mo_turns a_mo_leave a_mo_leases a_mo_uses a_mo_arcFrom a_mo_arcTo a_mo_arcRoom a_mo_arcCost a_mo_far a_mo_by a_mo_best a_mo_tape a_mo_kept m_arcs m_tapeMany m_tokenKind m_tokenAt m_tokenEnd m_tokenValue m_fault m_seen m_isKept m_place m_numbers m_words)) (F0 m 148 ls [.int t1, .int t0]) := by
  obtain ⟨hx, hb, -⟩ := id X.1
  intro H locs hW ls hl
  rw [fX7_quarrels_148] at h
  refine lv_iadd hx hb dX7_quarrels_148 ?_
  refine lv_istore_n (lv' := [(3, .int (t0 + t1)), (0, .ref a_mo), (1, .int v1), (2, .int v2), (5, .int v5)]) hx hb dX7_quarrels_149 rfl hl (by decide) rfl (fun ls hl => ?_)
  exact tX7_quarrels_150 X v1 v2 (t0 + t1) v5 k_29 Hk_29 h H locs hW ls (lv_sub hl [1, 2, 3, 0, 4] rfl)
set_option maxHeartbeats 4000000 in
set_option maxRecDepth 100000 in
theorem tX7_quarrels_143 (X : Bx p s m args meth c cX7_quarrels 8 wsX7_quarrels RX7 (some .int)) (v1 : Int32) (v2 : Int32) (v5 : Int32) (t0 : Int32) (k_29 : Int32 → Int32 → Option (Int32)) (Hk_29 : ∀ (v3 : Int32) (v4 : Int32), k_29 v3 v4 = some res → ∀ (H : Heap) (locs : List Loc), Wo G A s (wX7_quarrels G a_mo a_mo_numbers a_mo_words a_mo_boxes a_mo_weeks a_mo_routes a_mo_turns a_mo_leave a_mo_leases a_mo_uses a_mo_arcFrom a_mo_arcTo a_mo_arcRoom a_mo_arcCost a_mo_far a_mo_by a_mo_best a_mo_tape a_mo_kept m_arcs m_tapeMany m_tokenKind m_tokenAt m_tokenEnd m_tokenValue m_fault m_seen m_isKept m_place m_numbers m_words) H locs → ∀ ls : Array Slot, lv_has ls 8 [(0, .ref a_mo), (1, .int v1), (2, .int v2), (3, .int v3), (4, .int v4)] → W p l e rmX7_quarrels s m args below meth c H locs 0 0 (QI G A below args s res (wX7_quarrels G a_mo a_mo_numbers a_mo_words a_mo_boxes a_mo_weeks a_mo_routes a_mo_turns a_mo_leave a_mo_leases a_mo_uses a_mo_arcFrom a_mo_arcTo a_mo_arcRoom a_mo_arcCost a_mo_far a_mo_by a_mo_best a_mo_tape a_mo_kept m_arcs m_tapeMany m_tokenKind m_tokenAt m_tokenEnd m_tokenValue m_fault m_seen m_isKept m_place m_numbers m_words)) (F0 m 29 ls [])) (h : fX7_quarrels_143 k_29 v5 t0 = some res) : ∀ (H : Heap) (locs : List Loc), Wo G A s (wX7_quarrels G a_mo a_mo_numbers a_mo_words a_mo_boxes a_mo_weeks a_mo_routes a_mo_turns a_mo_leave a_mo_leases a_mo_uses a_mo_arcFrom a_mo_arcTo a_mo_arcRoom a_mo_arcCost a_mo_far a_mo_by a_mo_best a_mo_tape a_mo_kept m_arcs m_tapeMany m_tokenKind m_tokenAt m_tokenEnd m_tokenValue m_fault m_seen m_isKept m_place m_numbers m_words) H locs → ∀ ls : Array Slot, lv_has ls 8 [(0, .ref a_mo), (1, .int v1), (2, .int v2), (5, .int v5)] → W p l e rmX7_quarrels s m args below meth c H locs 0 0 (QI G A below args s res (wX7_quarrels G a_mo a_mo_numbers a_mo_words a_mo_boxes a_mo_weeks a_mo_routes a_mo_turns a_mo_leave a_mo_leases a_mo_uses a_mo_arcFrom a_mo_arcTo a_mo_arcRoom a_mo_arcCost a_mo_far a_mo_by a_mo_best a_mo_tape a_mo_kept m_arcs m_tapeMany m_tokenKind m_tokenAt m_tokenEnd m_tokenValue m_fault m_seen m_isKept m_place m_numbers m_words)) (F0 m 143 ls [.int t0]) := by
  obtain ⟨hx, hb, -⟩ := id X.1
  intro H locs hW ls hl
  rw [fX7_quarrels_143] at h
  refine lv_iconst hx hb dX7_quarrels_143 qI_1 ?_
  refine lv_goto (tgt := 148) hx hb dX7_quarrels_144 (by decide) ?_
  exact tX7_quarrels_148 X v1 v2 v5 t0 (1 : Int32) k_29 Hk_29 h H locs hW ls hl
set_option maxHeartbeats 4000000 in
set_option maxRecDepth 100000 in
theorem tX7_quarrels_147 (X : Bx p s m args meth c cX7_quarrels 8 wsX7_quarrels RX7 (some .int)) (v1 : Int32) (v2 : Int32) (v5 : Int32) (t0 : Int32) (k_29 : Int32 → Int32 → Option (Int32)) (Hk_29 : ∀ (v3 : Int32) (v4 : Int32), k_29 v3 v4 = some res → ∀ (H : Heap) (locs : List Loc), Wo G A s (wX7_quarrels G a_mo a_mo_numbers a_mo_words a_mo_boxes a_mo_weeks a_mo_routes a_mo_turns a_mo_leave a_mo_leases a_mo_uses a_mo_arcFrom a_mo_arcTo a_mo_arcRoom a_mo_arcCost a_mo_far a_mo_by a_mo_best a_mo_tape a_mo_kept m_arcs m_tapeMany m_tokenKind m_tokenAt m_tokenEnd m_tokenValue m_fault m_seen m_isKept m_place m_numbers m_words) H locs → ∀ ls : Array Slot, lv_has ls 8 [(0, .ref a_mo), (1, .int v1), (2, .int v2), (3, .int v3), (4, .int v4)] → W p l e rmX7_quarrels s m args below meth c H locs 0 0 (QI G A below args s res (wX7_quarrels G a_mo a_mo_numbers a_mo_words a_mo_boxes a_mo_weeks a_mo_routes a_mo_turns a_mo_leave a_mo_leases a_mo_uses a_mo_arcFrom a_mo_arcTo a_mo_arcRoom a_mo_arcCost a_mo_far a_mo_by a_mo_best a_mo_tape a_mo_kept m_arcs m_tapeMany m_tokenKind m_tokenAt m_tokenEnd m_tokenValue m_fault m_seen m_isKept m_place m_numbers m_words)) (F0 m 29 ls [])) (h : fX7_quarrels_147 k_29 v5 t0 = some res) : ∀ (H : Heap) (locs : List Loc), Wo G A s (wX7_quarrels G a_mo a_mo_numbers a_mo_words a_mo_boxes a_mo_weeks a_mo_routes a_mo_turns a_mo_leave a_mo_leases a_mo_uses a_mo_arcFrom a_mo_arcTo a_mo_arcRoom a_mo_arcCost a_mo_far a_mo_by a_mo_best a_mo_tape a_mo_kept m_arcs m_tapeMany m_tokenKind m_tokenAt m_tokenEnd m_tokenValue m_fault m_seen m_isKept m_place m_numbers m_words) H locs → ∀ ls : Array Slot, lv_has ls 8 [(0, .ref a_mo), (1, .int v1), (2, .int v2), (5, .int v5)] → W p l e rmX7_quarrels s m args below meth c H locs 0 0 (QI G A below args s res (wX7_quarrels G a_mo a_mo_numbers a_mo_words a_mo_boxes a_mo_weeks a_mo_routes a_mo_turns a_mo_leave a_mo_leases a_mo_uses a_mo_arcFrom a_mo_arcTo a_mo_arcRoom a_mo_arcCost a_mo_far a_mo_by a_mo_best a_mo_tape a_mo_kept m_arcs m_tapeMany m_tokenKind m_tokenAt m_tokenEnd m_tokenValue m_fault m_seen m_isKept m_place m_numbers m_words)) (F0 m 147 ls [.int t0]) := by
  obtain ⟨hx, hb, -⟩ := id X.1
  intro H locs hW ls hl
  rw [fX7_quarrels_147] at h
  refine lv_iconst hx hb dX7_quarrels_147 qI_0 ?_
  exact tX7_quarrels_148 X v1 v2 v5 t0 (0 : Int32) k_29 Hk_29 h H locs hW ls hl
set_option maxHeartbeats 4000000 in
set_option maxRecDepth 100000 in
theorem tX7_quarrels_116 (X : Bx p s m args meth c cX7_quarrels 8 wsX7_quarrels RX7 (some .int)) (v1 : Int32) (v2 : Int32) (v3 : Int32) (v4 : Int32) (v5 : Int32) (v6 : Int32) (t0 : Int32) (k_29 : Int32 → Int32 → Option (Int32)) (Hk_29 : ∀ (v3 : Int32) (v4 : Int32), k_29 v3 v4 = some res → ∀ (H : Heap) (locs : List Loc), Wo G A s (wX7_quarrels G a_mo a_mo_numbers a_mo_words a_mo_boxes a_mo_weeks a_mo_routes a_mo_turns a_mo_leave a_mo_leases a_mo_uses a_mo_arcFrom a_mo_arcTo a_mo_arcRoom a_mo_arcCost a_mo_far a_mo_by a_mo_best a_mo_tape a_mo_kept m_arcs m_tapeMany m_tokenKind m_tokenAt m_tokenEnd m_tokenValue m_fault m_seen m_isKept m_place m_numbers m_words) H locs → ∀ ls : Array Slot, lv_has ls 8 [(0, .ref a_mo), (1, .int v1), (2, .int v2), (3, .int v3), (4, .int v4)] → W p l e rmX7_quarrels s m args below meth c H locs 0 0 (QI G A below args s res (wX7_quarrels G a_mo a_mo_numbers a_mo_words a_mo_boxes a_mo_weeks a_mo_routes a_mo_turns a_mo_leave a_mo_leases a_mo_uses a_mo_arcFrom a_mo_arcTo a_mo_arcRoom a_mo_arcCost a_mo_far a_mo_by a_mo_best a_mo_tape a_mo_kept m_arcs m_tapeMany m_tokenKind m_tokenAt m_tokenEnd m_tokenValue m_fault m_seen m_isKept m_place m_numbers m_words)) (F0 m 29 ls [])) (h : fX7_quarrels_116 k_29 v3 v4 v5 v6 t0 m_words = some res) : ∀ (H : Heap) (locs : List Loc), Wo G A s (wX7_quarrels G a_mo a_mo_numbers a_mo_words a_mo_boxes a_mo_weeks a_mo_routes a_mo_turns a_mo_leave a_mo_leases a_mo_uses a_mo_arcFrom a_mo_arcTo a_mo_arcRoom a_mo_arcCost a_mo_far a_mo_by a_mo_best a_mo_tape a_mo_kept m_arcs m_tapeMany m_tokenKind m_tokenAt m_tokenEnd m_tokenValue m_fault m_seen m_isKept m_place m_numbers m_words) H locs → ∀ ls : Array Slot, lv_has ls 8 [(0, .ref a_mo), (1, .int v1), (2, .int v2), (3, .int v3), (4, .int v4), (5, .int v5), (6, .int v6)] → W p l e rmX7_quarrels s m args below meth c H locs 0 0 (QI G A below args s res (wX7_quarrels G a_mo a_mo_numbers a_mo_words a_mo_boxes a_mo_weeks a_mo_routes a_mo_turns a_mo_leave a_mo_leases a_mo_uses a_mo_arcFrom a_mo_arcTo a_mo_arcRoom a_mo_arcCost a_mo_far a_mo_by a_mo_best a_mo_tape a_mo_kept m_arcs m_tapeMany m_tokenKind m_tokenAt m_tokenEnd m_tokenValue m_fault m_seen m_isKept m_place m_numbers m_words)) (F0 m 116 ls [.int t0]) := by
  obtain ⟨hx, hb, -⟩ := id X.1
  intro H locs hW ls hl
  rw [fX7_quarrels_116] at h
  refine lv_istore (lv' := [(7, .int t0), (0, .ref a_mo), (1, .int v1), (2, .int v2), (3, .int v3), (4, .int v4), (5, .int v5), (6, .int v6)]) hx hb dX7_quarrels_116 hl (by decide) rfl (fun ls hl => ?_)
  refine lv_iload_n hx hb dX7_quarrels_118 rfl (lv_at hl 4 rfl) ?_
  refine lv_iload hx hb dX7_quarrels_119 (lv_at hl 0 rfl) ?_
  refine lv_if_ne (tgt := 143) hx hb dX7_quarrels_121 (by decide) (fun c12 => ?_) (fun c12 => ?_)
  · have h := (if_neg c12).symm.trans h
    exact tX7_quarrels_143 X v1 v2 v5 v3 k_29 Hk_29 h H locs hW ls (lv_sub hl [1, 2, 3, 6] rfl)
  · have h := (if_pos c12).symm.trans h
    refine lv_aload_n hx hb dX7_quarrels_124 rfl (lv_at hl 1 rfl) ?_
    refine g_get X hW eX7_quarrels_16 0 rfl rfl dX7_quarrels_125 ?_
    refine lv_iconst hx hb dX7_quarrels_128 qI_5 ?_
    refine lv_iload hx hb dX7_quarrels_129 (lv_at hl 5 rfl) ?_
    refine lv_imul hx hb dX7_quarrels_131 ?_
    refine lv_iconst hx hb dX7_quarrels_132 qI_3 ?_
    refine lv_iadd hx hb dX7_quarrels_133 ?_
    obtain ⟨g20, h⟩ := gd_some h
    refine g_ald X hW 2 rfl g20 dX7_quarrels_134 ?_
    refine lv_if_ne (tgt := 147) hx hb dX7_quarrels_135 (by decide) (fun c21 => ?_) (fun c21 => ?_)
    · have h := (if_neg c21).symm.trans h
      exact tX7_quarrels_147 X v1 v2 v5 v3 k_29 Hk_29 h H locs hW ls (lv_sub hl [1, 2, 3, 6] rfl)
    · have h := (if_pos c21).symm.trans h
      refine lv_iload hx hb dX7_quarrels_138 (lv_at hl 7 rfl) ?_
      refine lv_if_eq (tgt := 147) hx hb dX7_quarrels_140 (by decide) (fun c23 => ?_) (fun c23 => ?_)
      · have h := (if_pos c23).symm.trans h
        exact tX7_quarrels_147 X v1 v2 v5 v3 k_29 Hk_29 h H locs hW ls (lv_sub hl [1, 2, 3, 6] rfl)
      · have h := (if_neg c23).symm.trans h
        exact tX7_quarrels_143 X v1 v2 v5 v3 k_29 Hk_29 h H locs hW ls (lv_sub hl [1, 2, 3, 6] rfl)
set_option maxHeartbeats 4000000 in
set_option maxRecDepth 100000 in
theorem tX7_quarrels_115 (X : Bx p s m args meth c cX7_quarrels 8 wsX7_quarrels RX7 (some .int)) (v1 : Int32) (v2 : Int32) (v3 : Int32) (v4 : Int32) (v5 : Int32) (v6 : Int32) (k_29 : Int32 → Int32 → Option (Int32)) (Hk_29 : ∀ (v3 : Int32) (v4 : Int32), k_29 v3 v4 = some res → ∀ (H : Heap) (locs : List Loc), Wo G A s (wX7_quarrels G a_mo a_mo_numbers a_mo_words a_mo_boxes a_mo_weeks a_mo_routes a_mo_turns a_mo_leave a_mo_leases a_mo_uses a_mo_arcFrom a_mo_arcTo a_mo_arcRoom a_mo_arcCost a_mo_far a_mo_by a_mo_best a_mo_tape a_mo_kept m_arcs m_tapeMany m_tokenKind m_tokenAt m_tokenEnd m_tokenValue m_fault m_seen m_isKept m_place m_numbers m_words) H locs → ∀ ls : Array Slot, lv_has ls 8 [(0, .ref a_mo), (1, .int v1), (2, .int v2), (3, .int v3), (4, .int v4)] → W p l e rmX7_quarrels s m args below meth c H locs 0 0 (QI G A below args s res (wX7_quarrels G a_mo a_mo_numbers a_mo_words a_mo_boxes a_mo_weeks a_mo_routes a_mo_turns a_mo_leave a_mo_leases a_mo_uses a_mo_arcFrom a_mo_arcTo a_mo_arcRoom a_mo_arcCost a_mo_far a_mo_by a_mo_best a_mo_tape a_mo_kept m_arcs m_tapeMany m_tokenKind m_tokenAt m_tokenEnd m_tokenValue m_fault m_seen m_isKept m_place m_numbers m_words)) (F0 m 29 ls [])) (h : fX7_quarrels_115 k_29 v3 v4 v5 v6 m_words = some res) : ∀ (H : Heap) (locs : List Loc), Wo G A s (wX7_quarrels G a_mo a_mo_numbers a_mo_words a_mo_boxes a_mo_weeks a_mo_routes a_mo_turns a_mo_leave a_mo_leases a_mo_uses a_mo_arcFrom a_mo_arcTo a_mo_arcRoom a_mo_arcCost a_mo_far a_mo_by a_mo_best a_mo_tape a_mo_kept m_arcs m_tapeMany m_tokenKind m_tokenAt m_tokenEnd m_tokenValue m_fault m_seen m_isKept m_place m_numbers m_words) H locs → ∀ ls : Array Slot, lv_has ls 8 [(0, .ref a_mo), (1, .int v1), (2, .int v2), (3, .int v3), (4, .int v4), (5, .int v5), (6, .int v6)] → W p l e rmX7_quarrels s m args below meth c H locs 0 0 (QI G A below args s res (wX7_quarrels G a_mo a_mo_numbers a_mo_words a_mo_boxes a_mo_weeks a_mo_routes a_mo_turns a_mo_leave a_mo_leases a_mo_uses a_mo_arcFrom a_mo_arcTo a_mo_arcRoom a_mo_arcCost a_mo_far a_mo_by a_mo_best a_mo_tape a_mo_kept m_arcs m_tapeMany m_tokenKind m_tokenAt m_tokenEnd m_tokenValue m_fault m_seen m_isKept m_place m_numbers m_words)) (F0 m 115 ls []) := by
  obtain ⟨hx, hb, -⟩ := id X.1
  intro H locs hW ls hl
  rw [fX7_quarrels_115] at h
  refine lv_iconst hx hb dX7_quarrels_115 qI_0 ?_
  exact tX7_quarrels_116 X v1 v2 v3 v4 v5 v6 (0 : Int32) k_29 Hk_29 h H locs hW ls hl
set_option maxHeartbeats 4000000 in
set_option maxRecDepth 100000 in
theorem tX7_quarrels_79 (X : Bx p s m args meth c cX7_quarrels 8 wsX7_quarrels RX7 (some .int)) (v1 : Int32) (v2 : Int32) (v3 : Int32) (v4 : Int32) (v5 : Int32) (t0 : Int32) (k_29 : Int32 → Int32 → Option (Int32)) (Hk_29 : ∀ (v3 : Int32) (v4 : Int32), k_29 v3 v4 = some res → ∀ (H : Heap) (locs : List Loc), Wo G A s (wX7_quarrels G a_mo a_mo_numbers a_mo_words a_mo_boxes a_mo_weeks a_mo_routes a_mo_turns a_mo_leave a_mo_leases a_mo_uses a_mo_arcFrom a_mo_arcTo a_mo_arcRoom a_mo_arcCost a_mo_far a_mo_by a_mo_best a_mo_tape a_mo_kept m_arcs m_tapeMany m_tokenKind m_tokenAt m_tokenEnd m_tokenValue m_fault m_seen m_isKept m_place m_numbers m_words) H locs → ∀ ls : Array Slot, lv_has ls 8 [(0, .ref a_mo), (1, .int v1), (2, .int v2), (3, .int v3), (4, .int v4)] → W p l e rmX7_quarrels s m args below meth c H locs 0 0 (QI G A below args s res (wX7_quarrels G a_mo a_mo_numbers a_mo_words a_mo_boxes a_mo_weeks a_mo_routes a_mo_turns a_mo_leave a_mo_leases a_mo_uses a_mo_arcFrom a_mo_arcTo a_mo_arcRoom a_mo_arcCost a_mo_far a_mo_by a_mo_best a_mo_tape a_mo_kept m_arcs m_tapeMany m_tokenKind m_tokenAt m_tokenEnd m_tokenValue m_fault m_seen m_isKept m_place m_numbers m_words)) (F0 m 29 ls [])) (h : fX7_quarrels_79 k_29 v3 v4 v5 t0 m_words = some res) : ∀ (H : Heap) (locs : List Loc), Wo G A s (wX7_quarrels G a_mo a_mo_numbers a_mo_words a_mo_boxes a_mo_weeks a_mo_routes a_mo_turns a_mo_leave a_mo_leases a_mo_uses a_mo_arcFrom a_mo_arcTo a_mo_arcRoom a_mo_arcCost a_mo_far a_mo_by a_mo_best a_mo_tape a_mo_kept m_arcs m_tapeMany m_tokenKind m_tokenAt m_tokenEnd m_tokenValue m_fault m_seen m_isKept m_place m_numbers m_words) H locs → ∀ ls : Array Slot, lv_has ls 8 [(0, .ref a_mo), (1, .int v1), (2, .int v2), (3, .int v3), (4, .int v4), (5, .int v5)] → W p l e rmX7_quarrels s m args below meth c H locs 0 0 (QI G A below args s res (wX7_quarrels G a_mo a_mo_numbers a_mo_words a_mo_boxes a_mo_weeks a_mo_routes a_mo_turns a_mo_leave a_mo_leases a_mo_uses a_mo_arcFrom a_mo_arcTo a_mo_arcRoom a_mo_arcCost a_mo_far a_mo_by a_mo_best a_mo_tape a_mo_kept m_arcs m_tapeMany m_tokenKind m_tokenAt m_tokenEnd m_tokenValue m_fault m_seen m_isKept m_place m_numbers m_words)) (F0 m 79 ls [.int t0]) := by
  obtain ⟨hx, hb, -⟩ := id X.1
  intro H locs hW ls hl
  rw [fX7_quarrels_79] at h
  refine lv_istore (lv' := [(6, .int t0), (0, .ref a_mo), (1, .int v1), (2, .int v2), (3, .int v3), (4, .int v4), (5, .int v5)]) hx hb dX7_quarrels_79 hl (by decide) rfl (fun ls hl => ?_)
  refine lv_aload_n hx hb dX7_quarrels_81 rfl (lv_at hl 1 rfl) ?_
  refine g_get X hW eX7_quarrels_16 0 rfl rfl dX7_quarrels_82 ?_
  refine lv_iconst hx hb dX7_quarrels_85 qI_5 ?_
  refine lv_iload hx hb dX7_quarrels_86 (lv_at hl 5 rfl) ?_
  refine lv_imul hx hb dX7_quarrels_88 ?_
  refine lv_iconst hx hb dX7_quarrels_89 qI_3 ?_
  refine lv_iadd hx hb dX7_quarrels_90 ?_
  obtain ⟨g33, h⟩ := gd_some h
  refine g_ald X hW 2 rfl g33 dX7_quarrels_91 ?_
  refine lv_iconst hx hb dX7_quarrels_92 qI_1 ?_
  refine lv_icmp_ne (tgt := 115) hx hb dX7_quarrels_93 (by decide) (fun c35 => ?_) (fun c35 => ?_)
  · have h := (if_neg c35).symm.trans h
    exact tX7_quarrels_115 X v1 v2 v3 v4 v5 t0 k_29 Hk_29 h H locs hW ls (lv_sub hl [1, 2, 3, 4, 5, 6, 0] rfl)
  · have h := (if_pos c35).symm.trans h
    refine lv_aload_n hx hb dX7_quarrels_96 rfl (lv_at hl 1 rfl) ?_
    refine g_get X hW eX7_quarrels_16 0 rfl rfl dX7_quarrels_97 ?_
    refine lv_iconst hx hb dX7_quarrels_100 qI_5 ?_
    refine lv_iload hx hb dX7_quarrels_101 (lv_at hl 6 rfl) ?_
    refine lv_imul hx hb dX7_quarrels_103 ?_
    refine lv_iconst hx hb dX7_quarrels_104 qI_3 ?_
    refine lv_iadd hx hb dX7_quarrels_105 ?_
    obtain ⟨g43, h⟩ := gd_some h
    refine g_ald X hW 2 rfl g43 dX7_quarrels_106 ?_
    refine lv_iconst hx hb dX7_quarrels_107 qI_1 ?_
    refine lv_icmp_ne (tgt := 115) hx hb dX7_quarrels_108 (by decide) (fun c45 => ?_) (fun c45 => ?_)
    · have h := (if_neg c45).symm.trans h
      exact tX7_quarrels_115 X v1 v2 v3 v4 v5 t0 k_29 Hk_29 h H locs hW ls (lv_sub hl [1, 2, 3, 4, 5, 6, 0] rfl)
    · have h := (if_pos c45).symm.trans h
      refine lv_iconst hx hb dX7_quarrels_111 qI_1 ?_
      refine lv_goto (tgt := 116) hx hb dX7_quarrels_112 (by decide) ?_
      exact tX7_quarrels_116 X v1 v2 v3 v4 v5 t0 (1 : Int32) k_29 Hk_29 h H locs hW ls (lv_sub hl [1, 2, 3, 4, 5, 6, 0] rfl)
set_option maxHeartbeats 4000000 in
set_option maxRecDepth 100000 in
theorem tX7_quarrels_29 (X : Bx p s m args meth c cX7_quarrels 8 wsX7_quarrels RX7 (some .int)) (v1 : Int32) (v2 : Int32)   : ∀ (n : Nat) (v3 : Int32) (v4 : Int32), fX7_quarrels_29 v1 v2 m_numbers m_words n v3 v4 = some res → ∀ (H : Heap) (locs : List Loc), Wo G A s (wX7_quarrels G a_mo a_mo_numbers a_mo_words a_mo_boxes a_mo_weeks a_mo_routes a_mo_turns a_mo_leave a_mo_leases a_mo_uses a_mo_arcFrom a_mo_arcTo a_mo_arcRoom a_mo_arcCost a_mo_far a_mo_by a_mo_best a_mo_tape a_mo_kept m_arcs m_tapeMany m_tokenKind m_tokenAt m_tokenEnd m_tokenValue m_fault m_seen m_isKept m_place m_numbers m_words) H locs → ∀ ls : Array Slot, lv_has ls 8 [(0, .ref a_mo), (1, .int v1), (2, .int v2), (3, .int v3), (4, .int v4)] → W p l e rmX7_quarrels s m args below meth c H locs 0 0 (QI G A below args s res (wX7_quarrels G a_mo a_mo_numbers a_mo_words a_mo_boxes a_mo_weeks a_mo_routes a_mo_turns a_mo_leave a_mo_leases a_mo_uses a_mo_arcFrom a_mo_arcTo a_mo_arcRoom a_mo_arcCost a_mo_far a_mo_by a_mo_best a_mo_tape a_mo_kept m_arcs m_tapeMany m_tokenKind m_tokenAt m_tokenEnd m_tokenValue m_fault m_seen m_isKept m_place m_numbers m_words)) (F0 m 29 ls []) := by
  obtain ⟨hx, hb, -⟩ := id X.1
  intro n
  induction n with
  | zero => intro v3 v4 h; rw [fX7_quarrels_29] at h; cases h
  | succ n ih =>
    intro v3 v4 h H locs hW ls hl
    rw [fX7_quarrels_29] at h
    refine lv_iload hx hb dX7_quarrels_29 (lv_at hl 4 rfl) ?_
    refine lv_if_lt (tgt := 157) hx hb dX7_quarrels_31 (by decide) (fun c49 => ?_) (fun c49 => ?_)
    · have h := (if_pos c49).symm.trans h
      refine lv_iload_n hx hb dX7_quarrels_157 rfl (lv_at hl 3 rfl) ?_
      obtain rfl := Option.some.inj h
      exact g_iret X hW dX7_quarrels_158
    · have h := (if_neg c49).symm.trans h
      refine lv_aload_n hx hb dX7_quarrels_34 rfl (lv_at hl 0 rfl) ?_
      refine lv_iload_n hx hb dX7_quarrels_35 rfl (lv_at hl 1 rfl) ?_
      refine lv_iload hx hb dX7_quarrels_36 (lv_at hl 4 rfl) ?_
      refine lv_iload_n hx hb dX7_quarrels_38 rfl (lv_at hl 2 rfl) ?_
      obtain ⟨r56, hq, h⟩ := bn1_some h
      refine g_cvi X hW (As := [.int v1, .int v4, .int v2]) (ws' := (wX7_quarrels G a_mo a_mo_numbers a_mo_words a_mo_boxes a_mo_weeks a_mo_routes a_mo_turns a_mo_leave a_mo_leases a_mo_uses a_mo_arcFrom a_mo_arcTo a_mo_arcRoom a_mo_arcCost a_mo_far a_mo_by a_mo_best a_mo_tape a_mo_kept m_arcs m_tapeMany m_tokenKind m_tokenAt m_tokenEnd m_tokenValue m_fault m_seen m_isKept m_place m_numbers m_words)) ckX7_quarrels_X7_follows_103 (kcX7_follows (l := l) G a_mo a_mo_numbers a_mo_words a_mo_boxes a_mo_weeks a_mo_routes a_mo_turns a_mo_leave a_mo_leases a_mo_uses a_mo_arcFrom a_mo_arcTo a_mo_arcRoom a_mo_arcCost a_mo_far a_mo_by a_mo_best a_mo_tape a_mo_kept v1 v4 v2 m_arcs m_tapeMany m_tokenKind m_tokenAt m_tokenEnd m_tokenValue m_fault m_seen m_isKept m_place m_numbers m_words hq) ⟨rfl, rfl, Nat.le_of_ble_eq_true rfl, Nat.le_of_ble_eq_true rfl⟩ [0, 1, 2] rfl rfl rfl rfl rfl rfl rfl hl.1 (Nat.le_of_ble_eq_true rfl) ⟨Nat.zero_le _, Nat.zero_le _⟩ dX7_quarrels_39 (fun H locs hW => ?_)
      refine lv_istore (lv' := [(5, .int r56), (0, .ref a_mo), (1, .int v1), (2, .int v2), (3, .int v3), (4, .int v4)]) hx hb dX7_quarrels_42 hl (by decide) rfl (fun ls hl => ?_)
      refine lv_iload hx hb dX7_quarrels_44 (lv_at hl 0 rfl) ?_
      refine lv_if_lt (tgt := 150) hx hb dX7_quarrels_46 (by decide) (fun c59 => ?_) (fun c59 => ?_)
      · have h := (if_pos c59).symm.trans h
        exact tX7_quarrels_150 X v1 v2 v3 r56 (fun v3 v4 => fX7_quarrels_29 v1 v2 m_numbers m_words n v3 v4) ih h H locs hW ls (lv_sub hl [1, 2, 3, 4, 0] rfl)
      · have h := (if_neg c59).symm.trans h
        refine lv_aload_n hx hb dX7_quarrels_49 rfl (lv_at hl 1 rfl) ?_
        refine g_get X hW eX7_quarrels_16 0 rfl rfl dX7_quarrels_50 ?_
        refine lv_iconst hx hb dX7_quarrels_53 qI_5 ?_
        refine lv_iload hx hb dX7_quarrels_54 (lv_at hl 5 rfl) ?_
        refine lv_imul hx hb dX7_quarrels_56 ?_
        refine lv_iconst hx hb dX7_quarrels_57 qI_2 ?_
        refine lv_iadd hx hb dX7_quarrels_58 ?_
        obtain ⟨g67, h⟩ := gd_some h
        refine g_ald X hW 2 rfl g67 dX7_quarrels_59 ?_
        refine lv_aload_n hx hb dX7_quarrels_60 rfl (lv_at hl 1 rfl) ?_
        refine g_get X hW eX7_quarrels_16 0 rfl rfl dX7_quarrels_61 ?_
        refine lv_iconst hx hb dX7_quarrels_64 qI_5 ?_
        refine lv_iload hx hb dX7_quarrels_65 (lv_at hl 0 rfl) ?_
        refine lv_imul hx hb dX7_quarrels_67 ?_
        refine lv_iconst hx hb dX7_quarrels_68 qI_2 ?_
        refine lv_iadd hx hb dX7_quarrels_69 ?_
        obtain ⟨g75, h⟩ := gd_some h
        refine g_ald X hW 2 rfl g75 dX7_quarrels_70 ?_
        refine lv_icmp_eq (tgt := 78) hx hb dX7_quarrels_71 (by decide) (fun c76 => ?_) (fun c76 => ?_)
        · have h := (if_pos c76).symm.trans h
          refine lv_iconst hx hb dX7_quarrels_78 qI_0 ?_
          exact tX7_quarrels_79 X v1 v2 v3 v4 r56 (0 : Int32) (fun v3 v4 => fX7_quarrels_29 v1 v2 m_numbers m_words n v3 v4) ih h H locs hW ls (lv_sub hl [1, 2, 3, 4, 5, 0] rfl)
        · have h := (if_neg c76).symm.trans h
          refine lv_iconst hx hb dX7_quarrels_74 qI_1 ?_
          refine lv_goto (tgt := 79) hx hb dX7_quarrels_75 (by decide) ?_
          exact tX7_quarrels_79 X v1 v2 v3 v4 r56 (1 : Int32) (fun v3 v4 => fX7_quarrels_29 v1 v2 m_numbers m_words n v3 v4) ih h H locs hW ls (lv_sub hl [1, 2, 3, 4, 5, 0] rfl)
set_option maxHeartbeats 4000000 in
set_option maxRecDepth 100000 in
theorem k0X7_quarrels {l : Launch} (G : Gt) (a_mo a_mo_numbers a_mo_words a_mo_boxes a_mo_weeks a_mo_routes a_mo_turns a_mo_leave a_mo_leases a_mo_uses a_mo_arcFrom a_mo_arcTo a_mo_arcRoom a_mo_arcCost a_mo_far a_mo_by a_mo_best a_mo_tape a_mo_kept : Nat) (v1 : Int32) (v2 : Int32) (m_arcs : Int32) (m_tapeMany : Int32) (m_tokenKind : Int32) (m_tokenAt : Int32) (m_tokenEnd : Int32) (m_tokenValue : Int32) (m_fault : Int32) (m_seen : Int32) (m_isKept : Int32) (m_place : Int32) (m_numbers : (Nat → Int32)) (m_words : (Nat → Int32)) {res : Int32} (h : fX7_quarrels v1 v2 m_numbers m_words = some res) : CtI G l yX7_quarrels wsX7_quarrels rmX7_quarrels [.ref a_mo, .int v1, .int v2] (wX7_quarrels G a_mo a_mo_numbers a_mo_words a_mo_boxes a_mo_weeks a_mo_routes a_mo_turns a_mo_leave a_mo_leases a_mo_uses a_mo_arcFrom a_mo_arcTo a_mo_arcRoom a_mo_arcCost a_mo_far a_mo_by a_mo_best a_mo_tape a_mo_kept m_arcs m_tapeMany m_tokenKind m_tokenAt m_tokenEnd m_tokenValue m_fault m_seen m_isKept m_place m_numbers m_words) res (wX7_quarrels G a_mo a_mo_numbers a_mo_words a_mo_boxes a_mo_weeks a_mo_routes a_mo_turns a_mo_leave a_mo_leases a_mo_uses a_mo_arcFrom a_mo_arcTo a_mo_arcRoom a_mo_arcCost a_mo_far a_mo_by a_mo_best a_mo_tape a_mo_kept m_arcs m_tapeMany m_tokenKind m_tokenAt m_tokenEnd m_tokenValue m_fault m_seen m_isKept m_place m_numbers m_words) := by
  refine CtI.mk (cc := cX7_quarrels) (maxL := 8) (ret := (some .int)) (own := RX7) (by decide) rfl rfl (Nat.le_of_ble_eq_true rfl) ?_
  intro p e s m below meth c A X ls hl hW
  obtain ⟨hx, hb, -⟩ := id X.1
  have hl : lv_has ls 8 [(0, .ref a_mo), (1, .int v1), (2, .int v2)] := hl
  generalize hH : s.heap = H at hW ⊢
  generalize hLo : ([] : List Loc) = locs at hW ⊢
  rw [fX7_quarrels] at h
  refine lv_aload_n hx hb dX7_quarrels_0 rfl (lv_at hl 0 rfl) ?_
  refine lv_iload_n hx hb dX7_quarrels_1 rfl (lv_at hl 1 rfl) ?_
  obtain ⟨r82, hq, h⟩ := bn1_some h
  refine g_cvi X hW (As := [.int v1]) (ws' := (wX7_quarrels G a_mo a_mo_numbers a_mo_words a_mo_boxes a_mo_weeks a_mo_routes a_mo_turns a_mo_leave a_mo_leases a_mo_uses a_mo_arcFrom a_mo_arcTo a_mo_arcRoom a_mo_arcCost a_mo_far a_mo_by a_mo_best a_mo_tape a_mo_kept m_arcs m_tapeMany m_tokenKind m_tokenAt m_tokenEnd m_tokenValue m_fault m_seen m_isKept m_place m_numbers m_words)) ckX7_quarrels_X7_isBox_84 (kcX7_isBox (l := l) G a_mo a_mo_numbers a_mo_boxes a_mo_words a_mo_weeks a_mo_routes a_mo_turns a_mo_leave a_mo_leases a_mo_uses a_mo_arcFrom a_mo_arcTo a_mo_arcRoom a_mo_arcCost a_mo_far a_mo_by a_mo_best a_mo_tape a_mo_kept v1 m_arcs m_tapeMany m_tokenKind m_tokenAt m_tokenEnd m_tokenValue m_fault m_seen m_isKept m_place m_numbers hq) ⟨rfl, rfl, Nat.le_of_ble_eq_true rfl, Nat.le_of_ble_eq_true rfl⟩ [0, 1] rfl rfl rfl rfl rfl rfl rfl hl.1 (Nat.le_of_ble_eq_true rfl) ⟨Nat.zero_le _, Nat.zero_le _⟩ dX7_quarrels_2 (fun H locs hW => ?_)
  refine lv_if_eq (tgt := 16) hx hb dX7_quarrels_5 (by decide) (fun c83 => ?_) (fun c83 => ?_)
  · have h := (if_pos c83).symm.trans h
    refine lv_iconst hx hb dX7_quarrels_16 qI_m1 ?_
    obtain rfl := Option.some.inj h
    exact g_iret X hW dX7_quarrels_17
  · have h := (if_neg c83).symm.trans h
    refine lv_aload_n hx hb dX7_quarrels_8 rfl (lv_at hl 0 rfl) ?_
    refine lv_iload_n hx hb dX7_quarrels_9 rfl (lv_at hl 2 rfl) ?_
    obtain ⟨r88, hq, h⟩ := bn1_some h
    refine g_cvi X hW (As := [.int v2]) (ws' := (wX7_quarrels G a_mo a_mo_numbers a_mo_words a_mo_boxes a_mo_weeks a_mo_routes a_mo_turns a_mo_leave a_mo_leases a_mo_uses a_mo_arcFrom a_mo_arcTo a_mo_arcRoom a_mo_arcCost a_mo_far a_mo_by a_mo_best a_mo_tape a_mo_kept m_arcs m_tapeMany m_tokenKind m_tokenAt m_tokenEnd m_tokenValue m_fault m_seen m_isKept m_place m_numbers m_words)) ckX7_quarrels_X7_isPast_87 (kcX7_isPast (l := l) G a_mo a_mo_numbers a_mo_boxes a_mo_words a_mo_weeks a_mo_routes a_mo_turns a_mo_leave a_mo_leases a_mo_uses a_mo_arcFrom a_mo_arcTo a_mo_arcRoom a_mo_arcCost a_mo_far a_mo_by a_mo_best a_mo_tape a_mo_kept v2 m_arcs m_tapeMany m_tokenKind m_tokenAt m_tokenEnd m_tokenValue m_fault m_seen m_isKept m_place m_numbers hq) ⟨rfl, rfl, Nat.le_of_ble_eq_true rfl, Nat.le_of_ble_eq_true rfl⟩ [0, 1] rfl rfl rfl rfl rfl rfl rfl hl.1 (Nat.le_of_ble_eq_true rfl) ⟨Nat.zero_le _, Nat.zero_le _⟩ dX7_quarrels_10 (fun H locs hW => ?_)
    refine lv_if_ne (tgt := 18) hx hb dX7_quarrels_13 (by decide) (fun c89 => ?_) (fun c89 => ?_)
    · have h := (if_neg c89).symm.trans h
      refine lv_iconst hx hb dX7_quarrels_18 qI_0 ?_
      refine lv_istore_n (lv' := [(3, .int (0 : Int32)), (0, .ref a_mo), (1, .int v1), (2, .int v2)]) hx hb dX7_quarrels_19 rfl hl (by decide) rfl (fun ls hl => ?_)
      refine lv_aload_n hx hb dX7_quarrels_20 rfl (lv_at hl 1 rfl) ?_
      refine lv_iload_n hx hb dX7_quarrels_21 rfl (lv_at hl 2 rfl) ?_
      refine lv_iconst hx hb dX7_quarrels_22 qI_m1 ?_
      refine lv_iload_n hx hb dX7_quarrels_23 rfl (lv_at hl 3 rfl) ?_
      obtain ⟨r96, hq, h⟩ := bn1_some h
      refine g_cvi X hW (As := [.int v1, .int (-1 : Int32), .int v2]) (ws' := (wX7_quarrels G a_mo a_mo_numbers a_mo_words a_mo_boxes a_mo_weeks a_mo_routes a_mo_turns a_mo_leave a_mo_leases a_mo_uses a_mo_arcFrom a_mo_arcTo a_mo_arcRoom a_mo_arcCost a_mo_far a_mo_by a_mo_best a_mo_tape a_mo_kept m_arcs m_tapeMany m_tokenKind m_tokenAt m_tokenEnd m_tokenValue m_fault m_seen m_isKept m_place m_numbers m_words)) ckX7_quarrels_X7_follows_103 (kcX7_follows (l := l) G a_mo a_mo_numbers a_mo_words a_mo_boxes a_mo_weeks a_mo_routes a_mo_turns a_mo_leave a_mo_leases a_mo_uses a_mo_arcFrom a_mo_arcTo a_mo_arcRoom a_mo_arcCost a_mo_far a_mo_by a_mo_best a_mo_tape a_mo_kept v1 (-1 : Int32) v2 m_arcs m_tapeMany m_tokenKind m_tokenAt m_tokenEnd m_tokenValue m_fault m_seen m_isKept m_place m_numbers m_words hq) ⟨rfl, rfl, Nat.le_of_ble_eq_true rfl, Nat.le_of_ble_eq_true rfl⟩ [0, 1, 2] rfl rfl rfl rfl rfl rfl rfl hl.1 (Nat.le_of_ble_eq_true rfl) ⟨Nat.zero_le _, Nat.zero_le _⟩ dX7_quarrels_24 (fun H locs hW => ?_)
      refine lv_istore (lv' := [(4, .int r96), (3, .int (0 : Int32)), (0, .ref a_mo), (1, .int v1), (2, .int v2)]) hx hb dX7_quarrels_27 hl (by decide) rfl (fun ls hl => ?_)
      exact tX7_quarrels_29 X v1 v2 FU (0 : Int32) r96 h H locs hW ls (lv_sub hl [2, 3, 4, 1, 0] rfl)
    · have h := (if_pos c89).symm.trans h
      refine lv_iconst hx hb dX7_quarrels_16 qI_m1 ?_
      obtain rfl := Option.some.inj h
      exact g_iret X hW dX7_quarrels_17
theorem kcX7_quarrels {l : Launch} (G : Gt) (a_mo a_mo_numbers a_mo_words a_mo_boxes a_mo_weeks a_mo_routes a_mo_turns a_mo_leave a_mo_leases a_mo_uses a_mo_arcFrom a_mo_arcTo a_mo_arcRoom a_mo_arcCost a_mo_far a_mo_by a_mo_best a_mo_tape a_mo_kept : Nat) (v1 : Int32) (v2 : Int32) (m_arcs : Int32) (m_tapeMany : Int32) (m_tokenKind : Int32) (m_tokenAt : Int32) (m_tokenEnd : Int32) (m_tokenValue : Int32) (m_fault : Int32) (m_seen : Int32) (m_isKept : Int32) (m_place : Int32) (m_numbers : (Nat → Int32)) (m_words : (Nat → Int32)) {r : Int32}  (h : fX7_quarrels v1 v2 m_numbers m_words = some r) : CtI G l yX7_quarrels wsX7_quarrels rmX7_quarrels [.ref a_mo, .int v1, .int v2] (wX7_quarrels G a_mo a_mo_numbers a_mo_words a_mo_boxes a_mo_weeks a_mo_routes a_mo_turns a_mo_leave a_mo_leases a_mo_uses a_mo_arcFrom a_mo_arcTo a_mo_arcRoom a_mo_arcCost a_mo_far a_mo_by a_mo_best a_mo_tape a_mo_kept m_arcs m_tapeMany m_tokenKind m_tokenAt m_tokenEnd m_tokenValue m_fault m_seen m_isKept m_place m_numbers m_words) r (wX7_quarrels G a_mo a_mo_numbers a_mo_words a_mo_boxes a_mo_weeks a_mo_routes a_mo_turns a_mo_leave a_mo_leases a_mo_uses a_mo_arcFrom a_mo_arcTo a_mo_arcRoom a_mo_arcCost a_mo_far a_mo_by a_mo_best a_mo_tape a_mo_kept m_arcs m_tapeMany m_tokenKind m_tokenAt m_tokenEnd m_tokenValue m_fault m_seen m_isKept m_place m_numbers m_words) := k0X7_quarrels G a_mo a_mo_numbers a_mo_words a_mo_boxes a_mo_weeks a_mo_routes a_mo_turns a_mo_leave a_mo_leases a_mo_uses a_mo_arcFrom a_mo_arcTo a_mo_arcRoom a_mo_arcCost a_mo_far a_mo_by a_mo_best a_mo_tape a_mo_kept v1 v2 m_arcs m_tapeMany m_tokenKind m_tokenAt m_tokenEnd m_tokenValue m_fault m_seen m_isKept m_place m_numbers m_words h
end MX7_quarrels
/-! EmptyBoxesModel.isLate -/
section MX7_isLate
theorem hdX7_isLate : yX7_isLate.cls = RX7 ∧ yX7_isLate.cls ≠ "java/lang/invoke/MethodHandle" ∧ yX7_isLate.cls ≠ "java/lang/invoke/VarHandle" ∧ (parseMethodDescriptor yX7_isLate.desc).map (fun d => d.parameters.length) = some 1 := by decide +kernel
abbrev wX7_isLate (G : Gt) (a_mo a_mo_numbers a_mo_words a_mo_boxes a_mo_weeks a_mo_routes a_mo_turns a_mo_leave a_mo_leases a_mo_uses a_mo_arcFrom a_mo_arcTo a_mo_arcRoom a_mo_arcCost a_mo_far a_mo_by a_mo_best a_mo_tape a_mo_kept : Nat) (m_arcs : Int32) (m_tapeMany : Int32) (m_tokenKind : Int32) (m_tokenAt : Int32) (m_tokenEnd : Int32) (m_tokenValue : Int32) (m_fault : Int32) (m_seen : Int32) (m_isKept : Int32) (m_place : Int32) (m_numbers : (Nat → Int32)) (m_words : (Nat → Int32)) : va_W := [(a_mo, .inr (7, [.ref a_mo_numbers, .ref a_mo_boxes, .ref a_mo_words, .ref a_mo_weeks, .ref a_mo_routes, .ref a_mo_turns, .ref a_mo_leave, .ref a_mo_leases, .ref a_mo_uses, .ref a_mo_arcFrom, .ref a_mo_arcTo, .ref a_mo_arcRoom, .ref a_mo_arcCost, .int m_arcs, .ref a_mo_far, .ref a_mo_by, .ref a_mo_best, .ref a_mo_tape, .int m_tapeMany, .int m_tokenKind, .int m_tokenAt, .int m_tokenEnd, .int m_tokenValue, .int m_fault, .int m_seen, .int m_isKept, .ref a_mo_kept, .int m_place])), (a_mo_numbers, .inl (G.2.1, 10, .inl m_numbers)), (a_mo_words, .inl (G.2.1, 300, .inl m_words))]
abbrev rmX7_isLate : Room := { frames := 1, cells := 0, slots := 0, locals := 25 }
theorem iX7_isLate_X7 : ∀ w ∈ wsX70, w ∈ wsX7_isLate := by decide +kernel
theorem eX7_isLate_16 : Fk wsX7_isLate RX7 16 7 2 := ⟨RX7, TX7, 28, rfl, iX7_isLate_X7, by decide, by decide +kernel⟩
theorem eX7_isLate_7 : Fk wsX7_isLate RX7 7 7 0 := ⟨RX7, TX7, 28, rfl, iX7_isLate_X7, by decide, by decide +kernel⟩
theorem ckX7_isLate_X7_latest_93 : CkV wsX7_isLate RX7 93 yX7_latest wsX7_latest cX7_latest 6 (some .int) 3 7 := ⟨RX7, TX7, 28, _, rfl, gX7_isLate_X7_latest, rfl, hdX7_latest⟩
variable {p : Program} {l : Launch} {e : Env} {s : State} {m : MethodId} {args : Array Value} {below : List Frame} {meth : Method} {c : Code} {A : Nat → Prop} {G : Gt} {a_mo a_mo_numbers a_mo_words a_mo_boxes a_mo_weeks a_mo_routes a_mo_turns a_mo_leave a_mo_leases a_mo_uses a_mo_arcFrom a_mo_arcTo a_mo_arcRoom a_mo_arcCost a_mo_far a_mo_by a_mo_best a_mo_tape a_mo_kept : Nat} {m_arcs : Int32} {m_tapeMany : Int32} {m_tokenKind : Int32} {m_tokenAt : Int32} {m_tokenEnd : Int32} {m_tokenValue : Int32} {m_fault : Int32} {m_seen : Int32} {m_isKept : Int32} {m_place : Int32} {m_numbers : (Nat → Int32)} {m_words : (Nat → Int32)} {res : Int32}
set_option maxHeartbeats 4000000 in
set_option maxRecDepth 100000 in
theorem k0X7_isLate {l : Launch} (G : Gt) (a_mo a_mo_numbers a_mo_words a_mo_boxes a_mo_weeks a_mo_routes a_mo_turns a_mo_leave a_mo_leases a_mo_uses a_mo_arcFrom a_mo_arcTo a_mo_arcRoom a_mo_arcCost a_mo_far a_mo_by a_mo_best a_mo_tape a_mo_kept : Nat) (v1 : Int32) (m_arcs : Int32) (m_tapeMany : Int32) (m_tokenKind : Int32) (m_tokenAt : Int32) (m_tokenEnd : Int32) (m_tokenValue : Int32) (m_fault : Int32) (m_seen : Int32) (m_isKept : Int32) (m_place : Int32) (m_numbers : (Nat → Int32)) (m_words : (Nat → Int32)) {res : Int32} (h : fX7_isLate v1 m_numbers m_words = some res) : CtI G l yX7_isLate wsX7_isLate rmX7_isLate [.ref a_mo, .int v1] (wX7_isLate G a_mo a_mo_numbers a_mo_words a_mo_boxes a_mo_weeks a_mo_routes a_mo_turns a_mo_leave a_mo_leases a_mo_uses a_mo_arcFrom a_mo_arcTo a_mo_arcRoom a_mo_arcCost a_mo_far a_mo_by a_mo_best a_mo_tape a_mo_kept m_arcs m_tapeMany m_tokenKind m_tokenAt m_tokenEnd m_tokenValue m_fault m_seen m_isKept m_place m_numbers m_words) res (wX7_isLate G a_mo a_mo_numbers a_mo_words a_mo_boxes a_mo_weeks a_mo_routes a_mo_turns a_mo_leave a_mo_leases a_mo_uses a_mo_arcFrom a_mo_arcTo a_mo_arcRoom a_mo_arcCost a_mo_far a_mo_by a_mo_best a_mo_tape a_mo_kept m_arcs m_tapeMany m_tokenKind m_tokenAt m_tokenEnd m_tokenValue m_fault m_seen m_isKept m_place m_numbers m_words) := by
  refine CtI.mk (cc := cX7_isLate) (maxL := 4) (ret := (some .boolean)) (own := RX7) (by decide) rfl rfl (Nat.le_of_ble_eq_true rfl) ?_
  intro p e s m below meth c A X ls hl hW
  obtain ⟨hx, hb, -⟩ := id X.1
  have hl : lv_has ls 4 [(0, .ref a_mo), (1, .int v1)] := hl
  generalize hH : s.heap = H at hW ⊢
  generalize hLo : ([] : List Loc) = locs at hW ⊢
  rw [fX7_isLate] at h
  refine lv_aload_n hx hb dX7_isLate_0 rfl (lv_at hl 0 rfl) ?_
  refine g_get X hW eX7_isLate_7 0 rfl rfl dX7_isLate_1 ?_
  refine lv_iconst hx hb dX7_isLate_4 qI_0 ?_
  obtain ⟨g4, h⟩ := gd_some h
  refine g_ald X hW 1 rfl g4 dX7_isLate_5 ?_
  refine lv_istore_n (lv' := [(2, .int (m_numbers (0 : Int32).toNatClampNeg)), (0, .ref a_mo), (1, .int v1)]) hx hb dX7_isLate_6 rfl hl (by decide) rfl (fun ls hl => ?_)
  refine lv_aload_n hx hb dX7_isLate_7 rfl (lv_at hl 1 rfl) ?_
  refine lv_iload_n hx hb dX7_isLate_8 rfl (lv_at hl 2 rfl) ?_
  refine lv_iload_n hx hb dX7_isLate_9 rfl (lv_at hl 0 rfl) ?_
  refine lv_iload_n hx hb dX7_isLate_10 rfl (lv_at hl 0 rfl) ?_
  obtain ⟨r10, hq, h⟩ := bn1_some h
  refine g_cvi X hW (As := [.int v1, .int (m_numbers (0 : Int32).toNatClampNeg), .int (m_numbers (0 : Int32).toNatClampNeg)]) (ws' := (wX7_isLate G a_mo a_mo_numbers a_mo_words a_mo_boxes a_mo_weeks a_mo_routes a_mo_turns a_mo_leave a_mo_leases a_mo_uses a_mo_arcFrom a_mo_arcTo a_mo_arcRoom a_mo_arcCost a_mo_far a_mo_by a_mo_best a_mo_tape a_mo_kept m_arcs m_tapeMany m_tokenKind m_tokenAt m_tokenEnd m_tokenValue m_fault m_seen m_isKept m_place m_numbers m_words)) ckX7_isLate_X7_latest_93 (kcX7_latest (l := l) G a_mo a_mo_numbers a_mo_words a_mo_boxes a_mo_weeks a_mo_routes a_mo_turns a_mo_leave a_mo_leases a_mo_uses a_mo_arcFrom a_mo_arcTo a_mo_arcRoom a_mo_arcCost a_mo_far a_mo_by a_mo_best a_mo_tape a_mo_kept v1 (m_numbers (0 : Int32).toNatClampNeg) (m_numbers (0 : Int32).toNatClampNeg) m_arcs m_tapeMany m_tokenKind m_tokenAt m_tokenEnd m_tokenValue m_fault m_seen m_isKept m_place m_numbers m_words hq) ⟨rfl, rfl, Nat.le_of_ble_eq_true rfl, Nat.le_of_ble_eq_true rfl⟩ [0, 1, 2] rfl rfl rfl rfl rfl rfl rfl hl.1 (Nat.le_of_ble_eq_true rfl) ⟨Nat.zero_le _, Nat.zero_le _⟩ dX7_isLate_11 (fun H locs hW => ?_)
  refine lv_istore_n (lv' := [(3, .int r10), (2, .int (m_numbers (0 : Int32).toNatClampNeg)), (0, .ref a_mo), (1, .int v1)]) hx hb dX7_isLate_14 rfl hl (by decide) rfl (fun ls hl => ?_)
  refine lv_iload_n hx hb dX7_isLate_15 rfl (lv_at hl 0 rfl) ?_
  refine lv_if_lt (tgt := 54) hx hb dX7_isLate_16 (by decide) (fun c13 => ?_) (fun c13 => ?_)
  · have h := (if_pos c13).symm.trans h
    refine lv_iconst hx hb dX7_isLate_54 qI_0 ?_
    obtain rfl := Option.some.inj h
    exact g_zret X hW rfl dX7_isLate_55
  · have h := (if_neg c13).symm.trans h
    refine lv_aload_n hx hb dX7_isLate_19 rfl (lv_at hl 2 rfl) ?_
    refine g_get X hW eX7_isLate_16 0 rfl rfl dX7_isLate_20 ?_
    refine lv_iconst hx hb dX7_isLate_23 qI_5 ?_
    refine lv_iload_n hx hb dX7_isLate_24 rfl (lv_at hl 0 rfl) ?_
    refine lv_imul hx hb dX7_isLate_25 ?_
    refine lv_iconst hx hb dX7_isLate_26 qI_3 ?_
    refine lv_iadd hx hb dX7_isLate_27 ?_
    obtain ⟨g23, h⟩ := gd_some h
    refine g_ald X hW 2 rfl g23 dX7_isLate_28 ?_
    refine lv_iconst hx hb dX7_isLate_29 qI_1 ?_
    refine lv_icmp_ne (tgt := 54) hx hb dX7_isLate_30 (by decide) (fun c25 => ?_) (fun c25 => ?_)
    · have h := (if_neg c25).symm.trans h
      refine lv_iconst hx hb dX7_isLate_54 qI_0 ?_
      obtain rfl := Option.some.inj h
      exact g_zret X hW rfl dX7_isLate_55
    · have h := (if_pos c25).symm.trans h
      refine lv_iload_n hx hb dX7_isLate_33 rfl (lv_at hl 1 rfl) ?_
      refine lv_aload_n hx hb dX7_isLate_34 rfl (lv_at hl 2 rfl) ?_
      refine g_get X hW eX7_isLate_16 0 rfl rfl dX7_isLate_35 ?_
      refine lv_iconst hx hb dX7_isLate_38 qI_5 ?_
      refine lv_iload_n hx hb dX7_isLate_39 rfl (lv_at hl 0 rfl) ?_
      refine lv_imul hx hb dX7_isLate_40 ?_
      refine lv_iconst hx hb dX7_isLate_41 qI_1 ?_
      refine lv_iadd hx hb dX7_isLate_42 ?_
      obtain ⟨g36, h⟩ := gd_some h
      refine g_ald X hW 2 rfl g36 dX7_isLate_43 ?_
      refine lv_isub hx hb dX7_isLate_44 ?_
      refine lv_bipush hx hb dX7_isLate_45 qB_20 ?_
      refine lv_icmp_le (tgt := 54) hx hb dX7_isLate_47 (by decide) (fun c39 => ?_) (fun c39 => ?_)
      · have h := (if_pos c39).symm.trans h
        refine lv_iconst hx hb dX7_isLate_54 qI_0 ?_
        obtain rfl := Option.some.inj h
        exact g_zret X hW rfl dX7_isLate_55
      · have h := (if_neg c39).symm.trans h
        refine lv_iconst hx hb dX7_isLate_50 qI_1 ?_
        refine lv_goto (tgt := 55) hx hb dX7_isLate_51 (by decide) ?_
        obtain rfl := Option.some.inj h
        exact g_zret X hW rfl dX7_isLate_55
theorem kcX7_isLate {l : Launch} (G : Gt) (a_mo a_mo_numbers a_mo_words a_mo_boxes a_mo_weeks a_mo_routes a_mo_turns a_mo_leave a_mo_leases a_mo_uses a_mo_arcFrom a_mo_arcTo a_mo_arcRoom a_mo_arcCost a_mo_far a_mo_by a_mo_best a_mo_tape a_mo_kept : Nat) (v1 : Int32) (m_arcs : Int32) (m_tapeMany : Int32) (m_tokenKind : Int32) (m_tokenAt : Int32) (m_tokenEnd : Int32) (m_tokenValue : Int32) (m_fault : Int32) (m_seen : Int32) (m_isKept : Int32) (m_place : Int32) (m_numbers : (Nat → Int32)) (m_words : (Nat → Int32)) {r : Int32}  (h : fX7_isLate v1 m_numbers m_words = some r) : CtI G l yX7_isLate wsX7_isLate rmX7_isLate [.ref a_mo, .int v1] (wX7_isLate G a_mo a_mo_numbers a_mo_words a_mo_boxes a_mo_weeks a_mo_routes a_mo_turns a_mo_leave a_mo_leases a_mo_uses a_mo_arcFrom a_mo_arcTo a_mo_arcRoom a_mo_arcCost a_mo_far a_mo_by a_mo_best a_mo_tape a_mo_kept m_arcs m_tapeMany m_tokenKind m_tokenAt m_tokenEnd m_tokenValue m_fault m_seen m_isKept m_place m_numbers m_words) r (wX7_isLate G a_mo a_mo_numbers a_mo_words a_mo_boxes a_mo_weeks a_mo_routes a_mo_turns a_mo_leave a_mo_leases a_mo_uses a_mo_arcFrom a_mo_arcTo a_mo_arcRoom a_mo_arcCost a_mo_far a_mo_by a_mo_best a_mo_tape a_mo_kept m_arcs m_tapeMany m_tokenKind m_tokenAt m_tokenEnd m_tokenValue m_fault m_seen m_isKept m_place m_numbers m_words) := k0X7_isLate G a_mo a_mo_numbers a_mo_words a_mo_boxes a_mo_weeks a_mo_routes a_mo_turns a_mo_leave a_mo_leases a_mo_uses a_mo_arcFrom a_mo_arcTo a_mo_arcRoom a_mo_arcCost a_mo_far a_mo_by a_mo_best a_mo_tape a_mo_kept v1 m_arcs m_tapeMany m_tokenKind m_tokenAt m_tokenEnd m_tokenValue m_fault m_seen m_isKept m_place m_numbers m_words h
end MX7_isLate
/-! EmptyBoxesModel.count -/
section MX7_count
theorem hdX7_count : yX7_count.cls = RX7 ∧ yX7_count.cls ≠ "java/lang/invoke/MethodHandle" ∧ yX7_count.cls ≠ "java/lang/invoke/VarHandle" ∧ (parseMethodDescriptor yX7_count.desc).map (fun d => d.parameters.length) = some 1 := by decide +kernel
abbrev wX7_count (G : Gt) (a_mo a_mo_numbers a_mo_boxes a_mo_words a_mo_weeks a_mo_routes a_mo_turns a_mo_leave a_mo_leases a_mo_uses a_mo_arcFrom a_mo_arcTo a_mo_arcRoom a_mo_arcCost a_mo_far a_mo_by a_mo_best a_mo_tape a_mo_kept : Nat) (m_arcs : Int32) (m_tapeMany : Int32) (m_tokenKind : Int32) (m_tokenAt : Int32) (m_tokenEnd : Int32) (m_tokenValue : Int32) (m_fault : Int32) (m_seen : Int32) (m_isKept : Int32) (m_place : Int32) (m_numbers : (Nat → Int32)) (m_boxes : (Nat → Int32)) (m_words : (Nat → Int32)) : va_W := [(a_mo, .inr (7, [.ref a_mo_numbers, .ref a_mo_boxes, .ref a_mo_words, .ref a_mo_weeks, .ref a_mo_routes, .ref a_mo_turns, .ref a_mo_leave, .ref a_mo_leases, .ref a_mo_uses, .ref a_mo_arcFrom, .ref a_mo_arcTo, .ref a_mo_arcRoom, .ref a_mo_arcCost, .int m_arcs, .ref a_mo_far, .ref a_mo_by, .ref a_mo_best, .ref a_mo_tape, .int m_tapeMany, .int m_tokenKind, .int m_tokenAt, .int m_tokenEnd, .int m_tokenValue, .int m_fault, .int m_seen, .int m_isKept, .ref a_mo_kept, .int m_place])), (a_mo_numbers, .inl (G.2.1, 10, .inl m_numbers)), (a_mo_boxes, .inl (G.2.1, 216, .inl m_boxes)), (a_mo_words, .inl (G.2.1, 300, .inl m_words))]
abbrev rmX7_count : Room := { frames := 2, cells := 0, slots := 0, locals := 49 }
theorem iX7_count_X7 : ∀ w ∈ wsX70, w ∈ wsX7_count := by decide +kernel
theorem eX7_count_7 : Fk wsX7_count RX7 7 7 0 := ⟨RX7, TX7, 28, rfl, iX7_count_X7, by decide, by decide +kernel⟩
theorem ckX7_count_X7_get_68 : CkV wsX7_count RX7 68 yX7_get wsX7_get cX7_get 3 (some .int) 2 7 := ⟨RX7, TX7, 28, _, rfl, gX7_count_X7_get, rfl, hdX7_get⟩
theorem ckX7_count_X7_in_64 : CkS wsX7_count RX7 64 yX7_in wsX7_in cX7_in 3 (some .boolean) 3 := ⟨_, gX7_count_X7_in, rfl, hdX7_in.2⟩
theorem ckX7_count_X7_isLate_106 : CkV wsX7_count RX7 106 yX7_isLate wsX7_isLate cX7_isLate 4 (some .boolean) 1 7 := ⟨RX7, TX7, 28, _, rfl, gX7_count_X7_isLate, rfl, hdX7_isLate⟩
theorem ckX7_count_X7_isPlace_90 : CkS wsX7_count RX7 90 yX7_isPlace wsX7_isPlace cX7_isPlace 1 (some .boolean) 1 := ⟨_, gX7_count_X7_isPlace, rfl, hdX7_isPlace.2⟩
theorem ckX7_count_X7_whereIs_100 : CkV wsX7_count RX7 100 yX7_whereIs wsX7_whereIs cX7_whereIs 5 (some .int) 3 7 := ⟨RX7, TX7, 28, _, rfl, gX7_count_X7_whereIs, rfl, hdX7_whereIs⟩
variable {p : Program} {l : Launch} {e : Env} {s : State} {m : MethodId} {args : Array Value} {below : List Frame} {meth : Method} {c : Code} {A : Nat → Prop} {G : Gt} {a_mo a_mo_numbers a_mo_boxes a_mo_words a_mo_weeks a_mo_routes a_mo_turns a_mo_leave a_mo_leases a_mo_uses a_mo_arcFrom a_mo_arcTo a_mo_arcRoom a_mo_arcCost a_mo_far a_mo_by a_mo_best a_mo_tape a_mo_kept : Nat} {m_arcs : Int32} {m_tapeMany : Int32} {m_tokenKind : Int32} {m_tokenAt : Int32} {m_tokenEnd : Int32} {m_tokenValue : Int32} {m_fault : Int32} {m_seen : Int32} {m_isKept : Int32} {m_place : Int32} {m_numbers : (Nat → Int32)} {m_boxes : (Nat → Int32)} {m_words : (Nat → Int32)} {res : Int32}
set_option maxHeartbeats 4000000 in
set_option maxRecDepth 100000 in
theorem tX7_count_127 (X : Bx p s m args meth c cX7_count 6 wsX7_count RX7 (some .int)) (v1 : Int32) (v2 : Int32) (v3 : Int32) (k_31 : Int32 → Int32 → Option (Int32)) (Hk_31 : ∀ (v2 : Int32) (v3 : Int32), k_31 v2 v3 = some res → ∀ (H : Heap) (locs : List Loc), Wo G A s (wX7_count G a_mo a_mo_numbers a_mo_boxes a_mo_words a_mo_weeks a_mo_routes a_mo_turns a_mo_leave a_mo_leases a_mo_uses a_mo_arcFrom a_mo_arcTo a_mo_arcRoom a_mo_arcCost a_mo_far a_mo_by a_mo_best a_mo_tape a_mo_kept m_arcs m_tapeMany m_tokenKind m_tokenAt m_tokenEnd m_tokenValue m_fault m_seen m_isKept m_place m_numbers m_boxes m_words) H locs → ∀ ls : Array Slot, lv_has ls 6 [(0, .ref a_mo), (1, .int v1), (2, .int v2), (3, .int v3)] → W p l e rmX7_count s m args below meth c H locs 0 0 (QI G A below args s res (wX7_count G a_mo a_mo_numbers a_mo_boxes a_mo_words a_mo_weeks a_mo_routes a_mo_turns a_mo_leave a_mo_leases a_mo_uses a_mo_arcFrom a_mo_arcTo a_mo_arcRoom a_mo_arcCost a_mo_far a_mo_by a_mo_best a_mo_tape a_mo_kept m_arcs m_tapeMany m_tokenKind m_tokenAt m_tokenEnd m_tokenValue m_fault m_seen m_isKept m_place m_numbers m_boxes m_words)) (F0 m 31 ls [])) (h : fX7_count_127 k_31 v2 v3 = some res) : ∀ (H : Heap) (locs : List Loc), Wo G A s (wX7_count G a_mo a_mo_numbers a_mo_boxes a_mo_words a_mo_weeks a_mo_routes a_mo_turns a_mo_leave a_mo_leases a_mo_uses a_mo_arcFrom a_mo_arcTo a_mo_arcRoom a_mo_arcCost a_mo_far a_mo_by a_mo_best a_mo_tape a_mo_kept m_arcs m_tapeMany m_tokenKind m_tokenAt m_tokenEnd m_tokenValue m_fault m_seen m_isKept m_place m_numbers m_boxes m_words) H locs → ∀ ls : Array Slot, lv_has ls 6 [(0, .ref a_mo), (1, .int v1), (2, .int v2), (3, .int v3)] → W p l e rmX7_count s m args below meth c H locs 0 0 (QI G A below args s res (wX7_count G a_mo a_mo_numbers a_mo_boxes a_mo_words a_mo_weeks a_mo_routes a_mo_turns a_mo_leave a_mo_leases a_mo_uses a_mo_arcFrom a_mo_arcTo a_mo_arcRoom a_mo_arcCost a_mo_far a_mo_by a_mo_best a_mo_tape a_mo_kept m_arcs m_tapeMany m_tokenKind m_tokenAt m_tokenEnd m_tokenValue m_fault m_seen m_isKept m_place m_numbers m_boxes m_words)) (F0 m 127 ls []) := by
  obtain ⟨hx, hb, -⟩ := id X.1
  intro H locs hW ls hl
  rw [fX7_count_127] at h
  refine lv_iinc (v := (v3 + (1 : Int32))) (lv' := [(3, .int (v3 + (1 : Int32))), (0, .ref a_mo), (1, .int v1), (2, .int v2)]) hx hb dX7_count_127 hl (k := 3) rfl (congrArg (fun z => v3 + z) qI_1) (by decide) rfl (fun ls hl => ?_)
  refine lv_goto (tgt := 31) hx hb dX7_count_130 (by decide) ?_
  exact Hk_31 v2 (v3 + (1 : Int32)) h H locs hW ls (lv_sub hl [1, 2, 3, 0] rfl)
set_option maxHeartbeats 4000000 in
set_option maxRecDepth 100000 in
theorem tX7_count_125 (X : Bx p s m args meth c cX7_count 6 wsX7_count RX7 (some .int)) (v1 : Int32) (v3 : Int32) (t0 : Int32) (t1 : Int32) (k_31 : Int32 → Int32 → Option (Int32)) (Hk_31 : ∀ (v2 : Int32) (v3 : Int32), k_31 v2 v3 = some res → ∀ (H : Heap) (locs : List Loc), Wo G A s (wX7_count G a_mo a_mo_numbers a_mo_boxes a_mo_words a_mo_weeks a_mo_routes a_mo_turns a_mo_leave a_mo_leases a_mo_uses a_mo_arcFrom a_mo_arcTo a_mo_arcRoom a_mo_arcCost a_mo_far a_mo_by a_mo_best a_mo_tape a_mo_kept m_arcs m_tapeMany m_tokenKind m_tokenAt m_tokenEnd m_tokenValue m_fault m_seen m_isKept m_place m_numbers m_boxes m_words) H locs → ∀ ls : Array Slot, lv_has ls 6 [(0, .ref a_mo), (1, .int v1), (2, .int v2), (3, .int v3)] → W p l e rmX7_count s m args below meth c H locs 0 0 (QI G A below args s res (wX7_count G a_mo a_mo_numbers a_mo_boxes a_mo_words a_mo_weeks a_mo_routes a_mo_turns a_mo_leave a_mo_leases a_mo_uses a_mo_arcFrom a_mo_arcTo a_mo_arcRoom a_mo_arcCost a_mo_far a_mo_by a_mo_best a_mo_tape a_mo_kept m_arcs m_tapeMany m_tokenKind m_tokenAt m_tokenEnd m_tokenValue m_fault m_seen m_isKept m_place m_numbers m_boxes m_words)) (F0 m 31 ls [])) (h : fX7_count_125 k_31 v3 t0 t1 = some res) : ∀ (H : Heap) (locs : List Loc), Wo G A s (wX7_count G a_mo a_mo_numbers a_mo_boxes a_mo_words a_mo_weeks a_mo_routes a_mo_turns a_mo_leave a_mo_leases a_mo_uses a_mo_arcFrom a_mo_arcTo a_mo_arcRoom a_mo_arcCost a_mo_far a_mo_by a_mo_best a_mo_tape a_mo_kept m_arcs m_tapeMany m_tokenKind m_tokenAt m_tokenEnd m_tokenValue m_fault m_seen m_isKept m_place m_numbers m_boxes m_words) H locs → ∀ ls : Array Slot, lv_has ls 6 [(0, .ref a_mo), (1, .int v1), (3, .int v3)] → W p l e rmX7_count s m args below meth c H locs 0 0 (QI G A below args s res (wX7_count G a_mo a_mo_numbers a_mo_boxes a_mo_words a_mo_weeks a_mo_routes a_mo_turns a_mo_leave a_mo_leases a_mo_uses a_mo_arcFrom a_mo_arcTo a_mo_arcRoom a_mo_arcCost a_mo_far a_mo_by a_mo_best a_mo_tape a_mo_kept m_arcs m_tapeMany m_tokenKind m_tokenAt m_tokenEnd m_tokenValue m_fault m_seen m_isKept m_place m_numbers m_boxes m_words)) (F0 m 125 ls [.int t1, .int t0]) := by
  obtain ⟨hx, hb, -⟩ := id X.1
  intro H locs hW ls hl
  rw [fX7_count_125] at h
  refine lv_iadd hx hb dX7_count_125 ?_
  refine lv_istore_n (lv' := [(2, .int (t0 + t1)), (0, .ref a_mo), (1, .int v1), (3, .int v3)]) hx hb dX7_count_126 rfl hl (by decide) rfl (fun ls hl => ?_)
  exact tX7_count_127 X v1 (t0 + t1) v3 k_31 Hk_31 h H locs hW ls (lv_sub hl [1, 2, 0, 3] rfl)
set_option maxHeartbeats 4000000 in
set_option maxRecDepth 100000 in
theorem tX7_count_112 (X : Bx p s m args meth c cX7_count 6 wsX7_count RX7 (some .int)) (v1 : Int32) (v2 : Int32) (v3 : Int32) (t0 : Int32) (k_31 : Int32 → Int32 → Option (Int32)) (Hk_31 : ∀ (v2 : Int32) (v3 : Int32), k_31 v2 v3 = some res → ∀ (H : Heap) (locs : List Loc), Wo G A s (wX7_count G a_mo a_mo_numbers a_mo_boxes a_mo_words a_mo_weeks a_mo_routes a_mo_turns a_mo_leave a_mo_leases a_mo_uses a_mo_arcFrom a_mo_arcTo a_mo_arcRoom a_mo_arcCost a_mo_far a_mo_by a_mo_best a_mo_tape a_mo_kept m_arcs m_tapeMany m_tokenKind m_tokenAt m_tokenEnd m_tokenValue m_fault m_seen m_isKept m_place m_numbers m_boxes m_words) H locs → ∀ ls : Array Slot, lv_has ls 6 [(0, .ref a_mo), (1, .int v1), (2, .int v2), (3, .int v3)] → W p l e rmX7_count s m args below meth c H locs 0 0 (QI G A below args s res (wX7_count G a_mo a_mo_numbers a_mo_boxes a_mo_words a_mo_weeks a_mo_routes a_mo_turns a_mo_leave a_mo_leases a_mo_uses a_mo_arcFrom a_mo_arcTo a_mo_arcRoom a_mo_arcCost a_mo_far a_mo_by a_mo_best a_mo_tape a_mo_kept m_arcs m_tapeMany m_tokenKind m_tokenAt m_tokenEnd m_tokenValue m_fault m_seen m_isKept m_place m_numbers m_boxes m_words)) (F0 m 31 ls [])) (h : fX7_count_112 k_31 v2 v3 t0 = some res) : ∀ (H : Heap) (locs : List Loc), Wo G A s (wX7_count G a_mo a_mo_numbers a_mo_boxes a_mo_words a_mo_weeks a_mo_routes a_mo_turns a_mo_leave a_mo_leases a_mo_uses a_mo_arcFrom a_mo_arcTo a_mo_arcRoom a_mo_arcCost a_mo_far a_mo_by a_mo_best a_mo_tape a_mo_kept m_arcs m_tapeMany m_tokenKind m_tokenAt m_tokenEnd m_tokenValue m_fault m_seen m_isKept m_place m_numbers m_boxes m_words) H locs → ∀ ls : Array Slot, lv_has ls 6 [(0, .ref a_mo), (1, .int v1), (2, .int v2), (3, .int v3)] → W p l e rmX7_count s m args below meth c H locs 0 0 (QI G A below args s res (wX7_count G a_mo a_mo_numbers a_mo_boxes a_mo_words a_mo_weeks a_mo_routes a_mo_turns a_mo_leave a_mo_leases a_mo_uses a_mo_arcFrom a_mo_arcTo a_mo_arcRoom a_mo_arcCost a_mo_far a_mo_by a_mo_best a_mo_tape a_mo_kept m_arcs m_tapeMany m_tokenKind m_tokenAt m_tokenEnd m_tokenValue m_fault m_seen m_isKept m_place m_numbers m_boxes m_words)) (F0 m 112 ls [.int t0]) := by
  obtain ⟨hx, hb, -⟩ := id X.1
  intro H locs hW ls hl
  rw [fX7_count_112] at h
  refine lv_istore (lv' := [(5, .int t0), (0, .ref a_mo), (1, .int v1), (2, .int v2), (3, .int v3)]) hx hb dX7_count_112 hl (by decide) rfl (fun ls hl => ?_)
  refine lv_iload_n hx hb dX7_count_114 rfl (lv_at hl 3 rfl) ?_
  refine lv_iload hx hb dX7_count_115 (lv_at hl 0 rfl) ?_
  refine lv_if_eq (tgt := 124) hx hb dX7_count_117 (by decide) (fun c8 => ?_) (fun c8 => ?_)
  · have h := (if_pos c8).symm.trans h
    refine lv_iconst hx hb dX7_count_124 qI_0 ?_
    exact tX7_count_125 X v1 v3 v2 (0 : Int32) k_31 Hk_31 h H locs hW ls (lv_sub hl [1, 2, 4] rfl)
  · have h := (if_neg c8).symm.trans h
    refine lv_iconst hx hb dX7_count_120 qI_1 ?_
    refine lv_goto (tgt := 125) hx hb dX7_count_121 (by decide) ?_
    exact tX7_count_125 X v1 v3 v2 (1 : Int32) k_31 Hk_31 h H locs hW ls (lv_sub hl [1, 2, 4] rfl)
set_option maxHeartbeats 4000000 in
set_option maxRecDepth 100000 in
theorem tX7_count_31 (X : Bx p s m args meth c cX7_count 6 wsX7_count RX7 (some .int)) (v1 : Int32)   : ∀ (n : Nat) (v2 : Int32) (v3 : Int32), fX7_count_31 v1 m_numbers m_boxes m_words n v2 v3 = some res → ∀ (H : Heap) (locs : List Loc), Wo G A s (wX7_count G a_mo a_mo_numbers a_mo_boxes a_mo_words a_mo_weeks a_mo_routes a_mo_turns a_mo_leave a_mo_leases a_mo_uses a_mo_arcFrom a_mo_arcTo a_mo_arcRoom a_mo_arcCost a_mo_far a_mo_by a_mo_best a_mo_tape a_mo_kept m_arcs m_tapeMany m_tokenKind m_tokenAt m_tokenEnd m_tokenValue m_fault m_seen m_isKept m_place m_numbers m_boxes m_words) H locs → ∀ ls : Array Slot, lv_has ls 6 [(0, .ref a_mo), (1, .int v1), (2, .int v2), (3, .int v3)] → W p l e rmX7_count s m args below meth c H locs 0 0 (QI G A below args s res (wX7_count G a_mo a_mo_numbers a_mo_boxes a_mo_words a_mo_weeks a_mo_routes a_mo_turns a_mo_leave a_mo_leases a_mo_uses a_mo_arcFrom a_mo_arcTo a_mo_arcRoom a_mo_arcCost a_mo_far a_mo_by a_mo_best a_mo_tape a_mo_kept m_arcs m_tapeMany m_tokenKind m_tokenAt m_tokenEnd m_tokenValue m_fault m_seen m_isKept m_place m_numbers m_boxes m_words)) (F0 m 31 ls []) := by
  obtain ⟨hx, hb, -⟩ := id X.1
  intro n
  induction n with
  | zero => intro v2 v3 h; rw [fX7_count_31] at h; cases h
  | succ n ih =>
    intro v2 v3 h H locs hW ls hl
    rw [fX7_count_31] at h
    refine lv_iload_n hx hb dX7_count_31 rfl (lv_at hl 3 rfl) ?_
    refine lv_aload_n hx hb dX7_count_32 rfl (lv_at hl 0 rfl) ?_
    refine g_get X hW eX7_count_7 0 rfl rfl dX7_count_33 ?_
    refine lv_iconst hx hb dX7_count_36 qI_1 ?_
    obtain ⟨g16, h⟩ := gd_some h
    refine g_ald X hW 1 rfl g16 dX7_count_37 ?_
    refine lv_icmp_ge (tgt := 133) hx hb dX7_count_38 (by decide) (fun c17 => ?_) (fun c17 => ?_)
    · have h := (if_pos c17).symm.trans h
      refine lv_iload_n hx hb dX7_count_133 rfl (lv_at hl 2 rfl) ?_
      obtain rfl := Option.some.inj h
      exact g_iret X hW dX7_count_134
    · have h := (if_neg c17).symm.trans h
      refine lv_aload_n hx hb dX7_count_41 rfl (lv_at hl 0 rfl) ?_
      refine lv_iload_n hx hb dX7_count_42 rfl (lv_at hl 3 rfl) ?_
      refine lv_iconst hx hb dX7_count_43 qI_5 ?_
      obtain ⟨r23, hq, h⟩ := bn1_some h
      refine g_cvi X hW (As := [.int v3, .int (5 : Int32)]) (ws' := (wX7_count G a_mo a_mo_numbers a_mo_boxes a_mo_words a_mo_weeks a_mo_routes a_mo_turns a_mo_leave a_mo_leases a_mo_uses a_mo_arcFrom a_mo_arcTo a_mo_arcRoom a_mo_arcCost a_mo_far a_mo_by a_mo_best a_mo_tape a_mo_kept m_arcs m_tapeMany m_tokenKind m_tokenAt m_tokenEnd m_tokenValue m_fault m_seen m_isKept m_place m_numbers m_boxes m_words)) ckX7_count_X7_get_68 (kcX7_get (l := l) G a_mo a_mo_boxes a_mo_numbers a_mo_words a_mo_weeks a_mo_routes a_mo_turns a_mo_leave a_mo_leases a_mo_uses a_mo_arcFrom a_mo_arcTo a_mo_arcRoom a_mo_arcCost a_mo_far a_mo_by a_mo_best a_mo_tape a_mo_kept v3 (5 : Int32) m_arcs m_tapeMany m_tokenKind m_tokenAt m_tokenEnd m_tokenValue m_fault m_seen m_isKept m_place m_boxes hq) ⟨rfl, rfl, Nat.le_of_ble_eq_true rfl, Nat.le_of_ble_eq_true rfl⟩ [0, 2] rfl rfl rfl rfl rfl rfl rfl hl.1 (Nat.le_of_ble_eq_true rfl) ⟨Nat.zero_le _, Nat.zero_le _⟩ dX7_count_44 (fun H locs hW => ?_)
      refine lv_if_ne (tgt := 127) hx hb dX7_count_47 (by decide) (fun c24 => ?_) (fun c24 => ?_)
      · have h := (if_neg c24).symm.trans h
        exact tX7_count_127 X v1 v2 v3 (fun v2 v3 => fX7_count_31 v1 m_numbers m_boxes m_words n v2 v3) ih h H locs hW ls hl
      · have h := (if_pos c24).symm.trans h
        refine lv_aload_n hx hb dX7_count_50 rfl (lv_at hl 0 rfl) ?_
        refine lv_iload_n hx hb dX7_count_51 rfl (lv_at hl 3 rfl) ?_
        refine lv_aload_n hx hb dX7_count_52 rfl (lv_at hl 0 rfl) ?_
        refine g_get X hW eX7_count_7 0 rfl rfl dX7_count_53 ?_
        refine lv_iconst hx hb dX7_count_56 qI_0 ?_
        obtain ⟨g30, h⟩ := gd_some h
        refine g_ald X hW 1 rfl g30 dX7_count_57 ?_
        refine lv_aload_n hx hb dX7_count_58 rfl (lv_at hl 0 rfl) ?_
        refine g_get X hW eX7_count_7 0 rfl rfl dX7_count_59 ?_
        refine lv_iconst hx hb dX7_count_62 qI_0 ?_
        obtain ⟨g34, h⟩ := gd_some h
        refine g_ald X hW 1 rfl g34 dX7_count_63 ?_
        obtain ⟨r35, hq, h⟩ := bn1_some h
        refine g_cvi X hW (As := [.int v3, .int (m_numbers (0 : Int32).toNatClampNeg), .int (m_numbers (0 : Int32).toNatClampNeg)]) (ws' := (wX7_count G a_mo a_mo_numbers a_mo_boxes a_mo_words a_mo_weeks a_mo_routes a_mo_turns a_mo_leave a_mo_leases a_mo_uses a_mo_arcFrom a_mo_arcTo a_mo_arcRoom a_mo_arcCost a_mo_far a_mo_by a_mo_best a_mo_tape a_mo_kept m_arcs m_tapeMany m_tokenKind m_tokenAt m_tokenEnd m_tokenValue m_fault m_seen m_isKept m_place m_numbers m_boxes m_words)) ckX7_count_X7_whereIs_100 (kcX7_whereIs (l := l) G a_mo a_mo_numbers a_mo_words a_mo_boxes a_mo_weeks a_mo_routes a_mo_turns a_mo_leave a_mo_leases a_mo_uses a_mo_arcFrom a_mo_arcTo a_mo_arcRoom a_mo_arcCost a_mo_far a_mo_by a_mo_best a_mo_tape a_mo_kept v3 (m_numbers (0 : Int32).toNatClampNeg) (m_numbers (0 : Int32).toNatClampNeg) m_arcs m_tapeMany m_tokenKind m_tokenAt m_tokenEnd m_tokenValue m_fault m_seen m_isKept m_place m_numbers m_words hq) ⟨rfl, rfl, Nat.le_of_ble_eq_true rfl, Nat.le_of_ble_eq_true rfl⟩ [0, 1, 3] rfl rfl rfl rfl rfl rfl rfl hl.1 (Nat.le_of_ble_eq_true rfl) ⟨Nat.zero_le _, Nat.zero_le _⟩ dX7_count_64 (fun H locs hW => ?_)
        refine lv_istore (lv' := [(4, .int r35), (0, .ref a_mo), (1, .int v1), (2, .int v2), (3, .int v3)]) hx hb dX7_count_67 hl (by decide) rfl (fun ls hl => ?_)
        refine lv_iload_n hx hb dX7_count_69 rfl (lv_at hl 2 rfl) ?_
        refine lv_bipush hx hb dX7_count_70 qB_30 ?_
        refine lv_icmp_ne (tgt := 83) hx hb dX7_count_72 (by decide) (fun c39 => ?_) (fun c39 => ?_)
        · have h := (if_neg c39).symm.trans h
          refine lv_iload_n hx hb dX7_count_83 rfl (lv_at hl 2 rfl) ?_
          refine lv_bipush hx hb dX7_count_84 qB_10 ?_
          refine lv_icmp_ne (tgt := 101) hx hb dX7_count_86 (by decide) (fun c42 => ?_) (fun c42 => ?_)
          · have h := (if_neg c42).symm.trans h
            refine lv_iload hx hb dX7_count_101 (lv_at hl 0 rfl) ?_
            refine lv_iload_n hx hb dX7_count_103 rfl (lv_at hl 2 rfl) ?_
            refine lv_icmp_ne (tgt := 111) hx hb dX7_count_104 (by decide) (fun c45 => ?_) (fun c45 => ?_)
            · have h := (if_neg c45).symm.trans h
              refine lv_iconst hx hb dX7_count_111 qI_0 ?_
              exact tX7_count_112 X v1 v2 v3 (0 : Int32) (fun v2 v3 => fX7_count_31 v1 m_numbers m_boxes m_words n v2 v3) ih h H locs hW ls (lv_sub hl [1, 2, 3, 4] rfl)
            · have h := (if_pos c45).symm.trans h
              refine lv_iconst hx hb dX7_count_107 qI_1 ?_
              refine lv_goto (tgt := 112) hx hb dX7_count_108 (by decide) ?_
              exact tX7_count_112 X v1 v2 v3 (1 : Int32) (fun v2 v3 => fX7_count_31 v1 m_numbers m_boxes m_words n v2 v3) ih h H locs hW ls (lv_sub hl [1, 2, 3, 4] rfl)
          · have h := (if_pos c42).symm.trans h
            refine lv_iload hx hb dX7_count_89 (lv_at hl 0 rfl) ?_
            refine lv_bipush hx hb dX7_count_91 qB_10 ?_
            refine lv_bipush hx hb dX7_count_93 qB_19 ?_
            obtain ⟨r52, hq, h⟩ := bn1_some h
            refine g_csi X hW (As := [.int r35, .int (10 : Int32), .int (19 : Int32)]) (ws' := (wX7_count G a_mo a_mo_numbers a_mo_boxes a_mo_words a_mo_weeks a_mo_routes a_mo_turns a_mo_leave a_mo_leases a_mo_uses a_mo_arcFrom a_mo_arcTo a_mo_arcRoom a_mo_arcCost a_mo_far a_mo_by a_mo_best a_mo_tape a_mo_kept m_arcs m_tapeMany m_tokenKind m_tokenAt m_tokenEnd m_tokenValue m_fault m_seen m_isKept m_place m_numbers m_boxes m_words)) ckX7_count_X7_in_64 (kcX7_in (l := l) G r35 (10 : Int32) (19 : Int32) hq) ⟨rfl, rfl, Nat.le_of_ble_eq_true rfl, Nat.le_of_ble_eq_true rfl⟩ [] rfl rfl rfl rfl rfl rfl hl.1 (Nat.le_of_ble_eq_true rfl) ⟨Nat.zero_le _, Nat.zero_le _⟩ dX7_count_95 (fun H locs hW => ?_)
            refine lv_goto (tgt := 112) hx hb dX7_count_98 (by decide) ?_
            exact tX7_count_112 X v1 v2 v3 r52 (fun v2 v3 => fX7_count_31 v1 m_numbers m_boxes m_words n v2 v3) ih h H locs hW ls (lv_sub hl [1, 2, 3, 4] rfl)
        · have h := (if_pos c39).symm.trans h
          refine lv_aload_n hx hb dX7_count_75 rfl (lv_at hl 1 rfl) ?_
          refine lv_iload_n hx hb dX7_count_76 rfl (lv_at hl 4 rfl) ?_
          obtain ⟨r56, hq, h⟩ := bn1_some h
          refine g_cvi X hW (As := [.int v3]) (ws' := (wX7_count G a_mo a_mo_numbers a_mo_boxes a_mo_words a_mo_weeks a_mo_routes a_mo_turns a_mo_leave a_mo_leases a_mo_uses a_mo_arcFrom a_mo_arcTo a_mo_arcRoom a_mo_arcCost a_mo_far a_mo_by a_mo_best a_mo_tape a_mo_kept m_arcs m_tapeMany m_tokenKind m_tokenAt m_tokenEnd m_tokenValue m_fault m_seen m_isKept m_place m_numbers m_boxes m_words)) ckX7_count_X7_isLate_106 (kcX7_isLate (l := l) G a_mo a_mo_numbers a_mo_words a_mo_boxes a_mo_weeks a_mo_routes a_mo_turns a_mo_leave a_mo_leases a_mo_uses a_mo_arcFrom a_mo_arcTo a_mo_arcRoom a_mo_arcCost a_mo_far a_mo_by a_mo_best a_mo_tape a_mo_kept v3 m_arcs m_tapeMany m_tokenKind m_tokenAt m_tokenEnd m_tokenValue m_fault m_seen m_isKept m_place m_numbers m_words hq) ⟨rfl, rfl, Nat.le_of_ble_eq_true rfl, Nat.le_of_ble_eq_true rfl⟩ [0, 1, 3] rfl rfl rfl rfl rfl rfl rfl hl.1 (Nat.le_of_ble_eq_true rfl) ⟨Nat.zero_le _, Nat.zero_le _⟩ dX7_count_77 (fun H locs hW => ?_)
          refine lv_goto (tgt := 112) hx hb dX7_count_80 (by decide) ?_
          exact tX7_count_112 X v1 v2 v3 r56 (fun v2 v3 => fX7_count_31 v1 m_numbers m_boxes m_words n v2 v3) ih h H locs hW ls (lv_sub hl [1, 2, 3, 4] rfl)
set_option maxHeartbeats 4000000 in
set_option maxRecDepth 100000 in
theorem tX7_count_27 (X : Bx p s m args meth c cX7_count 6 wsX7_count RX7 (some .int)) (v1 : Int32)   (h : fX7_count_27 v1 m_numbers m_boxes m_words = some res) : ∀ (H : Heap) (locs : List Loc), Wo G A s (wX7_count G a_mo a_mo_numbers a_mo_boxes a_mo_words a_mo_weeks a_mo_routes a_mo_turns a_mo_leave a_mo_leases a_mo_uses a_mo_arcFrom a_mo_arcTo a_mo_arcRoom a_mo_arcCost a_mo_far a_mo_by a_mo_best a_mo_tape a_mo_kept m_arcs m_tapeMany m_tokenKind m_tokenAt m_tokenEnd m_tokenValue m_fault m_seen m_isKept m_place m_numbers m_boxes m_words) H locs → ∀ ls : Array Slot, lv_has ls 6 [(0, .ref a_mo), (1, .int v1)] → W p l e rmX7_count s m args below meth c H locs 0 0 (QI G A below args s res (wX7_count G a_mo a_mo_numbers a_mo_boxes a_mo_words a_mo_weeks a_mo_routes a_mo_turns a_mo_leave a_mo_leases a_mo_uses a_mo_arcFrom a_mo_arcTo a_mo_arcRoom a_mo_arcCost a_mo_far a_mo_by a_mo_best a_mo_tape a_mo_kept m_arcs m_tapeMany m_tokenKind m_tokenAt m_tokenEnd m_tokenValue m_fault m_seen m_isKept m_place m_numbers m_boxes m_words)) (F0 m 27 ls []) := by
  obtain ⟨hx, hb, -⟩ := id X.1
  intro H locs hW ls hl
  rw [fX7_count_27] at h
  refine lv_iconst hx hb dX7_count_27 qI_0 ?_
  refine lv_istore_n (lv' := [(2, .int (0 : Int32)), (0, .ref a_mo), (1, .int v1)]) hx hb dX7_count_28 rfl hl (by decide) rfl (fun ls hl => ?_)
  refine lv_iconst hx hb dX7_count_29 qI_0 ?_
  refine lv_istore_n (lv' := [(3, .int (0 : Int32)), (2, .int (0 : Int32)), (0, .ref a_mo), (1, .int v1)]) hx hb dX7_count_30 rfl hl (by decide) rfl (fun ls hl => ?_)
  exact tX7_count_31 X v1 FU (0 : Int32) (0 : Int32) h H locs hW ls (lv_sub hl [2, 3, 1, 0] rfl)
set_option maxHeartbeats 4000000 in
set_option maxRecDepth 100000 in
theorem k0X7_count {l : Launch} (G : Gt) (a_mo a_mo_numbers a_mo_boxes a_mo_words a_mo_weeks a_mo_routes a_mo_turns a_mo_leave a_mo_leases a_mo_uses a_mo_arcFrom a_mo_arcTo a_mo_arcRoom a_mo_arcCost a_mo_far a_mo_by a_mo_best a_mo_tape a_mo_kept : Nat) (v1 : Int32) (m_arcs : Int32) (m_tapeMany : Int32) (m_tokenKind : Int32) (m_tokenAt : Int32) (m_tokenEnd : Int32) (m_tokenValue : Int32) (m_fault : Int32) (m_seen : Int32) (m_isKept : Int32) (m_place : Int32) (m_numbers : (Nat → Int32)) (m_boxes : (Nat → Int32)) (m_words : (Nat → Int32)) {res : Int32} (h : fX7_count v1 m_numbers m_boxes m_words = some res) : CtI G l yX7_count wsX7_count rmX7_count [.ref a_mo, .int v1] (wX7_count G a_mo a_mo_numbers a_mo_boxes a_mo_words a_mo_weeks a_mo_routes a_mo_turns a_mo_leave a_mo_leases a_mo_uses a_mo_arcFrom a_mo_arcTo a_mo_arcRoom a_mo_arcCost a_mo_far a_mo_by a_mo_best a_mo_tape a_mo_kept m_arcs m_tapeMany m_tokenKind m_tokenAt m_tokenEnd m_tokenValue m_fault m_seen m_isKept m_place m_numbers m_boxes m_words) res (wX7_count G a_mo a_mo_numbers a_mo_boxes a_mo_words a_mo_weeks a_mo_routes a_mo_turns a_mo_leave a_mo_leases a_mo_uses a_mo_arcFrom a_mo_arcTo a_mo_arcRoom a_mo_arcCost a_mo_far a_mo_by a_mo_best a_mo_tape a_mo_kept m_arcs m_tapeMany m_tokenKind m_tokenAt m_tokenEnd m_tokenValue m_fault m_seen m_isKept m_place m_numbers m_boxes m_words) := by
  refine CtI.mk (cc := cX7_count) (maxL := 6) (ret := (some .int)) (own := RX7) (by decide) rfl rfl (Nat.le_of_ble_eq_true rfl) ?_
  intro p e s m below meth c A X ls hl hW
  obtain ⟨hx, hb, -⟩ := id X.1
  have hl : lv_has ls 6 [(0, .ref a_mo), (1, .int v1)] := hl
  generalize hH : s.heap = H at hW ⊢
  generalize hLo : ([] : List Loc) = locs at hW ⊢
  rw [fX7_count] at h
  refine lv_iload_n hx hb dX7_count_0 rfl (lv_at hl 1 rfl) ?_
  obtain ⟨r63, hq, h⟩ := bn1_some h
  refine g_csi X hW (As := [.int v1]) (ws' := (wX7_count G a_mo a_mo_numbers a_mo_boxes a_mo_words a_mo_weeks a_mo_routes a_mo_turns a_mo_leave a_mo_leases a_mo_uses a_mo_arcFrom a_mo_arcTo a_mo_arcRoom a_mo_arcCost a_mo_far a_mo_by a_mo_best a_mo_tape a_mo_kept m_arcs m_tapeMany m_tokenKind m_tokenAt m_tokenEnd m_tokenValue m_fault m_seen m_isKept m_place m_numbers m_boxes m_words)) ckX7_count_X7_isPlace_90 (kcX7_isPlace (l := l) G v1 hq) ⟨rfl, rfl, Nat.le_of_ble_eq_true rfl, Nat.le_of_ble_eq_true rfl⟩ [] rfl rfl rfl rfl rfl rfl hl.1 (Nat.le_of_ble_eq_true rfl) ⟨Nat.zero_le _, Nat.zero_le _⟩ dX7_count_1 (fun H locs hW => ?_)
  refine lv_if_ne (tgt := 27) hx hb dX7_count_4 (by decide) (fun c64 => ?_) (fun c64 => ?_)
  · have h := (if_neg c64).symm.trans h
    exact tX7_count_27 X v1 h H locs hW ls hl
  · have h := (if_pos c64).symm.trans h
    refine lv_iload_n hx hb dX7_count_7 rfl (lv_at hl 1 rfl) ?_
    refine lv_bipush hx hb dX7_count_8 qB_10 ?_
    refine lv_icmp_eq (tgt := 27) hx hb dX7_count_10 (by decide) (fun c67 => ?_) (fun c67 => ?_)
    · have h := (if_pos c67).symm.trans h
      exact tX7_count_27 X v1 h H locs hW ls hl
    · have h := (if_neg c67).symm.trans h
      refine lv_iload_n hx hb dX7_count_13 rfl (lv_at hl 1 rfl) ?_
      refine lv_bipush hx hb dX7_count_14 qB_20 ?_
      refine lv_icmp_eq (tgt := 27) hx hb dX7_count_16 (by decide) (fun c70 => ?_) (fun c70 => ?_)
      · have h := (if_pos c70).symm.trans h
        exact tX7_count_27 X v1 h H locs hW ls hl
      · have h := (if_neg c70).symm.trans h
        refine lv_iload_n hx hb dX7_count_19 rfl (lv_at hl 1 rfl) ?_
        refine lv_bipush hx hb dX7_count_20 qB_30 ?_
        refine lv_icmp_eq (tgt := 27) hx hb dX7_count_22 (by decide) (fun c73 => ?_) (fun c73 => ?_)
        · have h := (if_pos c73).symm.trans h
          exact tX7_count_27 X v1 h H locs hW ls hl
        · have h := (if_neg c73).symm.trans h
          refine lv_iconst hx hb dX7_count_25 qI_m1 ?_
          obtain rfl := Option.some.inj h
          exact g_iret X hW dX7_count_26
theorem kcX7_count {l : Launch} (G : Gt) (a_mo a_mo_numbers a_mo_boxes a_mo_words a_mo_weeks a_mo_routes a_mo_turns a_mo_leave a_mo_leases a_mo_uses a_mo_arcFrom a_mo_arcTo a_mo_arcRoom a_mo_arcCost a_mo_far a_mo_by a_mo_best a_mo_tape a_mo_kept : Nat) (v1 : Int32) (m_arcs : Int32) (m_tapeMany : Int32) (m_tokenKind : Int32) (m_tokenAt : Int32) (m_tokenEnd : Int32) (m_tokenValue : Int32) (m_fault : Int32) (m_seen : Int32) (m_isKept : Int32) (m_place : Int32) (m_numbers : (Nat → Int32)) (m_boxes : (Nat → Int32)) (m_words : (Nat → Int32)) {r : Int32}  (h : fX7_count v1 m_numbers m_boxes m_words = some r) : CtI G l yX7_count wsX7_count rmX7_count [.ref a_mo, .int v1] (wX7_count G a_mo a_mo_numbers a_mo_boxes a_mo_words a_mo_weeks a_mo_routes a_mo_turns a_mo_leave a_mo_leases a_mo_uses a_mo_arcFrom a_mo_arcTo a_mo_arcRoom a_mo_arcCost a_mo_far a_mo_by a_mo_best a_mo_tape a_mo_kept m_arcs m_tapeMany m_tokenKind m_tokenAt m_tokenEnd m_tokenValue m_fault m_seen m_isKept m_place m_numbers m_boxes m_words) r (wX7_count G a_mo a_mo_numbers a_mo_boxes a_mo_words a_mo_weeks a_mo_routes a_mo_turns a_mo_leave a_mo_leases a_mo_uses a_mo_arcFrom a_mo_arcTo a_mo_arcRoom a_mo_arcCost a_mo_far a_mo_by a_mo_best a_mo_tape a_mo_kept m_arcs m_tapeMany m_tokenKind m_tokenAt m_tokenEnd m_tokenValue m_fault m_seen m_isKept m_place m_numbers m_boxes m_words) := k0X7_count G a_mo a_mo_numbers a_mo_boxes a_mo_words a_mo_weeks a_mo_routes a_mo_turns a_mo_leave a_mo_leases a_mo_uses a_mo_arcFrom a_mo_arcTo a_mo_arcRoom a_mo_arcCost a_mo_far a_mo_by a_mo_best a_mo_tape a_mo_kept v1 m_arcs m_tapeMany m_tokenKind m_tokenAt m_tokenEnd m_tokenValue m_fault m_seen m_isKept m_place m_numbers m_boxes m_words h
end MX7_count
/-! EmptyBoxesModel.week -/
section MX7_week
theorem hdX7_week : yX7_week.cls = RX7 ∧ yX7_week.cls ≠ "java/lang/invoke/MethodHandle" ∧ yX7_week.cls ≠ "java/lang/invoke/VarHandle" ∧ (parseMethodDescriptor yX7_week.desc).map (fun d => d.parameters.length) = some 4 := by decide +kernel
abbrev wX7_week (G : Gt) (a_mo a_mo_weeks a_mo_numbers a_mo_boxes a_mo_words a_mo_routes a_mo_turns a_mo_leave a_mo_leases a_mo_uses a_mo_arcFrom a_mo_arcTo a_mo_arcRoom a_mo_arcCost a_mo_far a_mo_by a_mo_best a_mo_tape a_mo_kept : Nat) (m_arcs : Int32) (m_tapeMany : Int32) (m_tokenKind : Int32) (m_tokenAt : Int32) (m_tokenEnd : Int32) (m_tokenValue : Int32) (m_fault : Int32) (m_seen : Int32) (m_isKept : Int32) (m_place : Int32) (m_weeks : (Nat → Int32)) : va_W := [(a_mo, .inr (7, [.ref a_mo_numbers, .ref a_mo_boxes, .ref a_mo_words, .ref a_mo_weeks, .ref a_mo_routes, .ref a_mo_turns, .ref a_mo_leave, .ref a_mo_leases, .ref a_mo_uses, .ref a_mo_arcFrom, .ref a_mo_arcTo, .ref a_mo_arcRoom, .ref a_mo_arcCost, .int m_arcs, .ref a_mo_far, .ref a_mo_by, .ref a_mo_best, .ref a_mo_tape, .int m_tapeMany, .int m_tokenKind, .int m_tokenAt, .int m_tokenEnd, .int m_tokenValue, .int m_fault, .int m_seen, .int m_isKept, .ref a_mo_kept, .int m_place])), (a_mo_weeks, .inl (G.2.1, 60, .inl m_weeks))]
abbrev rmX7_week : Room := { frames := 2, cells := 0, slots := 0, locals := 42 }
theorem iX7_week_X7 : ∀ w ∈ wsX70, w ∈ wsX7_week := by decide +kernel
theorem eX7_week_19 : Fk wsX7_week RX7 19 7 3 := ⟨RX7, TX7, 28, rfl, iX7_week_X7, by decide, by decide +kernel⟩
theorem ckX7_week_X7_in_64 : CkS wsX7_week RX7 64 yX7_in wsX7_in cX7_in 3 (some .boolean) 3 := ⟨_, gX7_week_X7_in, rfl, hdX7_in.2⟩
theorem ckX7_week_X7_isPlace_90 : CkS wsX7_week RX7 90 yX7_isPlace wsX7_isPlace cX7_isPlace 1 (some .boolean) 1 := ⟨_, gX7_week_X7_isPlace, rfl, hdX7_isPlace.2⟩
variable {p : Program} {l : Launch} {e : Env} {s : State} {m : MethodId} {args : Array Value} {below : List Frame} {meth : Method} {c : Code} {A : Nat → Prop} {G : Gt} {a_mo a_mo_weeks a_mo_numbers a_mo_boxes a_mo_words a_mo_routes a_mo_turns a_mo_leave a_mo_leases a_mo_uses a_mo_arcFrom a_mo_arcTo a_mo_arcRoom a_mo_arcCost a_mo_far a_mo_by a_mo_best a_mo_tape a_mo_kept : Nat} {m_arcs : Int32} {m_tapeMany : Int32} {m_tokenKind : Int32} {m_tokenAt : Int32} {m_tokenEnd : Int32} {m_tokenValue : Int32} {m_fault : Int32} {m_seen : Int32} {m_isKept : Int32} {m_place : Int32} {res : Int32 × (Nat → Int32)}
set_option maxHeartbeats 4000000 in
set_option maxRecDepth 100000 in
theorem k0X7_week {l : Launch} (G : Gt) (a_mo a_mo_weeks a_mo_numbers a_mo_boxes a_mo_words a_mo_routes a_mo_turns a_mo_leave a_mo_leases a_mo_uses a_mo_arcFrom a_mo_arcTo a_mo_arcRoom a_mo_arcCost a_mo_far a_mo_by a_mo_best a_mo_tape a_mo_kept : Nat) (v1 : Int32) (v2 : Int32) (v3 : Int32) (v4 : Int32) (m_arcs : Int32) (m_tapeMany : Int32) (m_tokenKind : Int32) (m_tokenAt : Int32) (m_tokenEnd : Int32) (m_tokenValue : Int32) (m_fault : Int32) (m_seen : Int32) (m_isKept : Int32) (m_place : Int32) (m_weeks : (Nat → Int32)) {res : Int32 × (Nat → Int32)} (h : fX7_week v1 v2 v3 v4 m_weeks = some res) : CtI G l yX7_week wsX7_week rmX7_week [.ref a_mo, .int v1, .int v2, .int v3, .int v4] (wX7_week G a_mo a_mo_weeks a_mo_numbers a_mo_boxes a_mo_words a_mo_routes a_mo_turns a_mo_leave a_mo_leases a_mo_uses a_mo_arcFrom a_mo_arcTo a_mo_arcRoom a_mo_arcCost a_mo_far a_mo_by a_mo_best a_mo_tape a_mo_kept m_arcs m_tapeMany m_tokenKind m_tokenAt m_tokenEnd m_tokenValue m_fault m_seen m_isKept m_place m_weeks) res.1 (wX7_week G a_mo a_mo_weeks a_mo_numbers a_mo_boxes a_mo_words a_mo_routes a_mo_turns a_mo_leave a_mo_leases a_mo_uses a_mo_arcFrom a_mo_arcTo a_mo_arcRoom a_mo_arcCost a_mo_far a_mo_by a_mo_best a_mo_tape a_mo_kept m_arcs m_tapeMany m_tokenKind m_tokenAt m_tokenEnd m_tokenValue m_fault m_seen m_isKept m_place res.2) := by
  refine CtI.mk (cc := cX7_week) (maxL := 7) (ret := (some .int)) (own := RX7) (by decide) rfl rfl (Nat.le_of_ble_eq_true rfl) ?_
  intro p e s m below meth c A X ls hl hW
  obtain ⟨hx, hb, -⟩ := id X.1
  have hl : lv_has ls 7 [(0, .ref a_mo), (1, .int v1), (2, .int v2), (3, .int v3), (4, .int v4)] := hl
  generalize hH : s.heap = H at hW ⊢
  generalize hLo : ([] : List Loc) = locs at hW ⊢
  rw [fX7_week] at h
  refine lv_iload_n hx hb dX7_week_0 rfl (lv_at hl 1 rfl) ?_
  obtain ⟨r2, hq, h⟩ := bn1_some h
  refine g_csi X hW (As := [.int v1]) (ws' := (wX7_week G a_mo a_mo_weeks a_mo_numbers a_mo_boxes a_mo_words a_mo_routes a_mo_turns a_mo_leave a_mo_leases a_mo_uses a_mo_arcFrom a_mo_arcTo a_mo_arcRoom a_mo_arcCost a_mo_far a_mo_by a_mo_best a_mo_tape a_mo_kept m_arcs m_tapeMany m_tokenKind m_tokenAt m_tokenEnd m_tokenValue m_fault m_seen m_isKept m_place m_weeks)) ckX7_week_X7_isPlace_90 (kcX7_isPlace (l := l) G v1 hq) ⟨rfl, rfl, Nat.le_of_ble_eq_true rfl, Nat.le_of_ble_eq_true rfl⟩ [] rfl rfl rfl rfl rfl rfl hl.1 (Nat.le_of_ble_eq_true rfl) ⟨Nat.zero_le _, Nat.zero_le _⟩ dX7_week_1 (fun H locs hW => ?_)
  refine lv_if_eq (tgt := 36) hx hb dX7_week_4 (by decide) (fun c3 => ?_) (fun c3 => ?_)
  · have h := (if_pos c3).symm.trans h
    refine lv_iconst hx hb dX7_week_36 qI_m1 ?_
    obtain rfl := Option.some.inj h
    exact g_iret X hW dX7_week_37
  · have h := (if_neg c3).symm.trans h
    refine lv_iload_n hx hb dX7_week_7 rfl (lv_at hl 2 rfl) ?_
    refine lv_iconst hx hb dX7_week_8 qI_0 ?_
    refine lv_iconst hx hb dX7_week_9 qI_4 ?_
    obtain ⟨r9, hq, h⟩ := bn1_some h
    refine g_csi X hW (As := [.int v2, .int (0 : Int32), .int (4 : Int32)]) (ws' := (wX7_week G a_mo a_mo_weeks a_mo_numbers a_mo_boxes a_mo_words a_mo_routes a_mo_turns a_mo_leave a_mo_leases a_mo_uses a_mo_arcFrom a_mo_arcTo a_mo_arcRoom a_mo_arcCost a_mo_far a_mo_by a_mo_best a_mo_tape a_mo_kept m_arcs m_tapeMany m_tokenKind m_tokenAt m_tokenEnd m_tokenValue m_fault m_seen m_isKept m_place m_weeks)) ckX7_week_X7_in_64 (kcX7_in (l := l) G v2 (0 : Int32) (4 : Int32) hq) ⟨rfl, rfl, Nat.le_of_ble_eq_true rfl, Nat.le_of_ble_eq_true rfl⟩ [] rfl rfl rfl rfl rfl rfl hl.1 (Nat.le_of_ble_eq_true rfl) ⟨Nat.zero_le _, Nat.zero_le _⟩ dX7_week_10 (fun H locs hW => ?_)
    refine lv_if_eq (tgt := 36) hx hb dX7_week_13 (by decide) (fun c10 => ?_) (fun c10 => ?_)
    · have h := (if_pos c10).symm.trans h
      refine lv_iconst hx hb dX7_week_36 qI_m1 ?_
      obtain rfl := Option.some.inj h
      exact g_iret X hW dX7_week_37
    · have h := (if_neg c10).symm.trans h
      refine lv_iload_n hx hb dX7_week_16 rfl (lv_at hl 3 rfl) ?_
      refine lv_iconst hx hb dX7_week_17 qI_0 ?_
      refine lv_iconst hx hb dX7_week_18 qI_1 ?_
      obtain ⟨r16, hq, h⟩ := bn1_some h
      refine g_csi X hW (As := [.int v3, .int (0 : Int32), .int (1 : Int32)]) (ws' := (wX7_week G a_mo a_mo_weeks a_mo_numbers a_mo_boxes a_mo_words a_mo_routes a_mo_turns a_mo_leave a_mo_leases a_mo_uses a_mo_arcFrom a_mo_arcTo a_mo_arcRoom a_mo_arcCost a_mo_far a_mo_by a_mo_best a_mo_tape a_mo_kept m_arcs m_tapeMany m_tokenKind m_tokenAt m_tokenEnd m_tokenValue m_fault m_seen m_isKept m_place m_weeks)) ckX7_week_X7_in_64 (kcX7_in (l := l) G v3 (0 : Int32) (1 : Int32) hq) ⟨rfl, rfl, Nat.le_of_ble_eq_true rfl, Nat.le_of_ble_eq_true rfl⟩ [] rfl rfl rfl rfl rfl rfl hl.1 (Nat.le_of_ble_eq_true rfl) ⟨Nat.zero_le _, Nat.zero_le _⟩ dX7_week_19 (fun H locs hW => ?_)
      refine lv_if_eq (tgt := 36) hx hb dX7_week_22 (by decide) (fun c17 => ?_) (fun c17 => ?_)
      · have h := (if_pos c17).symm.trans h
        refine lv_iconst hx hb dX7_week_36 qI_m1 ?_
        obtain rfl := Option.some.inj h
        exact g_iret X hW dX7_week_37
      · have h := (if_neg c17).symm.trans h
        refine lv_iload hx hb dX7_week_25 (lv_at hl 4 rfl) ?_
        refine lv_iconst hx hb dX7_week_27 qI_0 ?_
        refine lv_bipush hx hb dX7_week_28 qB_9 ?_
        obtain ⟨r23, hq, h⟩ := bn1_some h
        refine g_csi X hW (As := [.int v4, .int (0 : Int32), .int (9 : Int32)]) (ws' := (wX7_week G a_mo a_mo_weeks a_mo_numbers a_mo_boxes a_mo_words a_mo_routes a_mo_turns a_mo_leave a_mo_leases a_mo_uses a_mo_arcFrom a_mo_arcTo a_mo_arcRoom a_mo_arcCost a_mo_far a_mo_by a_mo_best a_mo_tape a_mo_kept m_arcs m_tapeMany m_tokenKind m_tokenAt m_tokenEnd m_tokenValue m_fault m_seen m_isKept m_place m_weeks)) ckX7_week_X7_in_64 (kcX7_in (l := l) G v4 (0 : Int32) (9 : Int32) hq) ⟨rfl, rfl, Nat.le_of_ble_eq_true rfl, Nat.le_of_ble_eq_true rfl⟩ [] rfl rfl rfl rfl rfl rfl hl.1 (Nat.le_of_ble_eq_true rfl) ⟨Nat.zero_le _, Nat.zero_le _⟩ dX7_week_30 (fun H locs hW => ?_)
        refine lv_if_ne (tgt := 38) hx hb dX7_week_33 (by decide) (fun c24 => ?_) (fun c24 => ?_)
        · have h := (if_neg c24).symm.trans h
          refine lv_bipush hx hb dX7_week_38 qB_30 ?_
          refine lv_iload_n hx hb dX7_week_40 rfl (lv_at hl 3 rfl) ?_
          refine lv_imul hx hb dX7_week_41 ?_
          refine lv_iconst hx hb dX7_week_42 qI_5 ?_
          refine lv_iload_n hx hb dX7_week_43 rfl (lv_at hl 1 rfl) ?_
          refine lv_imul hx hb dX7_week_44 ?_
          refine lv_iadd hx hb dX7_week_45 ?_
          refine lv_iload_n hx hb dX7_week_46 rfl (lv_at hl 2 rfl) ?_
          refine lv_iadd hx hb dX7_week_47 ?_
          refine lv_istore (lv' := [(5, .int ((((30 : Int32) * v3) + ((5 : Int32) * v1)) + v2)), (0, .ref a_mo), (1, .int v1), (2, .int v2), (3, .int v3), (4, .int v4)]) hx hb dX7_week_48 hl (by decide) rfl (fun ls hl => ?_)
          refine lv_aload_n hx hb dX7_week_50 rfl (lv_at hl 1 rfl) ?_
          refine g_get X hW eX7_week_19 0 rfl rfl dX7_week_51 ?_
          refine lv_iload hx hb dX7_week_54 (lv_at hl 0 rfl) ?_
          obtain ⟨g38, h⟩ := gd_some h
          refine g_ald X hW 1 rfl g38 dX7_week_56 ?_
          refine lv_istore (lv' := [(6, .int (m_weeks ((((30 : Int32) * v3) + ((5 : Int32) * v1)) + v2).toNatClampNeg)), (5, .int ((((30 : Int32) * v3) + ((5 : Int32) * v1)) + v2)), (0, .ref a_mo), (1, .int v1), (2, .int v2), (3, .int v3), (4, .int v4)]) hx hb dX7_week_57 hl (by decide) rfl (fun ls hl => ?_)
          refine lv_aload_n hx hb dX7_week_59 rfl (lv_at hl 2 rfl) ?_
          refine g_get X hW eX7_week_19 0 rfl rfl dX7_week_60 ?_
          refine lv_iload hx hb dX7_week_63 (lv_at hl 1 rfl) ?_
          refine lv_iload hx hb dX7_week_65 (lv_at hl 6 rfl) ?_
          obtain ⟨g44, h⟩ := gd_some h
          refine g_ast X hW (ws' := (wX7_week G a_mo a_mo_weeks a_mo_numbers a_mo_boxes a_mo_words a_mo_routes a_mo_turns a_mo_leave a_mo_leases a_mo_uses a_mo_arcFrom a_mo_arcTo a_mo_arcRoom a_mo_arcCost a_mo_far a_mo_by a_mo_best a_mo_tape a_mo_kept m_arcs m_tapeMany m_tokenKind m_tokenAt m_tokenEnd m_tokenValue m_fault m_seen m_isKept m_place (upd m_weeks ((((30 : Int32) * v3) + ((5 : Int32) * v1)) + v2).toNatClampNeg v4))) 1 rfl g44 rfl dX7_week_67 (fun H locs hW => ?_)
          refine lv_iload hx hb dX7_week_68 (lv_at hl 0 rfl) ?_
          obtain rfl := Option.some.inj h
          exact g_iret X hW dX7_week_70
        · have h := (if_pos c24).symm.trans h
          refine lv_iconst hx hb dX7_week_36 qI_m1 ?_
          obtain rfl := Option.some.inj h
          exact g_iret X hW dX7_week_37
theorem kcX7_week {l : Launch} (G : Gt) (a_mo a_mo_weeks a_mo_numbers a_mo_boxes a_mo_words a_mo_routes a_mo_turns a_mo_leave a_mo_leases a_mo_uses a_mo_arcFrom a_mo_arcTo a_mo_arcRoom a_mo_arcCost a_mo_far a_mo_by a_mo_best a_mo_tape a_mo_kept : Nat) (v1 : Int32) (v2 : Int32) (v3 : Int32) (v4 : Int32) (m_arcs : Int32) (m_tapeMany : Int32) (m_tokenKind : Int32) (m_tokenAt : Int32) (m_tokenEnd : Int32) (m_tokenValue : Int32) (m_fault : Int32) (m_seen : Int32) (m_isKept : Int32) (m_place : Int32) (m_weeks : (Nat → Int32)) {r : Int32} {z_m_weeks : (Nat → Int32)} (h : fX7_week v1 v2 v3 v4 m_weeks = some (r, z_m_weeks)) : CtI G l yX7_week wsX7_week rmX7_week [.ref a_mo, .int v1, .int v2, .int v3, .int v4] (wX7_week G a_mo a_mo_weeks a_mo_numbers a_mo_boxes a_mo_words a_mo_routes a_mo_turns a_mo_leave a_mo_leases a_mo_uses a_mo_arcFrom a_mo_arcTo a_mo_arcRoom a_mo_arcCost a_mo_far a_mo_by a_mo_best a_mo_tape a_mo_kept m_arcs m_tapeMany m_tokenKind m_tokenAt m_tokenEnd m_tokenValue m_fault m_seen m_isKept m_place m_weeks) r (wX7_week G a_mo a_mo_weeks a_mo_numbers a_mo_boxes a_mo_words a_mo_routes a_mo_turns a_mo_leave a_mo_leases a_mo_uses a_mo_arcFrom a_mo_arcTo a_mo_arcRoom a_mo_arcCost a_mo_far a_mo_by a_mo_best a_mo_tape a_mo_kept m_arcs m_tapeMany m_tokenKind m_tokenAt m_tokenEnd m_tokenValue m_fault m_seen m_isKept m_place z_m_weeks) := k0X7_week G a_mo a_mo_weeks a_mo_numbers a_mo_boxes a_mo_words a_mo_routes a_mo_turns a_mo_leave a_mo_leases a_mo_uses a_mo_arcFrom a_mo_arcTo a_mo_arcRoom a_mo_arcCost a_mo_far a_mo_by a_mo_best a_mo_tape a_mo_kept v1 v2 v3 v4 m_arcs m_tapeMany m_tokenKind m_tokenAt m_tokenEnd m_tokenValue m_fault m_seen m_isKept m_place m_weeks h
end MX7_week
/-! EmptyBoxesModel.route -/
section MX7_route
theorem hdX7_route : yX7_route.cls = RX7 ∧ yX7_route.cls ≠ "java/lang/invoke/MethodHandle" ∧ yX7_route.cls ≠ "java/lang/invoke/VarHandle" ∧ (parseMethodDescriptor yX7_route.desc).map (fun d => d.parameters.length) = some 4 := by decide +kernel
abbrev wX7_route (G : Gt) (a_mo a_mo_numbers a_mo_routes a_mo_boxes a_mo_words a_mo_weeks a_mo_turns a_mo_leave a_mo_leases a_mo_uses a_mo_arcFrom a_mo_arcTo a_mo_arcRoom a_mo_arcCost a_mo_far a_mo_by a_mo_best a_mo_tape a_mo_kept : Nat) (m_arcs : Int32) (m_tapeMany : Int32) (m_tokenKind : Int32) (m_tokenAt : Int32) (m_tokenEnd : Int32) (m_tokenValue : Int32) (m_fault : Int32) (m_seen : Int32) (m_isKept : Int32) (m_place : Int32) (m_numbers : (Nat → Int32)) (m_routes : (Nat → Int32)) : va_W := [(a_mo, .inr (7, [.ref a_mo_numbers, .ref a_mo_boxes, .ref a_mo_words, .ref a_mo_weeks, .ref a_mo_routes, .ref a_mo_turns, .ref a_mo_leave, .ref a_mo_leases, .ref a_mo_uses, .ref a_mo_arcFrom, .ref a_mo_arcTo, .ref a_mo_arcRoom, .ref a_mo_arcCost, .int m_arcs, .ref a_mo_far, .ref a_mo_by, .ref a_mo_best, .ref a_mo_tape, .int m_tapeMany, .int m_tokenKind, .int m_tokenAt, .int m_tokenEnd, .int m_tokenValue, .int m_fault, .int m_seen, .int m_isKept, .ref a_mo_kept, .int m_place])), (a_mo_numbers, .inl (G.2.1, 10, .inl m_numbers)), (a_mo_routes, .inl (G.2.1, 50, .inl m_routes))]
abbrev rmX7_route : Room := { frames := 2, cells := 0, slots := 0, locals := 42 }
theorem iX7_route_X7 : ∀ w ∈ wsX70, w ∈ wsX7_route := by decide +kernel
theorem eX7_route_22 : Fk wsX7_route RX7 22 7 4 := ⟨RX7, TX7, 28, rfl, iX7_route_X7, by decide, by decide +kernel⟩
theorem eX7_route_7 : Fk wsX7_route RX7 7 7 0 := ⟨RX7, TX7, 28, rfl, iX7_route_X7, by decide, by decide +kernel⟩
theorem ckX7_route_X7_in_64 : CkS wsX7_route RX7 64 yX7_in wsX7_in cX7_in 3 (some .boolean) 3 := ⟨_, gX7_route_X7_in, rfl, hdX7_in.2⟩
theorem ckX7_route_X7_isPlace_90 : CkS wsX7_route RX7 90 yX7_isPlace wsX7_isPlace cX7_isPlace 1 (some .boolean) 1 := ⟨_, gX7_route_X7_isPlace, rfl, hdX7_isPlace.2⟩
variable {p : Program} {l : Launch} {e : Env} {s : State} {m : MethodId} {args : Array Value} {below : List Frame} {meth : Method} {c : Code} {A : Nat → Prop} {G : Gt} {a_mo a_mo_numbers a_mo_routes a_mo_boxes a_mo_words a_mo_weeks a_mo_turns a_mo_leave a_mo_leases a_mo_uses a_mo_arcFrom a_mo_arcTo a_mo_arcRoom a_mo_arcCost a_mo_far a_mo_by a_mo_best a_mo_tape a_mo_kept : Nat} {m_arcs : Int32} {m_tapeMany : Int32} {m_tokenKind : Int32} {m_tokenAt : Int32} {m_tokenEnd : Int32} {m_tokenValue : Int32} {m_fault : Int32} {m_seen : Int32} {m_isKept : Int32} {m_place : Int32} {res : Int32 × (Nat → Int32) × (Nat → Int32)}
set_option maxHeartbeats 4000000 in
set_option maxRecDepth 100000 in
theorem k0X7_route {l : Launch} (G : Gt) (a_mo a_mo_numbers a_mo_routes a_mo_boxes a_mo_words a_mo_weeks a_mo_turns a_mo_leave a_mo_leases a_mo_uses a_mo_arcFrom a_mo_arcTo a_mo_arcRoom a_mo_arcCost a_mo_far a_mo_by a_mo_best a_mo_tape a_mo_kept : Nat) (v1 : Int32) (v2 : Int32) (v3 : Int32) (v4 : Int32) (m_arcs : Int32) (m_tapeMany : Int32) (m_tokenKind : Int32) (m_tokenAt : Int32) (m_tokenEnd : Int32) (m_tokenValue : Int32) (m_fault : Int32) (m_seen : Int32) (m_isKept : Int32) (m_place : Int32) (m_numbers : (Nat → Int32)) (m_routes : (Nat → Int32)) {res : Int32 × (Nat → Int32) × (Nat → Int32)} (h : fX7_route v1 v2 v3 v4 m_numbers m_routes = some res) : CtI G l yX7_route wsX7_route rmX7_route [.ref a_mo, .int v1, .int v2, .int v3, .int v4] (wX7_route G a_mo a_mo_numbers a_mo_routes a_mo_boxes a_mo_words a_mo_weeks a_mo_turns a_mo_leave a_mo_leases a_mo_uses a_mo_arcFrom a_mo_arcTo a_mo_arcRoom a_mo_arcCost a_mo_far a_mo_by a_mo_best a_mo_tape a_mo_kept m_arcs m_tapeMany m_tokenKind m_tokenAt m_tokenEnd m_tokenValue m_fault m_seen m_isKept m_place m_numbers m_routes) res.1 (wX7_route G a_mo a_mo_numbers a_mo_routes a_mo_boxes a_mo_words a_mo_weeks a_mo_turns a_mo_leave a_mo_leases a_mo_uses a_mo_arcFrom a_mo_arcTo a_mo_arcRoom a_mo_arcCost a_mo_far a_mo_by a_mo_best a_mo_tape a_mo_kept m_arcs m_tapeMany m_tokenKind m_tokenAt m_tokenEnd m_tokenValue m_fault m_seen m_isKept m_place res.2.1 res.2.2) := by
  refine CtI.mk (cc := cX7_route) (maxL := 6) (ret := (some .int)) (own := RX7) (by decide) rfl rfl (Nat.le_of_ble_eq_true rfl) ?_
  intro p e s m below meth c A X ls hl hW
  obtain ⟨hx, hb, -⟩ := id X.1
  have hl : lv_has ls 6 [(0, .ref a_mo), (1, .int v1), (2, .int v2), (3, .int v3), (4, .int v4)] := hl
  generalize hH : s.heap = H at hW ⊢
  generalize hLo : ([] : List Loc) = locs at hW ⊢
  rw [fX7_route] at h
  refine lv_iload_n hx hb dX7_route_0 rfl (lv_at hl 1 rfl) ?_
  obtain ⟨r2, hq, h⟩ := bn1_some h
  refine g_csi X hW (As := [.int v1]) (ws' := (wX7_route G a_mo a_mo_numbers a_mo_routes a_mo_boxes a_mo_words a_mo_weeks a_mo_turns a_mo_leave a_mo_leases a_mo_uses a_mo_arcFrom a_mo_arcTo a_mo_arcRoom a_mo_arcCost a_mo_far a_mo_by a_mo_best a_mo_tape a_mo_kept m_arcs m_tapeMany m_tokenKind m_tokenAt m_tokenEnd m_tokenValue m_fault m_seen m_isKept m_place m_numbers m_routes)) ckX7_route_X7_isPlace_90 (kcX7_isPlace (l := l) G v1 hq) ⟨rfl, rfl, Nat.le_of_ble_eq_true rfl, Nat.le_of_ble_eq_true rfl⟩ [] rfl rfl rfl rfl rfl rfl hl.1 (Nat.le_of_ble_eq_true rfl) ⟨Nat.zero_le _, Nat.zero_le _⟩ dX7_route_1 (fun H locs hW => ?_)
  refine lv_if_eq (tgt := 40) hx hb dX7_route_4 (by decide) (fun c3 => ?_) (fun c3 => ?_)
  · have h := (if_pos c3).symm.trans h
    refine lv_iconst hx hb dX7_route_40 qI_m1 ?_
    obtain rfl := Option.some.inj h
    exact g_iret X hW dX7_route_41
  · have h := (if_neg c3).symm.trans h
    refine lv_iload_n hx hb dX7_route_7 rfl (lv_at hl 2 rfl) ?_
    obtain ⟨r7, hq, h⟩ := bn1_some h
    refine g_csi X hW (As := [.int v2]) (ws' := (wX7_route G a_mo a_mo_numbers a_mo_routes a_mo_boxes a_mo_words a_mo_weeks a_mo_turns a_mo_leave a_mo_leases a_mo_uses a_mo_arcFrom a_mo_arcTo a_mo_arcRoom a_mo_arcCost a_mo_far a_mo_by a_mo_best a_mo_tape a_mo_kept m_arcs m_tapeMany m_tokenKind m_tokenAt m_tokenEnd m_tokenValue m_fault m_seen m_isKept m_place m_numbers m_routes)) ckX7_route_X7_isPlace_90 (kcX7_isPlace (l := l) G v2 hq) ⟨rfl, rfl, Nat.le_of_ble_eq_true rfl, Nat.le_of_ble_eq_true rfl⟩ [] rfl rfl rfl rfl rfl rfl hl.1 (Nat.le_of_ble_eq_true rfl) ⟨Nat.zero_le _, Nat.zero_le _⟩ dX7_route_8 (fun H locs hW => ?_)
    refine lv_if_eq (tgt := 40) hx hb dX7_route_11 (by decide) (fun c8 => ?_) (fun c8 => ?_)
    · have h := (if_pos c8).symm.trans h
      refine lv_iconst hx hb dX7_route_40 qI_m1 ?_
      obtain rfl := Option.some.inj h
      exact g_iret X hW dX7_route_41
    · have h := (if_neg c8).symm.trans h
      refine lv_iload_n hx hb dX7_route_14 rfl (lv_at hl 1 rfl) ?_
      refine lv_iload_n hx hb dX7_route_15 rfl (lv_at hl 2 rfl) ?_
      refine lv_icmp_eq (tgt := 40) hx hb dX7_route_16 (by decide) (fun c13 => ?_) (fun c13 => ?_)
      · have h := (if_pos c13).symm.trans h
        refine lv_iconst hx hb dX7_route_40 qI_m1 ?_
        obtain rfl := Option.some.inj h
        exact g_iret X hW dX7_route_41
      · have h := (if_neg c13).symm.trans h
        refine lv_iload_n hx hb dX7_route_19 rfl (lv_at hl 3 rfl) ?_
        refine lv_iconst hx hb dX7_route_20 qI_0 ?_
        refine lv_iconst hx hb dX7_route_21 qI_2 ?_
        obtain ⟨r19, hq, h⟩ := bn1_some h
        refine g_csi X hW (As := [.int v3, .int (0 : Int32), .int (2 : Int32)]) (ws' := (wX7_route G a_mo a_mo_numbers a_mo_routes a_mo_boxes a_mo_words a_mo_weeks a_mo_turns a_mo_leave a_mo_leases a_mo_uses a_mo_arcFrom a_mo_arcTo a_mo_arcRoom a_mo_arcCost a_mo_far a_mo_by a_mo_best a_mo_tape a_mo_kept m_arcs m_tapeMany m_tokenKind m_tokenAt m_tokenEnd m_tokenValue m_fault m_seen m_isKept m_place m_numbers m_routes)) ckX7_route_X7_in_64 (kcX7_in (l := l) G v3 (0 : Int32) (2 : Int32) hq) ⟨rfl, rfl, Nat.le_of_ble_eq_true rfl, Nat.le_of_ble_eq_true rfl⟩ [] rfl rfl rfl rfl rfl rfl hl.1 (Nat.le_of_ble_eq_true rfl) ⟨Nat.zero_le _, Nat.zero_le _⟩ dX7_route_22 (fun H locs hW => ?_)
        refine lv_if_eq (tgt := 40) hx hb dX7_route_25 (by decide) (fun c20 => ?_) (fun c20 => ?_)
        · have h := (if_pos c20).symm.trans h
          refine lv_iconst hx hb dX7_route_40 qI_m1 ?_
          obtain rfl := Option.some.inj h
          exact g_iret X hW dX7_route_41
        · have h := (if_neg c20).symm.trans h
          refine lv_iload hx hb dX7_route_28 (lv_at hl 4 rfl) ?_
          refine lv_iconst hx hb dX7_route_30 qI_0 ?_
          refine lv_sipush hx hb dX7_route_31 qS_999 ?_
          obtain ⟨r26, hq, h⟩ := bn1_some h
          refine g_csi X hW (As := [.int v4, .int (0 : Int32), .int (999 : Int32)]) (ws' := (wX7_route G a_mo a_mo_numbers a_mo_routes a_mo_boxes a_mo_words a_mo_weeks a_mo_turns a_mo_leave a_mo_leases a_mo_uses a_mo_arcFrom a_mo_arcTo a_mo_arcRoom a_mo_arcCost a_mo_far a_mo_by a_mo_best a_mo_tape a_mo_kept m_arcs m_tapeMany m_tokenKind m_tokenAt m_tokenEnd m_tokenValue m_fault m_seen m_isKept m_place m_numbers m_routes)) ckX7_route_X7_in_64 (kcX7_in (l := l) G v4 (0 : Int32) (999 : Int32) hq) ⟨rfl, rfl, Nat.le_of_ble_eq_true rfl, Nat.le_of_ble_eq_true rfl⟩ [] rfl rfl rfl rfl rfl rfl hl.1 (Nat.le_of_ble_eq_true rfl) ⟨Nat.zero_le _, Nat.zero_le _⟩ dX7_route_34 (fun H locs hW => ?_)
          refine lv_if_ne (tgt := 42) hx hb dX7_route_37 (by decide) (fun c27 => ?_) (fun c27 => ?_)
          · have h := (if_neg c27).symm.trans h
            refine lv_aload_n hx hb dX7_route_42 rfl (lv_at hl 0 rfl) ?_
            refine g_get X hW eX7_route_7 0 rfl rfl dX7_route_43 ?_
            refine lv_iconst hx hb dX7_route_46 qI_3 ?_
            obtain ⟨g31, h⟩ := gd_some h
            refine g_ald X hW 1 rfl g31 dX7_route_47 ?_
            refine lv_bipush hx hb dX7_route_48 qB_10 ?_
            refine lv_icmp_ne (tgt := 56) hx hb dX7_route_50 (by decide) (fun c33 => ?_) (fun c33 => ?_)
            · have h := (if_neg c33).symm.trans h
              refine lv_iconst hx hb dX7_route_56 qI_5 ?_
              refine lv_aload_n hx hb dX7_route_57 rfl (lv_at hl 0 rfl) ?_
              refine g_get X hW eX7_route_7 0 rfl rfl dX7_route_58 ?_
              refine lv_iconst hx hb dX7_route_61 qI_3 ?_
              obtain ⟨g38, h⟩ := gd_some h
              refine g_ald X hW 1 rfl g38 dX7_route_62 ?_
              refine lv_imul hx hb dX7_route_63 ?_
              refine lv_istore (lv' := [(5, .int ((5 : Int32) * (m_numbers (3 : Int32).toNatClampNeg))), (0, .ref a_mo), (1, .int v1), (2, .int v2), (3, .int v3), (4, .int v4)]) hx hb dX7_route_64 hl (by decide) rfl (fun ls hl => ?_)
              refine lv_aload_n hx hb dX7_route_66 rfl (lv_at hl 1 rfl) ?_
              refine g_get X hW eX7_route_22 0 rfl rfl dX7_route_67 ?_
              refine lv_iload hx hb dX7_route_70 (lv_at hl 0 rfl) ?_
              refine lv_iload_n hx hb dX7_route_72 rfl (lv_at hl 2 rfl) ?_
              obtain ⟨g45, h⟩ := gd_some h
              refine g_ast X hW (ws' := (wX7_route G a_mo a_mo_numbers a_mo_routes a_mo_boxes a_mo_words a_mo_weeks a_mo_turns a_mo_leave a_mo_leases a_mo_uses a_mo_arcFrom a_mo_arcTo a_mo_arcRoom a_mo_arcCost a_mo_far a_mo_by a_mo_best a_mo_tape a_mo_kept m_arcs m_tapeMany m_tokenKind m_tokenAt m_tokenEnd m_tokenValue m_fault m_seen m_isKept m_place m_numbers (upd m_routes ((5 : Int32) * (m_numbers (3 : Int32).toNatClampNeg)).toNatClampNeg v1))) 2 rfl g45 rfl dX7_route_73 (fun H locs hW => ?_)
              refine lv_aload_n hx hb dX7_route_74 rfl (lv_at hl 1 rfl) ?_
              refine g_get X hW eX7_route_22 0 rfl rfl dX7_route_75 ?_
              refine lv_iload hx hb dX7_route_78 (lv_at hl 0 rfl) ?_
              refine lv_iconst hx hb dX7_route_80 qI_1 ?_
              refine lv_iadd hx hb dX7_route_81 ?_
              refine lv_iload_n hx hb dX7_route_82 rfl (lv_at hl 3 rfl) ?_
              obtain ⟨g52, h⟩ := gd_some h
              refine g_ast X hW (ws' := (wX7_route G a_mo a_mo_numbers a_mo_routes a_mo_boxes a_mo_words a_mo_weeks a_mo_turns a_mo_leave a_mo_leases a_mo_uses a_mo_arcFrom a_mo_arcTo a_mo_arcRoom a_mo_arcCost a_mo_far a_mo_by a_mo_best a_mo_tape a_mo_kept m_arcs m_tapeMany m_tokenKind m_tokenAt m_tokenEnd m_tokenValue m_fault m_seen m_isKept m_place m_numbers (upd (upd m_routes ((5 : Int32) * (m_numbers (3 : Int32).toNatClampNeg)).toNatClampNeg v1) (((5 : Int32) * (m_numbers (3 : Int32).toNatClampNeg)) + (1 : Int32)).toNatClampNeg v2))) 2 rfl g52 rfl dX7_route_83 (fun H locs hW => ?_)
              refine lv_aload_n hx hb dX7_route_84 rfl (lv_at hl 1 rfl) ?_
              refine g_get X hW eX7_route_22 0 rfl rfl dX7_route_85 ?_
              refine lv_iload hx hb dX7_route_88 (lv_at hl 0 rfl) ?_
              refine lv_iconst hx hb dX7_route_90 qI_2 ?_
              refine lv_iadd hx hb dX7_route_91 ?_
              refine lv_iload_n hx hb dX7_route_92 rfl (lv_at hl 4 rfl) ?_
              obtain ⟨g59, h⟩ := gd_some h
              refine g_ast X hW (ws' := (wX7_route G a_mo a_mo_numbers a_mo_routes a_mo_boxes a_mo_words a_mo_weeks a_mo_turns a_mo_leave a_mo_leases a_mo_uses a_mo_arcFrom a_mo_arcTo a_mo_arcRoom a_mo_arcCost a_mo_far a_mo_by a_mo_best a_mo_tape a_mo_kept m_arcs m_tapeMany m_tokenKind m_tokenAt m_tokenEnd m_tokenValue m_fault m_seen m_isKept m_place m_numbers (upd (upd (upd m_routes ((5 : Int32) * (m_numbers (3 : Int32).toNatClampNeg)).toNatClampNeg v1) (((5 : Int32) * (m_numbers (3 : Int32).toNatClampNeg)) + (1 : Int32)).toNatClampNeg v2) (((5 : Int32) * (m_numbers (3 : Int32).toNatClampNeg)) + (2 : Int32)).toNatClampNeg v3))) 2 rfl g59 rfl dX7_route_93 (fun H locs hW => ?_)
              refine lv_aload_n hx hb dX7_route_94 rfl (lv_at hl 1 rfl) ?_
              refine g_get X hW eX7_route_22 0 rfl rfl dX7_route_95 ?_
              refine lv_iload hx hb dX7_route_98 (lv_at hl 0 rfl) ?_
              refine lv_iconst hx hb dX7_route_100 qI_3 ?_
              refine lv_iadd hx hb dX7_route_101 ?_
              refine lv_iload hx hb dX7_route_102 (lv_at hl 5 rfl) ?_
              refine lv_bipush hx hb dX7_route_104 qB_100 ?_
              refine g_irem hx hb dX7_route_106 (by decide) ?_
              obtain ⟨g68, h⟩ := gd_some h
              refine g_ast X hW (ws' := (wX7_route G a_mo a_mo_numbers a_mo_routes a_mo_boxes a_mo_words a_mo_weeks a_mo_turns a_mo_leave a_mo_leases a_mo_uses a_mo_arcFrom a_mo_arcTo a_mo_arcRoom a_mo_arcCost a_mo_far a_mo_by a_mo_best a_mo_tape a_mo_kept m_arcs m_tapeMany m_tokenKind m_tokenAt m_tokenEnd m_tokenValue m_fault m_seen m_isKept m_place m_numbers (upd (upd (upd (upd m_routes ((5 : Int32) * (m_numbers (3 : Int32).toNatClampNeg)).toNatClampNeg v1) (((5 : Int32) * (m_numbers (3 : Int32).toNatClampNeg)) + (1 : Int32)).toNatClampNeg v2) (((5 : Int32) * (m_numbers (3 : Int32).toNatClampNeg)) + (2 : Int32)).toNatClampNeg v3) (((5 : Int32) * (m_numbers (3 : Int32).toNatClampNeg)) + (3 : Int32)).toNatClampNeg (irem v4 (100 : Int32))))) 2 rfl g68 rfl dX7_route_107 (fun H locs hW => ?_)
              refine lv_aload_n hx hb dX7_route_108 rfl (lv_at hl 1 rfl) ?_
              refine g_get X hW eX7_route_22 0 rfl rfl dX7_route_109 ?_
              refine lv_iload hx hb dX7_route_112 (lv_at hl 0 rfl) ?_
              refine lv_iconst hx hb dX7_route_114 qI_4 ?_
              refine lv_iadd hx hb dX7_route_115 ?_
              refine lv_iload hx hb dX7_route_116 (lv_at hl 5 rfl) ?_
              refine lv_bipush hx hb dX7_route_118 qB_100 ?_
              refine lv_idiv hx hb dX7_route_120 (by decide) ?_
              obtain ⟨g77, h⟩ := gd_some h
              refine g_ast X hW (ws' := (wX7_route G a_mo a_mo_numbers a_mo_routes a_mo_boxes a_mo_words a_mo_weeks a_mo_turns a_mo_leave a_mo_leases a_mo_uses a_mo_arcFrom a_mo_arcTo a_mo_arcRoom a_mo_arcCost a_mo_far a_mo_by a_mo_best a_mo_tape a_mo_kept m_arcs m_tapeMany m_tokenKind m_tokenAt m_tokenEnd m_tokenValue m_fault m_seen m_isKept m_place m_numbers (upd (upd (upd (upd (upd m_routes ((5 : Int32) * (m_numbers (3 : Int32).toNatClampNeg)).toNatClampNeg v1) (((5 : Int32) * (m_numbers (3 : Int32).toNatClampNeg)) + (1 : Int32)).toNatClampNeg v2) (((5 : Int32) * (m_numbers (3 : Int32).toNatClampNeg)) + (2 : Int32)).toNatClampNeg v3) (((5 : Int32) * (m_numbers (3 : Int32).toNatClampNeg)) + (3 : Int32)).toNatClampNeg (irem v4 (100 : Int32))) (((5 : Int32) * (m_numbers (3 : Int32).toNatClampNeg)) + (4 : Int32)).toNatClampNeg (v4 / (100 : Int32))))) 2 rfl g77 rfl dX7_route_121 (fun H locs hW => ?_)
              refine lv_aload_n hx hb dX7_route_122 rfl (lv_at hl 1 rfl) ?_
              refine g_get X hW eX7_route_7 0 rfl rfl dX7_route_123 ?_
              refine lv_iconst hx hb dX7_route_126 qI_3 ?_
              refine lv_dup2_11 hx hb dX7_route_127 rfl rfl ?_
              obtain ⟨g82, h⟩ := gd_some h
              refine g_ald X hW 1 rfl g82 dX7_route_128 ?_
              refine lv_iconst hx hb dX7_route_129 qI_1 ?_
              refine lv_iadd hx hb dX7_route_130 ?_
              obtain ⟨g85, h⟩ := gd_some h
              refine g_ast X hW (ws' := (wX7_route G a_mo a_mo_numbers a_mo_routes a_mo_boxes a_mo_words a_mo_weeks a_mo_turns a_mo_leave a_mo_leases a_mo_uses a_mo_arcFrom a_mo_arcTo a_mo_arcRoom a_mo_arcCost a_mo_far a_mo_by a_mo_best a_mo_tape a_mo_kept m_arcs m_tapeMany m_tokenKind m_tokenAt m_tokenEnd m_tokenValue m_fault m_seen m_isKept m_place (upd m_numbers (3 : Int32).toNatClampNeg ((m_numbers (3 : Int32).toNatClampNeg) + (1 : Int32))) (upd (upd (upd (upd (upd m_routes ((5 : Int32) * (m_numbers (3 : Int32).toNatClampNeg)).toNatClampNeg v1) (((5 : Int32) * (m_numbers (3 : Int32).toNatClampNeg)) + (1 : Int32)).toNatClampNeg v2) (((5 : Int32) * (m_numbers (3 : Int32).toNatClampNeg)) + (2 : Int32)).toNatClampNeg v3) (((5 : Int32) * (m_numbers (3 : Int32).toNatClampNeg)) + (3 : Int32)).toNatClampNeg (irem v4 (100 : Int32))) (((5 : Int32) * (m_numbers (3 : Int32).toNatClampNeg)) + (4 : Int32)).toNatClampNeg (v4 / (100 : Int32))))) 1 rfl g85 rfl dX7_route_131 (fun H locs hW => ?_)
              refine lv_aload_n hx hb dX7_route_132 rfl (lv_at hl 1 rfl) ?_
              refine g_get X hW eX7_route_7 0 rfl rfl dX7_route_133 ?_
              refine lv_iconst hx hb dX7_route_136 qI_3 ?_
              obtain ⟨g89, h⟩ := gd_some h
              refine g_ald X hW 1 rfl g89 dX7_route_137 ?_
              refine lv_iconst hx hb dX7_route_138 qI_1 ?_
              refine lv_isub hx hb dX7_route_139 ?_
              obtain rfl := Option.some.inj h
              exact g_iret X hW dX7_route_140
            · have h := (if_pos c33).symm.trans h
              refine lv_bipush hx hb dX7_route_53 qB_m2 ?_
              obtain rfl := Option.some.inj h
              exact g_iret X hW dX7_route_55
          · have h := (if_pos c27).symm.trans h
            refine lv_iconst hx hb dX7_route_40 qI_m1 ?_
            obtain rfl := Option.some.inj h
            exact g_iret X hW dX7_route_41
theorem kcX7_route {l : Launch} (G : Gt) (a_mo a_mo_numbers a_mo_routes a_mo_boxes a_mo_words a_mo_weeks a_mo_turns a_mo_leave a_mo_leases a_mo_uses a_mo_arcFrom a_mo_arcTo a_mo_arcRoom a_mo_arcCost a_mo_far a_mo_by a_mo_best a_mo_tape a_mo_kept : Nat) (v1 : Int32) (v2 : Int32) (v3 : Int32) (v4 : Int32) (m_arcs : Int32) (m_tapeMany : Int32) (m_tokenKind : Int32) (m_tokenAt : Int32) (m_tokenEnd : Int32) (m_tokenValue : Int32) (m_fault : Int32) (m_seen : Int32) (m_isKept : Int32) (m_place : Int32) (m_numbers : (Nat → Int32)) (m_routes : (Nat → Int32)) {r : Int32} {z_m_numbers : (Nat → Int32)} {z_m_routes : (Nat → Int32)} (h : fX7_route v1 v2 v3 v4 m_numbers m_routes = some (r, z_m_numbers, z_m_routes)) : CtI G l yX7_route wsX7_route rmX7_route [.ref a_mo, .int v1, .int v2, .int v3, .int v4] (wX7_route G a_mo a_mo_numbers a_mo_routes a_mo_boxes a_mo_words a_mo_weeks a_mo_turns a_mo_leave a_mo_leases a_mo_uses a_mo_arcFrom a_mo_arcTo a_mo_arcRoom a_mo_arcCost a_mo_far a_mo_by a_mo_best a_mo_tape a_mo_kept m_arcs m_tapeMany m_tokenKind m_tokenAt m_tokenEnd m_tokenValue m_fault m_seen m_isKept m_place m_numbers m_routes) r (wX7_route G a_mo a_mo_numbers a_mo_routes a_mo_boxes a_mo_words a_mo_weeks a_mo_turns a_mo_leave a_mo_leases a_mo_uses a_mo_arcFrom a_mo_arcTo a_mo_arcRoom a_mo_arcCost a_mo_far a_mo_by a_mo_best a_mo_tape a_mo_kept m_arcs m_tapeMany m_tokenKind m_tokenAt m_tokenEnd m_tokenValue m_fault m_seen m_isKept m_place z_m_numbers z_m_routes) := k0X7_route G a_mo a_mo_numbers a_mo_routes a_mo_boxes a_mo_words a_mo_weeks a_mo_turns a_mo_leave a_mo_leases a_mo_uses a_mo_arcFrom a_mo_arcTo a_mo_arcRoom a_mo_arcCost a_mo_far a_mo_by a_mo_best a_mo_tape a_mo_kept v1 v2 v3 v4 m_arcs m_tapeMany m_tokenKind m_tokenAt m_tokenEnd m_tokenValue m_fault m_seen m_isKept m_place m_numbers m_routes h
end MX7_route
/-! EmptyBoxesModel.lack -/
section MX7_lack
theorem hdX7_lack : yX7_lack.cls = RX7 ∧ yX7_lack.cls ≠ "java/lang/invoke/MethodHandle" ∧ yX7_lack.cls ≠ "java/lang/invoke/VarHandle" ∧ (parseMethodDescriptor yX7_lack.desc).map (fun d => d.parameters.length) = some 1 := by decide +kernel
abbrev wX7_lack (G : Gt) (a_mo a_mo_numbers a_mo_boxes a_mo_words a_mo_weeks a_mo_routes a_mo_turns a_mo_leave a_mo_leases a_mo_uses a_mo_arcFrom a_mo_arcTo a_mo_arcRoom a_mo_arcCost a_mo_far a_mo_by a_mo_best a_mo_tape a_mo_kept : Nat) (m_arcs : Int32) (m_tapeMany : Int32) (m_tokenKind : Int32) (m_tokenAt : Int32) (m_tokenEnd : Int32) (m_tokenValue : Int32) (m_fault : Int32) (m_seen : Int32) (m_isKept : Int32) (m_place : Int32) (m_numbers : (Nat → Int32)) : va_W := [(a_mo, .inr (7, [.ref a_mo_numbers, .ref a_mo_boxes, .ref a_mo_words, .ref a_mo_weeks, .ref a_mo_routes, .ref a_mo_turns, .ref a_mo_leave, .ref a_mo_leases, .ref a_mo_uses, .ref a_mo_arcFrom, .ref a_mo_arcTo, .ref a_mo_arcRoom, .ref a_mo_arcCost, .int m_arcs, .ref a_mo_far, .ref a_mo_by, .ref a_mo_best, .ref a_mo_tape, .int m_tapeMany, .int m_tokenKind, .int m_tokenAt, .int m_tokenEnd, .int m_tokenValue, .int m_fault, .int m_seen, .int m_isKept, .ref a_mo_kept, .int m_place])), (a_mo_numbers, .inl (G.2.1, 10, .inl m_numbers))]
abbrev rmX7_lack : Room := { frames := 1, cells := 0, slots := 0, locals := 22 }
theorem iX7_lack_X7 : ∀ w ∈ wsX70, w ∈ wsX7_lack := by decide +kernel
theorem eX7_lack_7 : Fk wsX7_lack RX7 7 7 0 := ⟨RX7, TX7, 28, rfl, iX7_lack_X7, by decide, by decide +kernel⟩
theorem ckX7_lack_X7_in_64 : CkS wsX7_lack RX7 64 yX7_in wsX7_in cX7_in 3 (some .boolean) 3 := ⟨_, gX7_lack_X7_in, rfl, hdX7_in.2⟩
variable {p : Program} {l : Launch} {e : Env} {s : State} {m : MethodId} {args : Array Value} {below : List Frame} {meth : Method} {c : Code} {A : Nat → Prop} {G : Gt} {a_mo a_mo_numbers a_mo_boxes a_mo_words a_mo_weeks a_mo_routes a_mo_turns a_mo_leave a_mo_leases a_mo_uses a_mo_arcFrom a_mo_arcTo a_mo_arcRoom a_mo_arcCost a_mo_far a_mo_by a_mo_best a_mo_tape a_mo_kept : Nat} {m_arcs : Int32} {m_tapeMany : Int32} {m_tokenKind : Int32} {m_tokenAt : Int32} {m_tokenEnd : Int32} {m_tokenValue : Int32} {m_fault : Int32} {m_seen : Int32} {m_isKept : Int32} {m_place : Int32} {res : Int32 × (Nat → Int32)}
set_option maxHeartbeats 4000000 in
set_option maxRecDepth 100000 in
theorem k0X7_lack {l : Launch} (G : Gt) (a_mo a_mo_numbers a_mo_boxes a_mo_words a_mo_weeks a_mo_routes a_mo_turns a_mo_leave a_mo_leases a_mo_uses a_mo_arcFrom a_mo_arcTo a_mo_arcRoom a_mo_arcCost a_mo_far a_mo_by a_mo_best a_mo_tape a_mo_kept : Nat) (v1 : Int32) (m_arcs : Int32) (m_tapeMany : Int32) (m_tokenKind : Int32) (m_tokenAt : Int32) (m_tokenEnd : Int32) (m_tokenValue : Int32) (m_fault : Int32) (m_seen : Int32) (m_isKept : Int32) (m_place : Int32) (m_numbers : (Nat → Int32)) {res : Int32 × (Nat → Int32)} (h : fX7_lack v1 m_numbers = some res) : CtI G l yX7_lack wsX7_lack rmX7_lack [.ref a_mo, .int v1] (wX7_lack G a_mo a_mo_numbers a_mo_boxes a_mo_words a_mo_weeks a_mo_routes a_mo_turns a_mo_leave a_mo_leases a_mo_uses a_mo_arcFrom a_mo_arcTo a_mo_arcRoom a_mo_arcCost a_mo_far a_mo_by a_mo_best a_mo_tape a_mo_kept m_arcs m_tapeMany m_tokenKind m_tokenAt m_tokenEnd m_tokenValue m_fault m_seen m_isKept m_place m_numbers) res.1 (wX7_lack G a_mo a_mo_numbers a_mo_boxes a_mo_words a_mo_weeks a_mo_routes a_mo_turns a_mo_leave a_mo_leases a_mo_uses a_mo_arcFrom a_mo_arcTo a_mo_arcRoom a_mo_arcCost a_mo_far a_mo_by a_mo_best a_mo_tape a_mo_kept m_arcs m_tapeMany m_tokenKind m_tokenAt m_tokenEnd m_tokenValue m_fault m_seen m_isKept m_place res.2) := by
  refine CtI.mk (cc := cX7_lack) (maxL := 3) (ret := (some .int)) (own := RX7) (by decide) rfl rfl (Nat.le_of_ble_eq_true rfl) ?_
  intro p e s m below meth c A X ls hl hW
  obtain ⟨hx, hb, -⟩ := id X.1
  have hl : lv_has ls 3 [(0, .ref a_mo), (1, .int v1)] := hl
  generalize hH : s.heap = H at hW ⊢
  generalize hLo : ([] : List Loc) = locs at hW ⊢
  rw [fX7_lack] at h
  refine lv_iload_n hx hb dX7_lack_0 rfl (lv_at hl 1 rfl) ?_
  refine lv_iconst hx hb dX7_lack_1 qI_0 ?_
  refine lv_sipush hx hb dX7_lack_2 qS_500 ?_
  obtain ⟨r4, hq, h⟩ := bn1_some h
  refine g_csi X hW (As := [.int v1, .int (0 : Int32), .int (500 : Int32)]) (ws' := (wX7_lack G a_mo a_mo_numbers a_mo_boxes a_mo_words a_mo_weeks a_mo_routes a_mo_turns a_mo_leave a_mo_leases a_mo_uses a_mo_arcFrom a_mo_arcTo a_mo_arcRoom a_mo_arcCost a_mo_far a_mo_by a_mo_best a_mo_tape a_mo_kept m_arcs m_tapeMany m_tokenKind m_tokenAt m_tokenEnd m_tokenValue m_fault m_seen m_isKept m_place m_numbers)) ckX7_lack_X7_in_64 (kcX7_in (l := l) G v1 (0 : Int32) (500 : Int32) hq) ⟨rfl, rfl, Nat.le_of_ble_eq_true rfl, Nat.le_of_ble_eq_true rfl⟩ [] rfl rfl rfl rfl rfl rfl hl.1 (Nat.le_of_ble_eq_true rfl) ⟨Nat.zero_le _, Nat.zero_le _⟩ dX7_lack_5 (fun H locs hW => ?_)
  refine lv_if_ne (tgt := 13) hx hb dX7_lack_8 (by decide) (fun c5 => ?_) (fun c5 => ?_)
  · have h := (if_neg c5).symm.trans h
    refine lv_aload_n hx hb dX7_lack_13 rfl (lv_at hl 0 rfl) ?_
    refine g_get X hW eX7_lack_7 0 rfl rfl dX7_lack_14 ?_
    refine lv_bipush hx hb dX7_lack_17 qB_9 ?_
    obtain ⟨g9, h⟩ := gd_some h
    refine g_ald X hW 1 rfl g9 dX7_lack_19 ?_
    refine lv_istore_n (lv' := [(2, .int (m_numbers (9 : Int32).toNatClampNeg)), (0, .ref a_mo), (1, .int v1)]) hx hb dX7_lack_20 rfl hl (by decide) rfl (fun ls hl => ?_)
    refine lv_aload_n hx hb dX7_lack_21 rfl (lv_at hl 1 rfl) ?_
    refine g_get X hW eX7_lack_7 0 rfl rfl dX7_lack_22 ?_
    refine lv_bipush hx hb dX7_lack_25 qB_9 ?_
    refine lv_iload_n hx hb dX7_lack_27 rfl (lv_at hl 2 rfl) ?_
    obtain ⟨g15, h⟩ := gd_some h
    refine g_ast X hW (ws' := (wX7_lack G a_mo a_mo_numbers a_mo_boxes a_mo_words a_mo_weeks a_mo_routes a_mo_turns a_mo_leave a_mo_leases a_mo_uses a_mo_arcFrom a_mo_arcTo a_mo_arcRoom a_mo_arcCost a_mo_far a_mo_by a_mo_best a_mo_tape a_mo_kept m_arcs m_tapeMany m_tokenKind m_tokenAt m_tokenEnd m_tokenValue m_fault m_seen m_isKept m_place (upd m_numbers (9 : Int32).toNatClampNeg v1))) 1 rfl g15 rfl dX7_lack_28 (fun H locs hW => ?_)
    refine lv_iload_n hx hb dX7_lack_29 rfl (lv_at hl 0 rfl) ?_
    obtain rfl := Option.some.inj h
    exact g_iret X hW dX7_lack_30
  · have h := (if_pos c5).symm.trans h
    refine lv_iconst hx hb dX7_lack_11 qI_m1 ?_
    obtain rfl := Option.some.inj h
    exact g_iret X hW dX7_lack_12
theorem kcX7_lack {l : Launch} (G : Gt) (a_mo a_mo_numbers a_mo_boxes a_mo_words a_mo_weeks a_mo_routes a_mo_turns a_mo_leave a_mo_leases a_mo_uses a_mo_arcFrom a_mo_arcTo a_mo_arcRoom a_mo_arcCost a_mo_far a_mo_by a_mo_best a_mo_tape a_mo_kept : Nat) (v1 : Int32) (m_arcs : Int32) (m_tapeMany : Int32) (m_tokenKind : Int32) (m_tokenAt : Int32) (m_tokenEnd : Int32) (m_tokenValue : Int32) (m_fault : Int32) (m_seen : Int32) (m_isKept : Int32) (m_place : Int32) (m_numbers : (Nat → Int32)) {r : Int32} {z_m_numbers : (Nat → Int32)} (h : fX7_lack v1 m_numbers = some (r, z_m_numbers)) : CtI G l yX7_lack wsX7_lack rmX7_lack [.ref a_mo, .int v1] (wX7_lack G a_mo a_mo_numbers a_mo_boxes a_mo_words a_mo_weeks a_mo_routes a_mo_turns a_mo_leave a_mo_leases a_mo_uses a_mo_arcFrom a_mo_arcTo a_mo_arcRoom a_mo_arcCost a_mo_far a_mo_by a_mo_best a_mo_tape a_mo_kept m_arcs m_tapeMany m_tokenKind m_tokenAt m_tokenEnd m_tokenValue m_fault m_seen m_isKept m_place m_numbers) r (wX7_lack G a_mo a_mo_numbers a_mo_boxes a_mo_words a_mo_weeks a_mo_routes a_mo_turns a_mo_leave a_mo_leases a_mo_uses a_mo_arcFrom a_mo_arcTo a_mo_arcRoom a_mo_arcCost a_mo_far a_mo_by a_mo_best a_mo_tape a_mo_kept m_arcs m_tapeMany m_tokenKind m_tokenAt m_tokenEnd m_tokenValue m_fault m_seen m_isKept m_place z_m_numbers) := k0X7_lack G a_mo a_mo_numbers a_mo_boxes a_mo_words a_mo_weeks a_mo_routes a_mo_turns a_mo_leave a_mo_leases a_mo_uses a_mo_arcFrom a_mo_arcTo a_mo_arcRoom a_mo_arcCost a_mo_far a_mo_by a_mo_best a_mo_tape a_mo_kept v1 m_arcs m_tapeMany m_tokenKind m_tokenAt m_tokenEnd m_tokenValue m_fault m_seen m_isKept m_place m_numbers h
end MX7_lack
/-! EmptyBoxesModel.addArc -/
section MX7_addArc
theorem hdX7_addArc : yX7_addArc.cls = RX7 ∧ yX7_addArc.cls ≠ "java/lang/invoke/MethodHandle" ∧ yX7_addArc.cls ≠ "java/lang/invoke/VarHandle" ∧ (parseMethodDescriptor yX7_addArc.desc).map (fun d => d.parameters.length) = some 4 := by decide +kernel
abbrev wX7_addArc (G : Gt) (a_mo a_mo_arcFrom a_mo_arcTo a_mo_arcRoom a_mo_arcCost a_mo_numbers a_mo_boxes a_mo_words a_mo_weeks a_mo_routes a_mo_turns a_mo_leave a_mo_leases a_mo_uses a_mo_far a_mo_by a_mo_best a_mo_tape a_mo_kept : Nat) (m_arcs : Int32) (m_tapeMany : Int32) (m_tokenKind : Int32) (m_tokenAt : Int32) (m_tokenEnd : Int32) (m_tokenValue : Int32) (m_fault : Int32) (m_seen : Int32) (m_isKept : Int32) (m_place : Int32) (m_arcFrom : (Nat → Int32)) (m_arcTo : (Nat → Int32)) (m_arcRoom : (Nat → Int32)) (m_arcCost : (Nat → Int32)) : va_W := [(a_mo, .inr (7, [.ref a_mo_numbers, .ref a_mo_boxes, .ref a_mo_words, .ref a_mo_weeks, .ref a_mo_routes, .ref a_mo_turns, .ref a_mo_leave, .ref a_mo_leases, .ref a_mo_uses, .ref a_mo_arcFrom, .ref a_mo_arcTo, .ref a_mo_arcRoom, .ref a_mo_arcCost, .int m_arcs, .ref a_mo_far, .ref a_mo_by, .ref a_mo_best, .ref a_mo_tape, .int m_tapeMany, .int m_tokenKind, .int m_tokenAt, .int m_tokenEnd, .int m_tokenValue, .int m_fault, .int m_seen, .int m_isKept, .ref a_mo_kept, .int m_place])), (a_mo_arcFrom, .inl (G.2.1, 300, .inl m_arcFrom)), (a_mo_arcTo, .inl (G.2.1, 300, .inl m_arcTo)), (a_mo_arcRoom, .inl (G.2.1, 300, .inl m_arcRoom)), (a_mo_arcCost, .inl (G.2.1, 300, .inl m_arcCost))]
abbrev rmX7_addArc : Room := { frames := 0, cells := 0, slots := 0, locals := 0 }
theorem iX7_addArc_X7 : ∀ w ∈ wsX70, w ∈ wsX7_addArc := by decide +kernel
theorem eX7_addArc_109 : Fk wsX7_addArc RX7 109 7 13 := ⟨RX7, TX7, 28, rfl, iX7_addArc_X7, by decide, by decide +kernel⟩
theorem eX7_addArc_37 : Fk wsX7_addArc RX7 37 7 9 := ⟨RX7, TX7, 28, rfl, iX7_addArc_X7, by decide, by decide +kernel⟩
theorem eX7_addArc_40 : Fk wsX7_addArc RX7 40 7 10 := ⟨RX7, TX7, 28, rfl, iX7_addArc_X7, by decide, by decide +kernel⟩
theorem eX7_addArc_43 : Fk wsX7_addArc RX7 43 7 11 := ⟨RX7, TX7, 28, rfl, iX7_addArc_X7, by decide, by decide +kernel⟩
theorem eX7_addArc_46 : Fk wsX7_addArc RX7 46 7 12 := ⟨RX7, TX7, 28, rfl, iX7_addArc_X7, by decide, by decide +kernel⟩
theorem pX7_addArc_109 : Fp wsX7_addArc RX7 109 7 13 .int := ⟨RX7, TX7, 28, tyX7, rfl, iX7_addArc_X7, by decide, by decide +kernel, tyX7_ok, nmX7, rfl, by decide +kernel⟩
variable {p : Program} {l : Launch} {e : Env} {s : State} {m : MethodId} {args : Array Value} {below : List Frame} {meth : Method} {c : Code} {A : Nat → Prop} {G : Gt} {a_mo a_mo_arcFrom a_mo_arcTo a_mo_arcRoom a_mo_arcCost a_mo_numbers a_mo_boxes a_mo_words a_mo_weeks a_mo_routes a_mo_turns a_mo_leave a_mo_leases a_mo_uses a_mo_far a_mo_by a_mo_best a_mo_tape a_mo_kept : Nat} {m_tapeMany : Int32} {m_tokenKind : Int32} {m_tokenAt : Int32} {m_tokenEnd : Int32} {m_tokenValue : Int32} {m_fault : Int32} {m_seen : Int32} {m_isKept : Int32} {m_place : Int32} {res : Int32 × (Nat → Int32) × (Nat → Int32) × (Nat → Int32) × (Nat → Int32)}
set_option maxHeartbeats 4000000 in
set_option maxRecDepth 100000 in
theorem k0X7_addArc {l : Launch} (G : Gt) (a_mo a_mo_arcFrom a_mo_arcTo a_mo_arcRoom a_mo_arcCost a_mo_numbers a_mo_boxes a_mo_words a_mo_weeks a_mo_routes a_mo_turns a_mo_leave a_mo_leases a_mo_uses a_mo_far a_mo_by a_mo_best a_mo_tape a_mo_kept : Nat) (v1 : Int32) (v2 : Int32) (v3 : Int32) (v4 : Int32) (m_arcs : Int32) (m_tapeMany : Int32) (m_tokenKind : Int32) (m_tokenAt : Int32) (m_tokenEnd : Int32) (m_tokenValue : Int32) (m_fault : Int32) (m_seen : Int32) (m_isKept : Int32) (m_place : Int32) (m_arcFrom : (Nat → Int32)) (m_arcTo : (Nat → Int32)) (m_arcRoom : (Nat → Int32)) (m_arcCost : (Nat → Int32)) {res : Int32 × (Nat → Int32) × (Nat → Int32) × (Nat → Int32) × (Nat → Int32)} (h : fX7_addArc v1 v2 v3 v4 m_arcs m_arcFrom m_arcTo m_arcRoom m_arcCost = some res) : CtV G l yX7_addArc wsX7_addArc rmX7_addArc [.ref a_mo, .int v1, .int v2, .int v3, .int v4] (wX7_addArc G a_mo a_mo_arcFrom a_mo_arcTo a_mo_arcRoom a_mo_arcCost a_mo_numbers a_mo_boxes a_mo_words a_mo_weeks a_mo_routes a_mo_turns a_mo_leave a_mo_leases a_mo_uses a_mo_far a_mo_by a_mo_best a_mo_tape a_mo_kept m_arcs m_tapeMany m_tokenKind m_tokenAt m_tokenEnd m_tokenValue m_fault m_seen m_isKept m_place m_arcFrom m_arcTo m_arcRoom m_arcCost) (wX7_addArc G a_mo a_mo_arcFrom a_mo_arcTo a_mo_arcRoom a_mo_arcCost a_mo_numbers a_mo_boxes a_mo_words a_mo_weeks a_mo_routes a_mo_turns a_mo_leave a_mo_leases a_mo_uses a_mo_far a_mo_by a_mo_best a_mo_tape a_mo_kept res.1 m_tapeMany m_tokenKind m_tokenAt m_tokenEnd m_tokenValue m_fault m_seen m_isKept m_place res.2.1 res.2.2.1 res.2.2.2.1 res.2.2.2.2) := by
  refine CtV.mk (cc := cX7_addArc) (maxL := 5) (ret := none) (own := RX7) (by decide) rfl rfl (Nat.le_of_ble_eq_true rfl) ?_
  intro p e s m below meth c A X ls hl hW
  obtain ⟨hx, hb, -⟩ := id X.1
  have hl : lv_has ls 5 [(0, .ref a_mo), (1, .int v1), (2, .int v2), (3, .int v3), (4, .int v4)] := hl
  generalize hH : s.heap = H at hW ⊢
  generalize hLo : ([] : List Loc) = locs at hW ⊢
  rw [fX7_addArc] at h
  refine lv_aload_n hx hb dX7_addArc_0 rfl (lv_at hl 0 rfl) ?_
  refine g_get X hW eX7_addArc_37 0 rfl rfl dX7_addArc_1 ?_
  refine lv_aload_n hx hb dX7_addArc_4 rfl (lv_at hl 0 rfl) ?_
  refine g_get X hW eX7_addArc_109 0 rfl rfl dX7_addArc_5 ?_
  refine lv_iload_n hx hb dX7_addArc_8 rfl (lv_at hl 1 rfl) ?_
  obtain ⟨g6, h⟩ := gd_some h
  refine g_ast X hW (ws' := (wX7_addArc G a_mo a_mo_arcFrom a_mo_arcTo a_mo_arcRoom a_mo_arcCost a_mo_numbers a_mo_boxes a_mo_words a_mo_weeks a_mo_routes a_mo_turns a_mo_leave a_mo_leases a_mo_uses a_mo_far a_mo_by a_mo_best a_mo_tape a_mo_kept m_arcs m_tapeMany m_tokenKind m_tokenAt m_tokenEnd m_tokenValue m_fault m_seen m_isKept m_place (upd m_arcFrom m_arcs.toNatClampNeg v1) m_arcTo m_arcRoom m_arcCost)) 1 rfl g6 rfl dX7_addArc_9 (fun H locs hW => ?_)
  refine lv_aload_n hx hb dX7_addArc_10 rfl (lv_at hl 0 rfl) ?_
  refine g_get X hW eX7_addArc_40 0 rfl rfl dX7_addArc_11 ?_
  refine lv_aload_n hx hb dX7_addArc_14 rfl (lv_at hl 0 rfl) ?_
  refine g_get X hW eX7_addArc_109 0 rfl rfl dX7_addArc_15 ?_
  refine lv_iload_n hx hb dX7_addArc_18 rfl (lv_at hl 2 rfl) ?_
  obtain ⟨g12, h⟩ := gd_some h
  refine g_ast X hW (ws' := (wX7_addArc G a_mo a_mo_arcFrom a_mo_arcTo a_mo_arcRoom a_mo_arcCost a_mo_numbers a_mo_boxes a_mo_words a_mo_weeks a_mo_routes a_mo_turns a_mo_leave a_mo_leases a_mo_uses a_mo_far a_mo_by a_mo_best a_mo_tape a_mo_kept m_arcs m_tapeMany m_tokenKind m_tokenAt m_tokenEnd m_tokenValue m_fault m_seen m_isKept m_place (upd m_arcFrom m_arcs.toNatClampNeg v1) (upd m_arcTo m_arcs.toNatClampNeg v2) m_arcRoom m_arcCost)) 2 rfl g12 rfl dX7_addArc_19 (fun H locs hW => ?_)
  refine lv_aload_n hx hb dX7_addArc_20 rfl (lv_at hl 0 rfl) ?_
  refine g_get X hW eX7_addArc_43 0 rfl rfl dX7_addArc_21 ?_
  refine lv_aload_n hx hb dX7_addArc_24 rfl (lv_at hl 0 rfl) ?_
  refine g_get X hW eX7_addArc_109 0 rfl rfl dX7_addArc_25 ?_
  refine lv_iload_n hx hb dX7_addArc_28 rfl (lv_at hl 3 rfl) ?_
  obtain ⟨g18, h⟩ := gd_some h
  refine g_ast X hW (ws' := (wX7_addArc G a_mo a_mo_arcFrom a_mo_arcTo a_mo_arcRoom a_mo_arcCost a_mo_numbers a_mo_boxes a_mo_words a_mo_weeks a_mo_routes a_mo_turns a_mo_leave a_mo_leases a_mo_uses a_mo_far a_mo_by a_mo_best a_mo_tape a_mo_kept m_arcs m_tapeMany m_tokenKind m_tokenAt m_tokenEnd m_tokenValue m_fault m_seen m_isKept m_place (upd m_arcFrom m_arcs.toNatClampNeg v1) (upd m_arcTo m_arcs.toNatClampNeg v2) (upd m_arcRoom m_arcs.toNatClampNeg v3) m_arcCost)) 3 rfl g18 rfl dX7_addArc_29 (fun H locs hW => ?_)
  refine lv_aload_n hx hb dX7_addArc_30 rfl (lv_at hl 0 rfl) ?_
  refine g_get X hW eX7_addArc_46 0 rfl rfl dX7_addArc_31 ?_
  refine lv_aload_n hx hb dX7_addArc_34 rfl (lv_at hl 0 rfl) ?_
  refine g_get X hW eX7_addArc_109 0 rfl rfl dX7_addArc_35 ?_
  refine lv_iload hx hb dX7_addArc_38 (lv_at hl 4 rfl) ?_
  obtain ⟨g24, h⟩ := gd_some h
  refine g_ast X hW (ws' := (wX7_addArc G a_mo a_mo_arcFrom a_mo_arcTo a_mo_arcRoom a_mo_arcCost a_mo_numbers a_mo_boxes a_mo_words a_mo_weeks a_mo_routes a_mo_turns a_mo_leave a_mo_leases a_mo_uses a_mo_far a_mo_by a_mo_best a_mo_tape a_mo_kept m_arcs m_tapeMany m_tokenKind m_tokenAt m_tokenEnd m_tokenValue m_fault m_seen m_isKept m_place (upd m_arcFrom m_arcs.toNatClampNeg v1) (upd m_arcTo m_arcs.toNatClampNeg v2) (upd m_arcRoom m_arcs.toNatClampNeg v3) (upd m_arcCost m_arcs.toNatClampNeg v4))) 4 rfl g24 rfl dX7_addArc_40 (fun H locs hW => ?_)
  refine lv_aload_n hx hb dX7_addArc_41 rfl (lv_at hl 0 rfl) ?_
  refine g_get X hW eX7_addArc_37 0 rfl rfl dX7_addArc_42 ?_
  refine lv_aload_n hx hb dX7_addArc_45 rfl (lv_at hl 0 rfl) ?_
  refine g_get X hW eX7_addArc_109 0 rfl rfl dX7_addArc_46 ?_
  refine lv_iconst hx hb dX7_addArc_49 qI_1 ?_
  refine lv_iadd hx hb dX7_addArc_50 ?_
  refine lv_iload_n hx hb dX7_addArc_51 rfl (lv_at hl 2 rfl) ?_
  obtain ⟨g32, h⟩ := gd_some h
  refine g_ast X hW (ws' := (wX7_addArc G a_mo a_mo_arcFrom a_mo_arcTo a_mo_arcRoom a_mo_arcCost a_mo_numbers a_mo_boxes a_mo_words a_mo_weeks a_mo_routes a_mo_turns a_mo_leave a_mo_leases a_mo_uses a_mo_far a_mo_by a_mo_best a_mo_tape a_mo_kept m_arcs m_tapeMany m_tokenKind m_tokenAt m_tokenEnd m_tokenValue m_fault m_seen m_isKept m_place (upd (upd m_arcFrom m_arcs.toNatClampNeg v1) (m_arcs + (1 : Int32)).toNatClampNeg v2) (upd m_arcTo m_arcs.toNatClampNeg v2) (upd m_arcRoom m_arcs.toNatClampNeg v3) (upd m_arcCost m_arcs.toNatClampNeg v4))) 1 rfl g32 rfl dX7_addArc_52 (fun H locs hW => ?_)
  refine lv_aload_n hx hb dX7_addArc_53 rfl (lv_at hl 0 rfl) ?_
  refine g_get X hW eX7_addArc_40 0 rfl rfl dX7_addArc_54 ?_
  refine lv_aload_n hx hb dX7_addArc_57 rfl (lv_at hl 0 rfl) ?_
  refine g_get X hW eX7_addArc_109 0 rfl rfl dX7_addArc_58 ?_
  refine lv_iconst hx hb dX7_addArc_61 qI_1 ?_
  refine lv_iadd hx hb dX7_addArc_62 ?_
  refine lv_iload_n hx hb dX7_addArc_63 rfl (lv_at hl 1 rfl) ?_
  obtain ⟨g40, h⟩ := gd_some h
  refine g_ast X hW (ws' := (wX7_addArc G a_mo a_mo_arcFrom a_mo_arcTo a_mo_arcRoom a_mo_arcCost a_mo_numbers a_mo_boxes a_mo_words a_mo_weeks a_mo_routes a_mo_turns a_mo_leave a_mo_leases a_mo_uses a_mo_far a_mo_by a_mo_best a_mo_tape a_mo_kept m_arcs m_tapeMany m_tokenKind m_tokenAt m_tokenEnd m_tokenValue m_fault m_seen m_isKept m_place (upd (upd m_arcFrom m_arcs.toNatClampNeg v1) (m_arcs + (1 : Int32)).toNatClampNeg v2) (upd (upd m_arcTo m_arcs.toNatClampNeg v2) (m_arcs + (1 : Int32)).toNatClampNeg v1) (upd m_arcRoom m_arcs.toNatClampNeg v3) (upd m_arcCost m_arcs.toNatClampNeg v4))) 2 rfl g40 rfl dX7_addArc_64 (fun H locs hW => ?_)
  refine lv_aload_n hx hb dX7_addArc_65 rfl (lv_at hl 0 rfl) ?_
  refine g_get X hW eX7_addArc_43 0 rfl rfl dX7_addArc_66 ?_
  refine lv_aload_n hx hb dX7_addArc_69 rfl (lv_at hl 0 rfl) ?_
  refine g_get X hW eX7_addArc_109 0 rfl rfl dX7_addArc_70 ?_
  refine lv_iconst hx hb dX7_addArc_73 qI_1 ?_
  refine lv_iadd hx hb dX7_addArc_74 ?_
  refine lv_iconst hx hb dX7_addArc_75 qI_0 ?_
  obtain ⟨g48, h⟩ := gd_some h
  refine g_ast X hW (ws' := (wX7_addArc G a_mo a_mo_arcFrom a_mo_arcTo a_mo_arcRoom a_mo_arcCost a_mo_numbers a_mo_boxes a_mo_words a_mo_weeks a_mo_routes a_mo_turns a_mo_leave a_mo_leases a_mo_uses a_mo_far a_mo_by a_mo_best a_mo_tape a_mo_kept m_arcs m_tapeMany m_tokenKind m_tokenAt m_tokenEnd m_tokenValue m_fault m_seen m_isKept m_place (upd (upd m_arcFrom m_arcs.toNatClampNeg v1) (m_arcs + (1 : Int32)).toNatClampNeg v2) (upd (upd m_arcTo m_arcs.toNatClampNeg v2) (m_arcs + (1 : Int32)).toNatClampNeg v1) (upd (upd m_arcRoom m_arcs.toNatClampNeg v3) (m_arcs + (1 : Int32)).toNatClampNeg (0 : Int32)) (upd m_arcCost m_arcs.toNatClampNeg v4))) 3 rfl g48 rfl dX7_addArc_76 (fun H locs hW => ?_)
  refine lv_aload_n hx hb dX7_addArc_77 rfl (lv_at hl 0 rfl) ?_
  refine g_get X hW eX7_addArc_46 0 rfl rfl dX7_addArc_78 ?_
  refine lv_aload_n hx hb dX7_addArc_81 rfl (lv_at hl 0 rfl) ?_
  refine g_get X hW eX7_addArc_109 0 rfl rfl dX7_addArc_82 ?_
  refine lv_iconst hx hb dX7_addArc_85 qI_1 ?_
  refine lv_iadd hx hb dX7_addArc_86 ?_
  refine lv_iload hx hb dX7_addArc_87 (lv_at hl 4 rfl) ?_
  refine lv_ineg hx hb dX7_addArc_89 ?_
  obtain ⟨g57, h⟩ := gd_some h
  refine g_ast X hW (ws' := (wX7_addArc G a_mo a_mo_arcFrom a_mo_arcTo a_mo_arcRoom a_mo_arcCost a_mo_numbers a_mo_boxes a_mo_words a_mo_weeks a_mo_routes a_mo_turns a_mo_leave a_mo_leases a_mo_uses a_mo_far a_mo_by a_mo_best a_mo_tape a_mo_kept m_arcs m_tapeMany m_tokenKind m_tokenAt m_tokenEnd m_tokenValue m_fault m_seen m_isKept m_place (upd (upd m_arcFrom m_arcs.toNatClampNeg v1) (m_arcs + (1 : Int32)).toNatClampNeg v2) (upd (upd m_arcTo m_arcs.toNatClampNeg v2) (m_arcs + (1 : Int32)).toNatClampNeg v1) (upd (upd m_arcRoom m_arcs.toNatClampNeg v3) (m_arcs + (1 : Int32)).toNatClampNeg (0 : Int32)) (upd (upd m_arcCost m_arcs.toNatClampNeg v4) (m_arcs + (1 : Int32)).toNatClampNeg (-v4)))) 4 rfl g57 rfl dX7_addArc_90 (fun H locs hW => ?_)
  refine lv_aload_n hx hb dX7_addArc_91 rfl (lv_at hl 0 rfl) ?_
  refine lv_dup hx hb dX7_addArc_92 rfl ?_
  refine g_get X hW eX7_addArc_109 0 rfl rfl dX7_addArc_93 ?_
  refine lv_iconst hx hb dX7_addArc_96 qI_2 ?_
  refine lv_iadd hx hb dX7_addArc_97 ?_
  refine g_put X hW (ws' := (wX7_addArc G a_mo a_mo_arcFrom a_mo_arcTo a_mo_arcRoom a_mo_arcCost a_mo_numbers a_mo_boxes a_mo_words a_mo_weeks a_mo_routes a_mo_turns a_mo_leave a_mo_leases a_mo_uses a_mo_far a_mo_by a_mo_best a_mo_tape a_mo_kept (m_arcs + (2 : Int32)) m_tapeMany m_tokenKind m_tokenAt m_tokenEnd m_tokenValue m_fault m_seen m_isKept m_place (upd (upd m_arcFrom m_arcs.toNatClampNeg v1) (m_arcs + (1 : Int32)).toNatClampNeg v2) (upd (upd m_arcTo m_arcs.toNatClampNeg v2) (m_arcs + (1 : Int32)).toNatClampNeg v1) (upd (upd m_arcRoom m_arcs.toNatClampNeg v3) (m_arcs + (1 : Int32)).toNatClampNeg (0 : Int32)) (upd (upd m_arcCost m_arcs.toNatClampNeg v4) (m_arcs + (1 : Int32)).toNatClampNeg (-v4)))) pX7_addArc_109 0 rfl (Nat.le_of_ble_eq_true rfl) rfl rfl rfl dX7_addArc_98 (fun H locs hW => ?_)
  obtain rfl := Option.some.inj h
  exact g_vret X hW dX7_addArc_101
theorem kcX7_addArc {l : Launch} (G : Gt) (a_mo a_mo_arcFrom a_mo_arcTo a_mo_arcRoom a_mo_arcCost a_mo_numbers a_mo_boxes a_mo_words a_mo_weeks a_mo_routes a_mo_turns a_mo_leave a_mo_leases a_mo_uses a_mo_far a_mo_by a_mo_best a_mo_tape a_mo_kept : Nat) (v1 : Int32) (v2 : Int32) (v3 : Int32) (v4 : Int32) (m_arcs : Int32) (m_tapeMany : Int32) (m_tokenKind : Int32) (m_tokenAt : Int32) (m_tokenEnd : Int32) (m_tokenValue : Int32) (m_fault : Int32) (m_seen : Int32) (m_isKept : Int32) (m_place : Int32) (m_arcFrom : (Nat → Int32)) (m_arcTo : (Nat → Int32)) (m_arcRoom : (Nat → Int32)) (m_arcCost : (Nat → Int32))  {z_m_arcs : Int32} {z_m_arcFrom : (Nat → Int32)} {z_m_arcTo : (Nat → Int32)} {z_m_arcRoom : (Nat → Int32)} {z_m_arcCost : (Nat → Int32)} (h : fX7_addArc v1 v2 v3 v4 m_arcs m_arcFrom m_arcTo m_arcRoom m_arcCost = some (z_m_arcs, z_m_arcFrom, z_m_arcTo, z_m_arcRoom, z_m_arcCost)) : CtV G l yX7_addArc wsX7_addArc rmX7_addArc [.ref a_mo, .int v1, .int v2, .int v3, .int v4] (wX7_addArc G a_mo a_mo_arcFrom a_mo_arcTo a_mo_arcRoom a_mo_arcCost a_mo_numbers a_mo_boxes a_mo_words a_mo_weeks a_mo_routes a_mo_turns a_mo_leave a_mo_leases a_mo_uses a_mo_far a_mo_by a_mo_best a_mo_tape a_mo_kept m_arcs m_tapeMany m_tokenKind m_tokenAt m_tokenEnd m_tokenValue m_fault m_seen m_isKept m_place m_arcFrom m_arcTo m_arcRoom m_arcCost) (wX7_addArc G a_mo a_mo_arcFrom a_mo_arcTo a_mo_arcRoom a_mo_arcCost a_mo_numbers a_mo_boxes a_mo_words a_mo_weeks a_mo_routes a_mo_turns a_mo_leave a_mo_leases a_mo_uses a_mo_far a_mo_by a_mo_best a_mo_tape a_mo_kept z_m_arcs m_tapeMany m_tokenKind m_tokenAt m_tokenEnd m_tokenValue m_fault m_seen m_isKept m_place z_m_arcFrom z_m_arcTo z_m_arcRoom z_m_arcCost) := k0X7_addArc G a_mo a_mo_arcFrom a_mo_arcTo a_mo_arcRoom a_mo_arcCost a_mo_numbers a_mo_boxes a_mo_words a_mo_weeks a_mo_routes a_mo_turns a_mo_leave a_mo_leases a_mo_uses a_mo_far a_mo_by a_mo_best a_mo_tape a_mo_kept v1 v2 v3 v4 m_arcs m_tapeMany m_tokenKind m_tokenAt m_tokenEnd m_tokenValue m_fault m_seen m_isKept m_place m_arcFrom m_arcTo m_arcRoom m_arcCost h
end MX7_addArc
/-! EmptyBoxesModel.addArcs -/
section MX7_addArcs
theorem hdX7_addArcs : yX7_addArcs.cls = RX7 ∧ yX7_addArcs.cls ≠ "java/lang/invoke/MethodHandle" ∧ yX7_addArcs.cls ≠ "java/lang/invoke/VarHandle" ∧ (parseMethodDescriptor yX7_addArcs.desc).map (fun d => d.parameters.length) = some 1 := by decide +kernel
abbrev wX7_addArcs (G : Gt) (a_mo a_mo_numbers a_mo_weeks a_mo_routes a_mo_arcFrom a_mo_arcTo a_mo_arcRoom a_mo_arcCost a_mo_boxes a_mo_words a_mo_turns a_mo_leave a_mo_leases a_mo_uses a_mo_far a_mo_by a_mo_best a_mo_tape a_mo_kept : Nat) (m_arcs : Int32) (m_tapeMany : Int32) (m_tokenKind : Int32) (m_tokenAt : Int32) (m_tokenEnd : Int32) (m_tokenValue : Int32) (m_fault : Int32) (m_seen : Int32) (m_isKept : Int32) (m_place : Int32) (m_numbers : (Nat → Int32)) (m_weeks : (Nat → Int32)) (m_routes : (Nat → Int32)) (m_arcFrom : (Nat → Int32)) (m_arcTo : (Nat → Int32)) (m_arcRoom : (Nat → Int32)) (m_arcCost : (Nat → Int32)) : va_W := [(a_mo, .inr (7, [.ref a_mo_numbers, .ref a_mo_boxes, .ref a_mo_words, .ref a_mo_weeks, .ref a_mo_routes, .ref a_mo_turns, .ref a_mo_leave, .ref a_mo_leases, .ref a_mo_uses, .ref a_mo_arcFrom, .ref a_mo_arcTo, .ref a_mo_arcRoom, .ref a_mo_arcCost, .int m_arcs, .ref a_mo_far, .ref a_mo_by, .ref a_mo_best, .ref a_mo_tape, .int m_tapeMany, .int m_tokenKind, .int m_tokenAt, .int m_tokenEnd, .int m_tokenValue, .int m_fault, .int m_seen, .int m_isKept, .ref a_mo_kept, .int m_place])), (a_mo_numbers, .inl (G.2.1, 10, .inl m_numbers)), (a_mo_weeks, .inl (G.2.1, 60, .inl m_weeks)), (a_mo_routes, .inl (G.2.1, 50, .inl m_routes)), (a_mo_arcFrom, .inl (G.2.1, 300, .inl m_arcFrom)), (a_mo_arcTo, .inl (G.2.1, 300, .inl m_arcTo)), (a_mo_arcRoom, .inl (G.2.1, 300, .inl m_arcRoom)), (a_mo_arcCost, .inl (G.2.1, 300, .inl m_arcCost))]
abbrev rmX7_addArcs : Room := { frames := 1, cells := 0, slots := 0, locals := 24 }
theorem iX7_addArcs_X7 : ∀ w ∈ wsX70, w ∈ wsX7_addArcs := by decide +kernel
theorem eX7_addArcs_19 : Fk wsX7_addArcs RX7 19 7 3 := ⟨RX7, TX7, 28, rfl, iX7_addArcs_X7, by decide, by decide +kernel⟩
theorem eX7_addArcs_22 : Fk wsX7_addArcs RX7 22 7 4 := ⟨RX7, TX7, 28, rfl, iX7_addArcs_X7, by decide, by decide +kernel⟩
theorem eX7_addArcs_7 : Fk wsX7_addArcs RX7 7 7 0 := ⟨RX7, TX7, 28, rfl, iX7_addArcs_X7, by decide, by decide +kernel⟩
theorem pX7_addArcs_109 : Fp wsX7_addArcs RX7 109 7 13 .int := ⟨RX7, TX7, 28, tyX7, rfl, iX7_addArcs_X7, by decide, by decide +kernel, tyX7_ok, nmX7, rfl, by decide +kernel⟩
theorem ckX7_addArcs_X7_addArc_113 : CkV wsX7_addArcs RX7 113 yX7_addArc wsX7_addArc cX7_addArc 5 none 4 7 := ⟨RX7, TX7, 28, _, rfl, gX7_addArcs_X7_addArc, rfl, hdX7_addArc⟩
variable {p : Program} {l : Launch} {e : Env} {s : State} {m : MethodId} {args : Array Value} {below : List Frame} {meth : Method} {c : Code} {A : Nat → Prop} {G : Gt} {a_mo a_mo_numbers a_mo_weeks a_mo_routes a_mo_arcFrom a_mo_arcTo a_mo_arcRoom a_mo_arcCost a_mo_boxes a_mo_words a_mo_turns a_mo_leave a_mo_leases a_mo_uses a_mo_far a_mo_by a_mo_best a_mo_tape a_mo_kept : Nat} {m_tapeMany : Int32} {m_tokenKind : Int32} {m_tokenAt : Int32} {m_tokenEnd : Int32} {m_tokenValue : Int32} {m_fault : Int32} {m_seen : Int32} {m_isKept : Int32} {m_place : Int32} {m_numbers : (Nat → Int32)} {m_weeks : (Nat → Int32)} {m_routes : (Nat → Int32)} {res : Int32 × (Nat → Int32) × (Nat → Int32) × (Nat → Int32) × (Nat → Int32)}
set_option maxHeartbeats 4000000 in
set_option maxRecDepth 100000 in
theorem tX7_addArcs_177 (X : Bx p s m args meth c cX7_addArcs 4 wsX7_addArcs RX7 none) (v2 : Int32) (m_arcs : Int32) (m_arcFrom : (Nat → Int32)) (m_arcTo : (Nat → Int32)) (m_arcRoom : (Nat → Int32)) (m_arcCost : (Nat → Int32)) (k_82 : Int32 → Int32 → (Nat → Int32) → (Nat → Int32) → (Nat → Int32) → (Nat → Int32) → Option (Int32 × (Nat → Int32) × (Nat → Int32) × (Nat → Int32) × (Nat → Int32))) (Hk_82 : ∀ (v2 : Int32) (m_arcs : Int32) (m_arcFrom : (Nat → Int32)) (m_arcTo : (Nat → Int32)) (m_arcRoom : (Nat → Int32)) (m_arcCost : (Nat → Int32)), k_82 v2 m_arcs m_arcFrom m_arcTo m_arcRoom m_arcCost = some res → ∀ (H : Heap) (locs : List Loc), Wo G A s (wX7_addArcs G a_mo a_mo_numbers a_mo_weeks a_mo_routes a_mo_arcFrom a_mo_arcTo a_mo_arcRoom a_mo_arcCost a_mo_boxes a_mo_words a_mo_turns a_mo_leave a_mo_leases a_mo_uses a_mo_far a_mo_by a_mo_best a_mo_tape a_mo_kept m_arcs m_tapeMany m_tokenKind m_tokenAt m_tokenEnd m_tokenValue m_fault m_seen m_isKept m_place m_numbers m_weeks m_routes m_arcFrom m_arcTo m_arcRoom m_arcCost) H locs → ∀ ls : Array Slot, lv_has ls 4 [(0, .ref a_mo), (2, .int v2)] → W p l e rmX7_addArcs s m args below meth c H locs 0 0 (QV G A below args s (wX7_addArcs G a_mo a_mo_numbers a_mo_weeks a_mo_routes a_mo_arcFrom a_mo_arcTo a_mo_arcRoom a_mo_arcCost a_mo_boxes a_mo_words a_mo_turns a_mo_leave a_mo_leases a_mo_uses a_mo_far a_mo_by a_mo_best a_mo_tape a_mo_kept res.1 m_tapeMany m_tokenKind m_tokenAt m_tokenEnd m_tokenValue m_fault m_seen m_isKept m_place m_numbers m_weeks m_routes res.2.1 res.2.2.1 res.2.2.2.1 res.2.2.2.2)) (F0 m 82 ls [])) (h : fX7_addArcs_177 k_82 v2 m_arcs m_arcFrom m_arcTo m_arcRoom m_arcCost = some res) : ∀ (H : Heap) (locs : List Loc), Wo G A s (wX7_addArcs G a_mo a_mo_numbers a_mo_weeks a_mo_routes a_mo_arcFrom a_mo_arcTo a_mo_arcRoom a_mo_arcCost a_mo_boxes a_mo_words a_mo_turns a_mo_leave a_mo_leases a_mo_uses a_mo_far a_mo_by a_mo_best a_mo_tape a_mo_kept m_arcs m_tapeMany m_tokenKind m_tokenAt m_tokenEnd m_tokenValue m_fault m_seen m_isKept m_place m_numbers m_weeks m_routes m_arcFrom m_arcTo m_arcRoom m_arcCost) H locs → ∀ ls : Array Slot, lv_has ls 4 [(0, .ref a_mo), (2, .int v2)] → W p l e rmX7_addArcs s m args below meth c H locs 0 0 (QV G A below args s (wX7_addArcs G a_mo a_mo_numbers a_mo_weeks a_mo_routes a_mo_arcFrom a_mo_arcTo a_mo_arcRoom a_mo_arcCost a_mo_boxes a_mo_words a_mo_turns a_mo_leave a_mo_leases a_mo_uses a_mo_far a_mo_by a_mo_best a_mo_tape a_mo_kept res.1 m_tapeMany m_tokenKind m_tokenAt m_tokenEnd m_tokenValue m_fault m_seen m_isKept m_place m_numbers m_weeks m_routes res.2.1 res.2.2.1 res.2.2.2.1 res.2.2.2.2)) (F0 m 177 ls []) := by
  obtain ⟨hx, hb, -⟩ := id X.1
  intro H locs hW ls hl
  rw [fX7_addArcs_177] at h
  refine lv_iinc (v := (v2 + (1 : Int32))) (lv' := [(2, .int (v2 + (1 : Int32))), (0, .ref a_mo)]) hx hb dX7_addArcs_177 hl (k := 1) rfl (congrArg (fun z => v2 + z) qI_1) (by decide) rfl (fun ls hl => ?_)
  refine lv_goto (tgt := 82) hx hb dX7_addArcs_180 (by decide) ?_
  exact Hk_82 (v2 + (1 : Int32)) m_arcs m_arcFrom m_arcTo m_arcRoom m_arcCost h H locs hW ls (lv_sub hl [1, 0] rfl)
set_option maxHeartbeats 4000000 in
set_option maxRecDepth 100000 in
theorem tX7_addArcs_94 (X : Bx p s m args meth c cX7_addArcs 4 wsX7_addArcs RX7 none) (v2 : Int32) (k_177 : Int32 → (Nat → Int32) → (Nat → Int32) → (Nat → Int32) → (Nat → Int32) → Option (Int32 × (Nat → Int32) × (Nat → Int32) × (Nat → Int32) × (Nat → Int32))) (Hk_177 : ∀ (m_arcs : Int32) (m_arcFrom : (Nat → Int32)) (m_arcTo : (Nat → Int32)) (m_arcRoom : (Nat → Int32)) (m_arcCost : (Nat → Int32)), k_177 m_arcs m_arcFrom m_arcTo m_arcRoom m_arcCost = some res → ∀ (H : Heap) (locs : List Loc), Wo G A s (wX7_addArcs G a_mo a_mo_numbers a_mo_weeks a_mo_routes a_mo_arcFrom a_mo_arcTo a_mo_arcRoom a_mo_arcCost a_mo_boxes a_mo_words a_mo_turns a_mo_leave a_mo_leases a_mo_uses a_mo_far a_mo_by a_mo_best a_mo_tape a_mo_kept m_arcs m_tapeMany m_tokenKind m_tokenAt m_tokenEnd m_tokenValue m_fault m_seen m_isKept m_place m_numbers m_weeks m_routes m_arcFrom m_arcTo m_arcRoom m_arcCost) H locs → ∀ ls : Array Slot, lv_has ls 4 [(0, .ref a_mo), (2, .int v2)] → W p l e rmX7_addArcs s m args below meth c H locs 0 0 (QV G A below args s (wX7_addArcs G a_mo a_mo_numbers a_mo_weeks a_mo_routes a_mo_arcFrom a_mo_arcTo a_mo_arcRoom a_mo_arcCost a_mo_boxes a_mo_words a_mo_turns a_mo_leave a_mo_leases a_mo_uses a_mo_far a_mo_by a_mo_best a_mo_tape a_mo_kept res.1 m_tapeMany m_tokenKind m_tokenAt m_tokenEnd m_tokenValue m_fault m_seen m_isKept m_place m_numbers m_weeks m_routes res.2.1 res.2.2.1 res.2.2.2.1 res.2.2.2.2)) (F0 m 177 ls [])) : ∀ (n : Nat) (v3 : Int32) (m_arcs : Int32) (m_arcFrom : (Nat → Int32)) (m_arcTo : (Nat → Int32)) (m_arcRoom : (Nat → Int32)) (m_arcCost : (Nat → Int32)), fX7_addArcs_94 v2 m_routes k_177 n v3 m_arcs m_arcFrom m_arcTo m_arcRoom m_arcCost = some res → ∀ (H : Heap) (locs : List Loc), Wo G A s (wX7_addArcs G a_mo a_mo_numbers a_mo_weeks a_mo_routes a_mo_arcFrom a_mo_arcTo a_mo_arcRoom a_mo_arcCost a_mo_boxes a_mo_words a_mo_turns a_mo_leave a_mo_leases a_mo_uses a_mo_far a_mo_by a_mo_best a_mo_tape a_mo_kept m_arcs m_tapeMany m_tokenKind m_tokenAt m_tokenEnd m_tokenValue m_fault m_seen m_isKept m_place m_numbers m_weeks m_routes m_arcFrom m_arcTo m_arcRoom m_arcCost) H locs → ∀ ls : Array Slot, lv_has ls 4 [(0, .ref a_mo), (2, .int v2), (3, .int v3)] → W p l e rmX7_addArcs s m args below meth c H locs 0 0 (QV G A below args s (wX7_addArcs G a_mo a_mo_numbers a_mo_weeks a_mo_routes a_mo_arcFrom a_mo_arcTo a_mo_arcRoom a_mo_arcCost a_mo_boxes a_mo_words a_mo_turns a_mo_leave a_mo_leases a_mo_uses a_mo_far a_mo_by a_mo_best a_mo_tape a_mo_kept res.1 m_tapeMany m_tokenKind m_tokenAt m_tokenEnd m_tokenValue m_fault m_seen m_isKept m_place m_numbers m_weeks m_routes res.2.1 res.2.2.1 res.2.2.2.1 res.2.2.2.2)) (F0 m 94 ls []) := by
  obtain ⟨hx, hb, -⟩ := id X.1
  intro n
  induction n with
  | zero => intro v3 m_arcs m_arcFrom m_arcTo m_arcRoom m_arcCost h; rw [fX7_addArcs_94] at h; cases h
  | succ n ih =>
    intro v3 m_arcs m_arcFrom m_arcTo m_arcRoom m_arcCost h H locs hW ls hl
    rw [fX7_addArcs_94] at h
    refine lv_iload_n hx hb dX7_addArcs_94 rfl (lv_at hl 2 rfl) ?_
    refine lv_aload_n hx hb dX7_addArcs_95 rfl (lv_at hl 0 rfl) ?_
    refine g_get X hW eX7_addArcs_22 0 rfl rfl dX7_addArcs_96 ?_
    refine lv_iconst hx hb dX7_addArcs_99 qI_5 ?_
    refine lv_iload_n hx hb dX7_addArcs_100 rfl (lv_at hl 1 rfl) ?_
    refine lv_imul hx hb dX7_addArcs_101 ?_
    refine lv_iconst hx hb dX7_addArcs_102 qI_2 ?_
    refine lv_iadd hx hb dX7_addArcs_103 ?_
    obtain ⟨g11, h⟩ := gd_some h
    refine g_ald X hW 3 rfl g11 dX7_addArcs_104 ?_
    refine lv_iadd hx hb dX7_addArcs_105 ?_
    refine lv_iconst hx hb dX7_addArcs_106 qI_5 ?_
    refine lv_icmp_ge (tgt := 177) hx hb dX7_addArcs_107 (by decide) (fun c14 => ?_) (fun c14 => ?_)
    · have h := (if_pos c14).symm.trans h
      exact Hk_177 m_arcs m_arcFrom m_arcTo m_arcRoom m_arcCost h H locs hW ls (lv_sub hl [0, 1] rfl)
    · have h := (if_neg c14).symm.trans h
      refine lv_aload_n hx hb dX7_addArcs_110 rfl (lv_at hl 0 rfl) ?_
      refine lv_iconst hx hb dX7_addArcs_111 qI_5 ?_
      refine lv_aload_n hx hb dX7_addArcs_112 rfl (lv_at hl 0 rfl) ?_
      refine g_get X hW eX7_addArcs_22 0 rfl rfl dX7_addArcs_113 ?_
      refine lv_iconst hx hb dX7_addArcs_116 qI_5 ?_
      refine lv_iload_n hx hb dX7_addArcs_117 rfl (lv_at hl 1 rfl) ?_
      refine lv_imul hx hb dX7_addArcs_118 ?_
      obtain ⟨g22, h⟩ := gd_some h
      refine g_ald X hW 3 rfl g22 dX7_addArcs_119 ?_
      refine lv_imul hx hb dX7_addArcs_120 ?_
      refine lv_iload_n hx hb dX7_addArcs_121 rfl (lv_at hl 2 rfl) ?_
      refine lv_iadd hx hb dX7_addArcs_122 ?_
      refine lv_iconst hx hb dX7_addArcs_123 qI_5 ?_
      refine lv_aload_n hx hb dX7_addArcs_124 rfl (lv_at hl 0 rfl) ?_
      refine g_get X hW eX7_addArcs_22 0 rfl rfl dX7_addArcs_125 ?_
      refine lv_iconst hx hb dX7_addArcs_128 qI_5 ?_
      refine lv_iload_n hx hb dX7_addArcs_129 rfl (lv_at hl 1 rfl) ?_
      refine lv_imul hx hb dX7_addArcs_130 ?_
      refine lv_iconst hx hb dX7_addArcs_131 qI_1 ?_
      refine lv_iadd hx hb dX7_addArcs_132 ?_
      obtain ⟨g34, h⟩ := gd_some h
      refine g_ald X hW 3 rfl g34 dX7_addArcs_133 ?_
      refine lv_imul hx hb dX7_addArcs_134 ?_
      refine lv_iload_n hx hb dX7_addArcs_135 rfl (lv_at hl 2 rfl) ?_
      refine lv_iadd hx hb dX7_addArcs_136 ?_
      refine lv_aload_n hx hb dX7_addArcs_137 rfl (lv_at hl 0 rfl) ?_
      refine g_get X hW eX7_addArcs_22 0 rfl rfl dX7_addArcs_138 ?_
      refine lv_iconst hx hb dX7_addArcs_141 qI_5 ?_
      refine lv_iload_n hx hb dX7_addArcs_142 rfl (lv_at hl 1 rfl) ?_
      refine lv_imul hx hb dX7_addArcs_143 ?_
      refine lv_iconst hx hb dX7_addArcs_144 qI_2 ?_
      refine lv_iadd hx hb dX7_addArcs_145 ?_
      obtain ⟨g45, h⟩ := gd_some h
      refine g_ald X hW 3 rfl g45 dX7_addArcs_146 ?_
      refine lv_iadd hx hb dX7_addArcs_147 ?_
      refine lv_aload_n hx hb dX7_addArcs_148 rfl (lv_at hl 0 rfl) ?_
      refine g_get X hW eX7_addArcs_22 0 rfl rfl dX7_addArcs_149 ?_
      refine lv_iconst hx hb dX7_addArcs_152 qI_5 ?_
      refine lv_iload_n hx hb dX7_addArcs_153 rfl (lv_at hl 1 rfl) ?_
      refine lv_imul hx hb dX7_addArcs_154 ?_
      refine lv_iconst hx hb dX7_addArcs_155 qI_4 ?_
      refine lv_iadd hx hb dX7_addArcs_156 ?_
      obtain ⟨g54, h⟩ := gd_some h
      refine g_ald X hW 3 rfl g54 dX7_addArcs_157 ?_
      refine lv_aload_n hx hb dX7_addArcs_158 rfl (lv_at hl 0 rfl) ?_
      refine g_get X hW eX7_addArcs_22 0 rfl rfl dX7_addArcs_159 ?_
      refine lv_iconst hx hb dX7_addArcs_162 qI_5 ?_
      refine lv_iload_n hx hb dX7_addArcs_163 rfl (lv_at hl 1 rfl) ?_
      refine lv_imul hx hb dX7_addArcs_164 ?_
      refine lv_iconst hx hb dX7_addArcs_165 qI_3 ?_
      refine lv_iadd hx hb dX7_addArcs_166 ?_
      obtain ⟨g62, h⟩ := gd_some h
      refine g_ald X hW 3 rfl g62 dX7_addArcs_167 ?_
      obtain ⟨o63_m_arcs, o63_m_arcFrom, o63_m_arcTo, o63_m_arcRoom, o63_m_arcCost, hq, h⟩ := bn5_some h
      refine g_cvv X hW (As := [.int (((5 : Int32) * (m_routes ((5 : Int32) * v2).toNatClampNeg)) + v3), .int ((((5 : Int32) * (m_routes (((5 : Int32) * v2) + (1 : Int32)).toNatClampNeg)) + v3) + (m_routes (((5 : Int32) * v2) + (2 : Int32)).toNatClampNeg)), .int (m_routes (((5 : Int32) * v2) + (4 : Int32)).toNatClampNeg), .int (m_routes (((5 : Int32) * v2) + (3 : Int32)).toNatClampNeg)]) (ws' := (wX7_addArcs G a_mo a_mo_numbers a_mo_weeks a_mo_routes a_mo_arcFrom a_mo_arcTo a_mo_arcRoom a_mo_arcCost a_mo_boxes a_mo_words a_mo_turns a_mo_leave a_mo_leases a_mo_uses a_mo_far a_mo_by a_mo_best a_mo_tape a_mo_kept o63_m_arcs m_tapeMany m_tokenKind m_tokenAt m_tokenEnd m_tokenValue m_fault m_seen m_isKept m_place m_numbers m_weeks m_routes o63_m_arcFrom o63_m_arcTo o63_m_arcRoom o63_m_arcCost)) ckX7_addArcs_X7_addArc_113 (kcX7_addArc (l := l) G a_mo a_mo_arcFrom a_mo_arcTo a_mo_arcRoom a_mo_arcCost a_mo_numbers a_mo_boxes a_mo_words a_mo_weeks a_mo_routes a_mo_turns a_mo_leave a_mo_leases a_mo_uses a_mo_far a_mo_by a_mo_best a_mo_tape a_mo_kept (((5 : Int32) * (m_routes ((5 : Int32) * v2).toNatClampNeg)) + v3) ((((5 : Int32) * (m_routes (((5 : Int32) * v2) + (1 : Int32)).toNatClampNeg)) + v3) + (m_routes (((5 : Int32) * v2) + (2 : Int32)).toNatClampNeg)) (m_routes (((5 : Int32) * v2) + (4 : Int32)).toNatClampNeg) (m_routes (((5 : Int32) * v2) + (3 : Int32)).toNatClampNeg) m_arcs m_tapeMany m_tokenKind m_tokenAt m_tokenEnd m_tokenValue m_fault m_seen m_isKept m_place m_arcFrom m_arcTo m_arcRoom m_arcCost hq) ⟨rfl, rfl, Nat.le_of_ble_eq_true rfl, Nat.le_of_ble_eq_true rfl⟩ [0, 4, 5, 6, 7] rfl rfl rfl rfl rfl rfl rfl hl.1 (Nat.le_of_ble_eq_true rfl) ⟨Nat.zero_le _, Nat.zero_le _⟩ dX7_addArcs_168 (fun H locs hW => ?_)
      refine lv_iinc (v := (v3 + (1 : Int32))) (lv' := [(3, .int (v3 + (1 : Int32))), (0, .ref a_mo), (2, .int v2)]) hx hb dX7_addArcs_171 hl (k := 2) rfl (congrArg (fun z => v3 + z) qI_1) (by decide) rfl (fun ls hl => ?_)
      refine lv_goto (tgt := 94) hx hb dX7_addArcs_174 (by decide) ?_
      exact ih (v3 + (1 : Int32)) o63_m_arcs o63_m_arcFrom o63_m_arcTo o63_m_arcRoom o63_m_arcCost h H locs hW ls (lv_sub hl [1, 2, 0] rfl)
set_option maxHeartbeats 4000000 in
set_option maxRecDepth 100000 in
theorem tX7_addArcs_82 (X : Bx p s m args meth c cX7_addArcs 4 wsX7_addArcs RX7 none)    : ∀ (n : Nat) (v2 : Int32) (m_arcs : Int32) (m_arcFrom : (Nat → Int32)) (m_arcTo : (Nat → Int32)) (m_arcRoom : (Nat → Int32)) (m_arcCost : (Nat → Int32)), fX7_addArcs_82 m_numbers m_routes n v2 m_arcs m_arcFrom m_arcTo m_arcRoom m_arcCost = some res → ∀ (H : Heap) (locs : List Loc), Wo G A s (wX7_addArcs G a_mo a_mo_numbers a_mo_weeks a_mo_routes a_mo_arcFrom a_mo_arcTo a_mo_arcRoom a_mo_arcCost a_mo_boxes a_mo_words a_mo_turns a_mo_leave a_mo_leases a_mo_uses a_mo_far a_mo_by a_mo_best a_mo_tape a_mo_kept m_arcs m_tapeMany m_tokenKind m_tokenAt m_tokenEnd m_tokenValue m_fault m_seen m_isKept m_place m_numbers m_weeks m_routes m_arcFrom m_arcTo m_arcRoom m_arcCost) H locs → ∀ ls : Array Slot, lv_has ls 4 [(0, .ref a_mo), (2, .int v2)] → W p l e rmX7_addArcs s m args below meth c H locs 0 0 (QV G A below args s (wX7_addArcs G a_mo a_mo_numbers a_mo_weeks a_mo_routes a_mo_arcFrom a_mo_arcTo a_mo_arcRoom a_mo_arcCost a_mo_boxes a_mo_words a_mo_turns a_mo_leave a_mo_leases a_mo_uses a_mo_far a_mo_by a_mo_best a_mo_tape a_mo_kept res.1 m_tapeMany m_tokenKind m_tokenAt m_tokenEnd m_tokenValue m_fault m_seen m_isKept m_place m_numbers m_weeks m_routes res.2.1 res.2.2.1 res.2.2.2.1 res.2.2.2.2)) (F0 m 82 ls []) := by
  obtain ⟨hx, hb, -⟩ := id X.1
  intro n
  induction n with
  | zero => intro v2 m_arcs m_arcFrom m_arcTo m_arcRoom m_arcCost h; rw [fX7_addArcs_82] at h; cases h
  | succ n ih =>
    intro v2 m_arcs m_arcFrom m_arcTo m_arcRoom m_arcCost h H locs hW ls hl
    rw [fX7_addArcs_82] at h
    refine lv_iload_n hx hb dX7_addArcs_82 rfl (lv_at hl 1 rfl) ?_
    refine lv_aload_n hx hb dX7_addArcs_83 rfl (lv_at hl 0 rfl) ?_
    refine g_get X hW eX7_addArcs_7 0 rfl rfl dX7_addArcs_84 ?_
    refine lv_iconst hx hb dX7_addArcs_87 qI_3 ?_
    obtain ⟨g70, h⟩ := gd_some h
    refine g_ald X hW 1 rfl g70 dX7_addArcs_88 ?_
    refine lv_icmp_ge (tgt := 183) hx hb dX7_addArcs_89 (by decide) (fun c71 => ?_) (fun c71 => ?_)
    · have h := (if_pos c71).symm.trans h
      obtain rfl := Option.some.inj h
      exact g_vret X hW dX7_addArcs_183
    · have h := (if_neg c71).symm.trans h
      refine lv_iconst hx hb dX7_addArcs_92 qI_0 ?_
      refine lv_istore_n (lv' := [(3, .int (0 : Int32)), (0, .ref a_mo), (2, .int v2)]) hx hb dX7_addArcs_93 rfl hl (by decide) rfl (fun ls hl => ?_)
      exact tX7_addArcs_94 X v2 (fun m_arcs_q75 m_arcFrom_q75 m_arcTo_q75 m_arcRoom_q75 m_arcCost_q75 => fX7_addArcs_177 (fun v2 m_arcs m_arcFrom m_arcTo m_arcRoom m_arcCost => fX7_addArcs_82 m_numbers m_routes n v2 m_arcs m_arcFrom m_arcTo m_arcRoom m_arcCost) v2 m_arcs_q75 m_arcFrom_q75 m_arcTo_q75 m_arcRoom_q75 m_arcCost_q75) (fun m_arcs_q75 m_arcFrom_q75 m_arcTo_q75 m_arcRoom_q75 m_arcCost_q75 h H locs hW ls hl => by exact tX7_addArcs_177 X v2 m_arcs_q75 m_arcFrom_q75 m_arcTo_q75 m_arcRoom_q75 m_arcCost_q75 (fun v2 m_arcs m_arcFrom m_arcTo m_arcRoom m_arcCost => fX7_addArcs_82 m_numbers m_routes n v2 m_arcs m_arcFrom m_arcTo m_arcRoom m_arcCost) ih h H locs hW ls hl) FU (0 : Int32) m_arcs m_arcFrom m_arcTo m_arcRoom m_arcCost h H locs hW ls (lv_sub hl [1, 2, 0] rfl)
set_option maxHeartbeats 4000000 in
set_option maxRecDepth 100000 in
theorem tX7_addArcs_80 (X : Bx p s m args meth c cX7_addArcs 4 wsX7_addArcs RX7 none) (m_arcs : Int32) (m_arcFrom : (Nat → Int32)) (m_arcTo : (Nat → Int32)) (m_arcRoom : (Nat → Int32)) (m_arcCost : (Nat → Int32))   (h : fX7_addArcs_80 m_arcs m_numbers m_routes m_arcFrom m_arcTo m_arcRoom m_arcCost = some res) : ∀ (H : Heap) (locs : List Loc), Wo G A s (wX7_addArcs G a_mo a_mo_numbers a_mo_weeks a_mo_routes a_mo_arcFrom a_mo_arcTo a_mo_arcRoom a_mo_arcCost a_mo_boxes a_mo_words a_mo_turns a_mo_leave a_mo_leases a_mo_uses a_mo_far a_mo_by a_mo_best a_mo_tape a_mo_kept m_arcs m_tapeMany m_tokenKind m_tokenAt m_tokenEnd m_tokenValue m_fault m_seen m_isKept m_place m_numbers m_weeks m_routes m_arcFrom m_arcTo m_arcRoom m_arcCost) H locs → ∀ ls : Array Slot, lv_has ls 4 [(0, .ref a_mo)] → W p l e rmX7_addArcs s m args below meth c H locs 0 0 (QV G A below args s (wX7_addArcs G a_mo a_mo_numbers a_mo_weeks a_mo_routes a_mo_arcFrom a_mo_arcTo a_mo_arcRoom a_mo_arcCost a_mo_boxes a_mo_words a_mo_turns a_mo_leave a_mo_leases a_mo_uses a_mo_far a_mo_by a_mo_best a_mo_tape a_mo_kept res.1 m_tapeMany m_tokenKind m_tokenAt m_tokenEnd m_tokenValue m_fault m_seen m_isKept m_place m_numbers m_weeks m_routes res.2.1 res.2.2.1 res.2.2.2.1 res.2.2.2.2)) (F0 m 80 ls []) := by
  obtain ⟨hx, hb, -⟩ := id X.1
  intro H locs hW ls hl
  rw [fX7_addArcs_80] at h
  refine lv_iconst hx hb dX7_addArcs_80 qI_0 ?_
  refine lv_istore_n (lv' := [(2, .int (0 : Int32)), (0, .ref a_mo)]) hx hb dX7_addArcs_81 rfl hl (by decide) rfl (fun ls hl => ?_)
  exact tX7_addArcs_82 X  FU (0 : Int32) m_arcs m_arcFrom m_arcTo m_arcRoom m_arcCost h H locs hW ls (lv_sub hl [1, 0] rfl)
set_option maxHeartbeats 4000000 in
set_option maxRecDepth 100000 in
theorem tX7_addArcs_74 (X : Bx p s m args meth c cX7_addArcs 4 wsX7_addArcs RX7 none) (v1 : Int32) (v2 : Int32) (m_arcs : Int32) (m_arcFrom : (Nat → Int32)) (m_arcTo : (Nat → Int32)) (m_arcRoom : (Nat → Int32)) (m_arcCost : (Nat → Int32)) (k_7 : Int32 → Int32 → (Nat → Int32) → (Nat → Int32) → (Nat → Int32) → (Nat → Int32) → Option (Int32 × (Nat → Int32) × (Nat → Int32) × (Nat → Int32) × (Nat → Int32))) (Hk_7 : ∀ (v2 : Int32) (m_arcs : Int32) (m_arcFrom : (Nat → Int32)) (m_arcTo : (Nat → Int32)) (m_arcRoom : (Nat → Int32)) (m_arcCost : (Nat → Int32)), k_7 v2 m_arcs m_arcFrom m_arcTo m_arcRoom m_arcCost = some res → ∀ (H : Heap) (locs : List Loc), Wo G A s (wX7_addArcs G a_mo a_mo_numbers a_mo_weeks a_mo_routes a_mo_arcFrom a_mo_arcTo a_mo_arcRoom a_mo_arcCost a_mo_boxes a_mo_words a_mo_turns a_mo_leave a_mo_leases a_mo_uses a_mo_far a_mo_by a_mo_best a_mo_tape a_mo_kept m_arcs m_tapeMany m_tokenKind m_tokenAt m_tokenEnd m_tokenValue m_fault m_seen m_isKept m_place m_numbers m_weeks m_routes m_arcFrom m_arcTo m_arcRoom m_arcCost) H locs → ∀ ls : Array Slot, lv_has ls 4 [(0, .ref a_mo), (1, .int v1), (2, .int v2)] → W p l e rmX7_addArcs s m args below meth c H locs 0 0 (QV G A below args s (wX7_addArcs G a_mo a_mo_numbers a_mo_weeks a_mo_routes a_mo_arcFrom a_mo_arcTo a_mo_arcRoom a_mo_arcCost a_mo_boxes a_mo_words a_mo_turns a_mo_leave a_mo_leases a_mo_uses a_mo_far a_mo_by a_mo_best a_mo_tape a_mo_kept res.1 m_tapeMany m_tokenKind m_tokenAt m_tokenEnd m_tokenValue m_fault m_seen m_isKept m_place m_numbers m_weeks m_routes res.2.1 res.2.2.1 res.2.2.2.1 res.2.2.2.2)) (F0 m 7 ls [])) (h : fX7_addArcs_74 k_7 v2 m_arcs m_arcFrom m_arcTo m_arcRoom m_arcCost = some res) : ∀ (H : Heap) (locs : List Loc), Wo G A s (wX7_addArcs G a_mo a_mo_numbers a_mo_weeks a_mo_routes a_mo_arcFrom a_mo_arcTo a_mo_arcRoom a_mo_arcCost a_mo_boxes a_mo_words a_mo_turns a_mo_leave a_mo_leases a_mo_uses a_mo_far a_mo_by a_mo_best a_mo_tape a_mo_kept m_arcs m_tapeMany m_tokenKind m_tokenAt m_tokenEnd m_tokenValue m_fault m_seen m_isKept m_place m_numbers m_weeks m_routes m_arcFrom m_arcTo m_arcRoom m_arcCost) H locs → ∀ ls : Array Slot, lv_has ls 4 [(0, .ref a_mo), (1, .int v1), (2, .int v2)] → W p l e rmX7_addArcs s m args below meth c H locs 0 0 (QV G A below args s (wX7_addArcs G a_mo a_mo_numbers a_mo_weeks a_mo_routes a_mo_arcFrom a_mo_arcTo a_mo_arcRoom a_mo_arcCost a_mo_boxes a_mo_words a_mo_turns a_mo_leave a_mo_leases a_mo_uses a_mo_far a_mo_by a_mo_best a_mo_tape a_mo_kept res.1 m_tapeMany m_tokenKind m_tokenAt m_tokenEnd m_tokenValue m_fault m_seen m_isKept m_place m_numbers m_weeks m_routes res.2.1 res.2.2.1 res.2.2.2.1 res.2.2.2.2)) (F0 m 74 ls []) := by
  obtain ⟨hx, hb, -⟩ := id X.1
  intro H locs hW ls hl
  rw [fX7_addArcs_74] at h
  refine lv_iinc (v := (v2 + (1 : Int32))) (lv' := [(2, .int (v2 + (1 : Int32))), (0, .ref a_mo), (1, .int v1)]) hx hb dX7_addArcs_74 hl (k := 2) rfl (congrArg (fun z => v2 + z) qI_1) (by decide) rfl (fun ls hl => ?_)
  refine lv_goto (tgt := 7) hx hb dX7_addArcs_77 (by decide) ?_
  exact Hk_7 (v2 + (1 : Int32)) m_arcs m_arcFrom m_arcTo m_arcRoom m_arcCost h H locs hW ls (lv_sub hl [1, 2, 0] rfl)
set_option maxHeartbeats 4000000 in
set_option maxRecDepth 100000 in
theorem tX7_addArcs_33 (X : Bx p s m args meth c cX7_addArcs 4 wsX7_addArcs RX7 none) (v1 : Int32) (v2 : Int32) (t1 : Int32) (t2 : Int32) (t3 : Int32) (t4 : Int32) (m_arcs : Int32) (m_arcFrom : (Nat → Int32)) (m_arcTo : (Nat → Int32)) (m_arcRoom : (Nat → Int32)) (m_arcCost : (Nat → Int32)) (k_7 : Int32 → Int32 → (Nat → Int32) → (Nat → Int32) → (Nat → Int32) → (Nat → Int32) → Option (Int32 × (Nat → Int32) × (Nat → Int32) × (Nat → Int32) × (Nat → Int32))) (Hk_7 : ∀ (v2 : Int32) (m_arcs : Int32) (m_arcFrom : (Nat → Int32)) (m_arcTo : (Nat → Int32)) (m_arcRoom : (Nat → Int32)) (m_arcCost : (Nat → Int32)), k_7 v2 m_arcs m_arcFrom m_arcTo m_arcRoom m_arcCost = some res → ∀ (H : Heap) (locs : List Loc), Wo G A s (wX7_addArcs G a_mo a_mo_numbers a_mo_weeks a_mo_routes a_mo_arcFrom a_mo_arcTo a_mo_arcRoom a_mo_arcCost a_mo_boxes a_mo_words a_mo_turns a_mo_leave a_mo_leases a_mo_uses a_mo_far a_mo_by a_mo_best a_mo_tape a_mo_kept m_arcs m_tapeMany m_tokenKind m_tokenAt m_tokenEnd m_tokenValue m_fault m_seen m_isKept m_place m_numbers m_weeks m_routes m_arcFrom m_arcTo m_arcRoom m_arcCost) H locs → ∀ ls : Array Slot, lv_has ls 4 [(0, .ref a_mo), (1, .int v1), (2, .int v2)] → W p l e rmX7_addArcs s m args below meth c H locs 0 0 (QV G A below args s (wX7_addArcs G a_mo a_mo_numbers a_mo_weeks a_mo_routes a_mo_arcFrom a_mo_arcTo a_mo_arcRoom a_mo_arcCost a_mo_boxes a_mo_words a_mo_turns a_mo_leave a_mo_leases a_mo_uses a_mo_far a_mo_by a_mo_best a_mo_tape a_mo_kept res.1 m_tapeMany m_tokenKind m_tokenAt m_tokenEnd m_tokenValue m_fault m_seen m_isKept m_place m_numbers m_weeks m_routes res.2.1 res.2.2.1 res.2.2.2.1 res.2.2.2.2)) (F0 m 7 ls [])) (h : fX7_addArcs_33 k_7 v2 t1 t2 t3 t4 m_arcs m_weeks m_arcFrom m_arcTo m_arcRoom m_arcCost = some res) : ∀ (H : Heap) (locs : List Loc), Wo G A s (wX7_addArcs G a_mo a_mo_numbers a_mo_weeks a_mo_routes a_mo_arcFrom a_mo_arcTo a_mo_arcRoom a_mo_arcCost a_mo_boxes a_mo_words a_mo_turns a_mo_leave a_mo_leases a_mo_uses a_mo_far a_mo_by a_mo_best a_mo_tape a_mo_kept m_arcs m_tapeMany m_tokenKind m_tokenAt m_tokenEnd m_tokenValue m_fault m_seen m_isKept m_place m_numbers m_weeks m_routes m_arcFrom m_arcTo m_arcRoom m_arcCost) H locs → ∀ ls : Array Slot, lv_has ls 4 [(0, .ref a_mo), (1, .int v1), (2, .int v2)] → W p l e rmX7_addArcs s m args below meth c H locs 0 0 (QV G A below args s (wX7_addArcs G a_mo a_mo_numbers a_mo_weeks a_mo_routes a_mo_arcFrom a_mo_arcTo a_mo_arcRoom a_mo_arcCost a_mo_boxes a_mo_words a_mo_turns a_mo_leave a_mo_leases a_mo_uses a_mo_far a_mo_by a_mo_best a_mo_tape a_mo_kept res.1 m_tapeMany m_tokenKind m_tokenAt m_tokenEnd m_tokenValue m_fault m_seen m_isKept m_place m_numbers m_weeks m_routes res.2.1 res.2.2.1 res.2.2.2.1 res.2.2.2.2)) (F0 m 33 ls [.int t4, .int t3, .int t2, .int t1, .ref a_mo]) := by
  obtain ⟨hx, hb, -⟩ := id X.1
  intro H locs hW ls hl
  rw [fX7_addArcs_33] at h
  refine lv_iadd hx hb dX7_addArcs_33 ?_
  refine lv_iconst hx hb dX7_addArcs_34 qI_0 ?_
  obtain ⟨o82_m_arcs, o82_m_arcFrom, o82_m_arcTo, o82_m_arcRoom, o82_m_arcCost, hq, h⟩ := bn5_some h
  refine g_cvv X hW (As := [.int t1, .int t2, .int (t3 + t4), .int (0 : Int32)]) (ws' := (wX7_addArcs G a_mo a_mo_numbers a_mo_weeks a_mo_routes a_mo_arcFrom a_mo_arcTo a_mo_arcRoom a_mo_arcCost a_mo_boxes a_mo_words a_mo_turns a_mo_leave a_mo_leases a_mo_uses a_mo_far a_mo_by a_mo_best a_mo_tape a_mo_kept o82_m_arcs m_tapeMany m_tokenKind m_tokenAt m_tokenEnd m_tokenValue m_fault m_seen m_isKept m_place m_numbers m_weeks m_routes o82_m_arcFrom o82_m_arcTo o82_m_arcRoom o82_m_arcCost)) ckX7_addArcs_X7_addArc_113 (kcX7_addArc (l := l) G a_mo a_mo_arcFrom a_mo_arcTo a_mo_arcRoom a_mo_arcCost a_mo_numbers a_mo_boxes a_mo_words a_mo_weeks a_mo_routes a_mo_turns a_mo_leave a_mo_leases a_mo_uses a_mo_far a_mo_by a_mo_best a_mo_tape a_mo_kept t1 t2 (t3 + t4) (0 : Int32) m_arcs m_tapeMany m_tokenKind m_tokenAt m_tokenEnd m_tokenValue m_fault m_seen m_isKept m_place m_arcFrom m_arcTo m_arcRoom m_arcCost hq) ⟨rfl, rfl, Nat.le_of_ble_eq_true rfl, Nat.le_of_ble_eq_true rfl⟩ [0, 4, 5, 6, 7] rfl rfl rfl rfl rfl rfl rfl hl.1 (Nat.le_of_ble_eq_true rfl) ⟨Nat.zero_le _, Nat.zero_le _⟩ dX7_addArcs_35 (fun H locs hW => ?_)
  refine lv_aload_n hx hb dX7_addArcs_38 rfl (lv_at hl 0 rfl) ?_
  refine lv_iload_n hx hb dX7_addArcs_39 rfl (lv_at hl 2 rfl) ?_
  refine lv_bipush hx hb dX7_addArcs_40 qB_31 ?_
  refine lv_aload_n hx hb dX7_addArcs_42 rfl (lv_at hl 0 rfl) ?_
  refine g_get X hW eX7_addArcs_19 0 rfl rfl dX7_addArcs_43 ?_
  refine lv_bipush hx hb dX7_addArcs_46 qB_30 ?_
  refine lv_iload_n hx hb dX7_addArcs_48 rfl (lv_at hl 2 rfl) ?_
  refine lv_iadd hx hb dX7_addArcs_49 ?_
  obtain ⟨g91, h⟩ := gd_some h
  refine g_ald X hW 2 rfl g91 dX7_addArcs_50 ?_
  refine lv_iconst hx hb dX7_addArcs_51 qI_0 ?_
  obtain ⟨o93_m_arcs, o93_m_arcFrom, o93_m_arcTo, o93_m_arcRoom, o93_m_arcCost, hq, h⟩ := bn5_some h
  refine g_cvv X hW (As := [.int v2, .int (31 : Int32), .int (m_weeks ((30 : Int32) + v2).toNatClampNeg), .int (0 : Int32)]) (ws' := (wX7_addArcs G a_mo a_mo_numbers a_mo_weeks a_mo_routes a_mo_arcFrom a_mo_arcTo a_mo_arcRoom a_mo_arcCost a_mo_boxes a_mo_words a_mo_turns a_mo_leave a_mo_leases a_mo_uses a_mo_far a_mo_by a_mo_best a_mo_tape a_mo_kept o93_m_arcs m_tapeMany m_tokenKind m_tokenAt m_tokenEnd m_tokenValue m_fault m_seen m_isKept m_place m_numbers m_weeks m_routes o93_m_arcFrom o93_m_arcTo o93_m_arcRoom o93_m_arcCost)) ckX7_addArcs_X7_addArc_113 (kcX7_addArc (l := l) G a_mo a_mo_arcFrom a_mo_arcTo a_mo_arcRoom a_mo_arcCost a_mo_numbers a_mo_boxes a_mo_words a_mo_weeks a_mo_routes a_mo_turns a_mo_leave a_mo_leases a_mo_uses a_mo_far a_mo_by a_mo_best a_mo_tape a_mo_kept v2 (31 : Int32) (m_weeks ((30 : Int32) + v2).toNatClampNeg) (0 : Int32) o82_m_arcs m_tapeMany m_tokenKind m_tokenAt m_tokenEnd m_tokenValue m_fault m_seen m_isKept m_place o82_m_arcFrom o82_m_arcTo o82_m_arcRoom o82_m_arcCost hq) ⟨rfl, rfl, Nat.le_of_ble_eq_true rfl, Nat.le_of_ble_eq_true rfl⟩ [0, 4, 5, 6, 7] rfl rfl rfl rfl rfl rfl rfl hl.1 (Nat.le_of_ble_eq_true rfl) ⟨Nat.zero_le _, Nat.zero_le _⟩ dX7_addArcs_52 (fun H locs hW => ?_)
  refine lv_iload_n hx hb dX7_addArcs_55 rfl (lv_at hl 2 rfl) ?_
  refine lv_iconst hx hb dX7_addArcs_56 qI_5 ?_
  refine g_irem hx hb dX7_addArcs_57 (by decide) ?_
  refine lv_iconst hx hb dX7_addArcs_58 qI_4 ?_
  refine lv_icmp_ge (tgt := 74) hx hb dX7_addArcs_59 (by decide) (fun c98 => ?_) (fun c98 => ?_)
  · have h := (if_pos c98).symm.trans h
    exact tX7_addArcs_74 X v1 v2 o93_m_arcs o93_m_arcFrom o93_m_arcTo o93_m_arcRoom o93_m_arcCost k_7 Hk_7 h H locs hW ls hl
  · have h := (if_neg c98).symm.trans h
    refine lv_aload_n hx hb dX7_addArcs_62 rfl (lv_at hl 0 rfl) ?_
    refine lv_iload_n hx hb dX7_addArcs_63 rfl (lv_at hl 2 rfl) ?_
    refine lv_iload_n hx hb dX7_addArcs_64 rfl (lv_at hl 2 rfl) ?_
    refine lv_iconst hx hb dX7_addArcs_65 qI_1 ?_
    refine lv_iadd hx hb dX7_addArcs_66 ?_
    refine lv_sipush hx hb dX7_addArcs_67 qS_1000 ?_
    refine lv_iconst hx hb dX7_addArcs_70 qI_0 ?_
    obtain ⟨o106_m_arcs, o106_m_arcFrom, o106_m_arcTo, o106_m_arcRoom, o106_m_arcCost, hq, h⟩ := bn5_some h
    refine g_cvv X hW (As := [.int v2, .int (v2 + (1 : Int32)), .int (1000 : Int32), .int (0 : Int32)]) (ws' := (wX7_addArcs G a_mo a_mo_numbers a_mo_weeks a_mo_routes a_mo_arcFrom a_mo_arcTo a_mo_arcRoom a_mo_arcCost a_mo_boxes a_mo_words a_mo_turns a_mo_leave a_mo_leases a_mo_uses a_mo_far a_mo_by a_mo_best a_mo_tape a_mo_kept o106_m_arcs m_tapeMany m_tokenKind m_tokenAt m_tokenEnd m_tokenValue m_fault m_seen m_isKept m_place m_numbers m_weeks m_routes o106_m_arcFrom o106_m_arcTo o106_m_arcRoom o106_m_arcCost)) ckX7_addArcs_X7_addArc_113 (kcX7_addArc (l := l) G a_mo a_mo_arcFrom a_mo_arcTo a_mo_arcRoom a_mo_arcCost a_mo_numbers a_mo_boxes a_mo_words a_mo_weeks a_mo_routes a_mo_turns a_mo_leave a_mo_leases a_mo_uses a_mo_far a_mo_by a_mo_best a_mo_tape a_mo_kept v2 (v2 + (1 : Int32)) (1000 : Int32) (0 : Int32) o93_m_arcs m_tapeMany m_tokenKind m_tokenAt m_tokenEnd m_tokenValue m_fault m_seen m_isKept m_place o93_m_arcFrom o93_m_arcTo o93_m_arcRoom o93_m_arcCost hq) ⟨rfl, rfl, Nat.le_of_ble_eq_true rfl, Nat.le_of_ble_eq_true rfl⟩ [0, 4, 5, 6, 7] rfl rfl rfl rfl rfl rfl rfl hl.1 (Nat.le_of_ble_eq_true rfl) ⟨Nat.zero_le _, Nat.zero_le _⟩ dX7_addArcs_71 (fun H locs hW => ?_)
    exact tX7_addArcs_74 X v1 v2 o106_m_arcs o106_m_arcFrom o106_m_arcTo o106_m_arcRoom o106_m_arcCost k_7 Hk_7 h H locs hW ls hl
set_option maxHeartbeats 4000000 in
set_option maxRecDepth 100000 in
theorem tX7_addArcs_7 (X : Bx p s m args meth c cX7_addArcs 4 wsX7_addArcs RX7 none) (v1 : Int32) (k_80 : Int32 → (Nat → Int32) → (Nat → Int32) → (Nat → Int32) → (Nat → Int32) → Option (Int32 × (Nat → Int32) × (Nat → Int32) × (Nat → Int32) × (Nat → Int32))) (Hk_80 : ∀ (m_arcs : Int32) (m_arcFrom : (Nat → Int32)) (m_arcTo : (Nat → Int32)) (m_arcRoom : (Nat → Int32)) (m_arcCost : (Nat → Int32)), k_80 m_arcs m_arcFrom m_arcTo m_arcRoom m_arcCost = some res → ∀ (H : Heap) (locs : List Loc), Wo G A s (wX7_addArcs G a_mo a_mo_numbers a_mo_weeks a_mo_routes a_mo_arcFrom a_mo_arcTo a_mo_arcRoom a_mo_arcCost a_mo_boxes a_mo_words a_mo_turns a_mo_leave a_mo_leases a_mo_uses a_mo_far a_mo_by a_mo_best a_mo_tape a_mo_kept m_arcs m_tapeMany m_tokenKind m_tokenAt m_tokenEnd m_tokenValue m_fault m_seen m_isKept m_place m_numbers m_weeks m_routes m_arcFrom m_arcTo m_arcRoom m_arcCost) H locs → ∀ ls : Array Slot, lv_has ls 4 [(0, .ref a_mo)] → W p l e rmX7_addArcs s m args below meth c H locs 0 0 (QV G A below args s (wX7_addArcs G a_mo a_mo_numbers a_mo_weeks a_mo_routes a_mo_arcFrom a_mo_arcTo a_mo_arcRoom a_mo_arcCost a_mo_boxes a_mo_words a_mo_turns a_mo_leave a_mo_leases a_mo_uses a_mo_far a_mo_by a_mo_best a_mo_tape a_mo_kept res.1 m_tapeMany m_tokenKind m_tokenAt m_tokenEnd m_tokenValue m_fault m_seen m_isKept m_place m_numbers m_weeks m_routes res.2.1 res.2.2.1 res.2.2.2.1 res.2.2.2.2)) (F0 m 80 ls [])) : ∀ (n : Nat) (v2 : Int32) (m_arcs : Int32) (m_arcFrom : (Nat → Int32)) (m_arcTo : (Nat → Int32)) (m_arcRoom : (Nat → Int32)) (m_arcCost : (Nat → Int32)), fX7_addArcs_7 v1 m_weeks k_80 n v2 m_arcs m_arcFrom m_arcTo m_arcRoom m_arcCost = some res → ∀ (H : Heap) (locs : List Loc), Wo G A s (wX7_addArcs G a_mo a_mo_numbers a_mo_weeks a_mo_routes a_mo_arcFrom a_mo_arcTo a_mo_arcRoom a_mo_arcCost a_mo_boxes a_mo_words a_mo_turns a_mo_leave a_mo_leases a_mo_uses a_mo_far a_mo_by a_mo_best a_mo_tape a_mo_kept m_arcs m_tapeMany m_tokenKind m_tokenAt m_tokenEnd m_tokenValue m_fault m_seen m_isKept m_place m_numbers m_weeks m_routes m_arcFrom m_arcTo m_arcRoom m_arcCost) H locs → ∀ ls : Array Slot, lv_has ls 4 [(0, .ref a_mo), (1, .int v1), (2, .int v2)] → W p l e rmX7_addArcs s m args below meth c H locs 0 0 (QV G A below args s (wX7_addArcs G a_mo a_mo_numbers a_mo_weeks a_mo_routes a_mo_arcFrom a_mo_arcTo a_mo_arcRoom a_mo_arcCost a_mo_boxes a_mo_words a_mo_turns a_mo_leave a_mo_leases a_mo_uses a_mo_far a_mo_by a_mo_best a_mo_tape a_mo_kept res.1 m_tapeMany m_tokenKind m_tokenAt m_tokenEnd m_tokenValue m_fault m_seen m_isKept m_place m_numbers m_weeks m_routes res.2.1 res.2.2.1 res.2.2.2.1 res.2.2.2.2)) (F0 m 7 ls []) := by
  obtain ⟨hx, hb, -⟩ := id X.1
  intro n
  induction n with
  | zero => intro v2 m_arcs m_arcFrom m_arcTo m_arcRoom m_arcCost h; rw [fX7_addArcs_7] at h; cases h
  | succ n ih =>
    intro v2 m_arcs m_arcFrom m_arcTo m_arcRoom m_arcCost h H locs hW ls hl
    rw [fX7_addArcs_7] at h
    refine lv_iload_n hx hb dX7_addArcs_7 rfl (lv_at hl 2 rfl) ?_
    refine lv_bipush hx hb dX7_addArcs_8 qB_30 ?_
    refine lv_icmp_ge (tgt := 80) hx hb dX7_addArcs_10 (by decide) (fun c109 => ?_) (fun c109 => ?_)
    · have h := (if_pos c109).symm.trans h
      exact Hk_80 m_arcs m_arcFrom m_arcTo m_arcRoom m_arcCost h H locs hW ls (lv_sub hl [0] rfl)
    · have h := (if_neg c109).symm.trans h
      refine lv_aload_n hx hb dX7_addArcs_13 rfl (lv_at hl 0 rfl) ?_
      refine lv_bipush hx hb dX7_addArcs_14 qB_30 ?_
      refine lv_iload_n hx hb dX7_addArcs_16 rfl (lv_at hl 2 rfl) ?_
      refine lv_aload_n hx hb dX7_addArcs_17 rfl (lv_at hl 0 rfl) ?_
      refine g_get X hW eX7_addArcs_19 0 rfl rfl dX7_addArcs_18 ?_
      refine lv_iload_n hx hb dX7_addArcs_21 rfl (lv_at hl 2 rfl) ?_
      obtain ⟨g116, h⟩ := gd_some h
      refine g_ald X hW 2 rfl g116 dX7_addArcs_22 ?_
      refine lv_iload_n hx hb dX7_addArcs_23 rfl (lv_at hl 2 rfl) ?_
      refine lv_iload_n hx hb dX7_addArcs_24 rfl (lv_at hl 1 rfl) ?_
      refine lv_icmp_ne (tgt := 32) hx hb dX7_addArcs_25 (by decide) (fun c119 => ?_) (fun c119 => ?_)
      · have h := (if_neg c119).symm.trans h
        refine lv_iconst hx hb dX7_addArcs_32 qI_0 ?_
        exact tX7_addArcs_33 X v1 v2 (30 : Int32) v2 (m_weeks v2.toNatClampNeg) (0 : Int32) m_arcs m_arcFrom m_arcTo m_arcRoom m_arcCost (fun v2 m_arcs m_arcFrom m_arcTo m_arcRoom m_arcCost => fX7_addArcs_7 v1 m_weeks k_80 n v2 m_arcs m_arcFrom m_arcTo m_arcRoom m_arcCost) ih h H locs hW ls hl
      · have h := (if_pos c119).symm.trans h
        refine lv_iconst hx hb dX7_addArcs_28 qI_1 ?_
        refine lv_goto (tgt := 33) hx hb dX7_addArcs_29 (by decide) ?_
        exact tX7_addArcs_33 X v1 v2 (30 : Int32) v2 (m_weeks v2.toNatClampNeg) (1 : Int32) m_arcs m_arcFrom m_arcTo m_arcRoom m_arcCost (fun v2 m_arcs m_arcFrom m_arcTo m_arcRoom m_arcCost => fX7_addArcs_7 v1 m_weeks k_80 n v2 m_arcs m_arcFrom m_arcTo m_arcRoom m_arcCost) ih h H locs hW ls hl
set_option maxHeartbeats 4000000 in
set_option maxRecDepth 100000 in
theorem k0X7_addArcs {l : Launch} (G : Gt) (a_mo a_mo_numbers a_mo_weeks a_mo_routes a_mo_arcFrom a_mo_arcTo a_mo_arcRoom a_mo_arcCost a_mo_boxes a_mo_words a_mo_turns a_mo_leave a_mo_leases a_mo_uses a_mo_far a_mo_by a_mo_best a_mo_tape a_mo_kept : Nat) (v1 : Int32) (m_arcs : Int32) (m_tapeMany : Int32) (m_tokenKind : Int32) (m_tokenAt : Int32) (m_tokenEnd : Int32) (m_tokenValue : Int32) (m_fault : Int32) (m_seen : Int32) (m_isKept : Int32) (m_place : Int32) (m_numbers : (Nat → Int32)) (m_weeks : (Nat → Int32)) (m_routes : (Nat → Int32)) (m_arcFrom : (Nat → Int32)) (m_arcTo : (Nat → Int32)) (m_arcRoom : (Nat → Int32)) (m_arcCost : (Nat → Int32)) {res : Int32 × (Nat → Int32) × (Nat → Int32) × (Nat → Int32) × (Nat → Int32)} (h : fX7_addArcs v1 m_arcs m_numbers m_weeks m_routes m_arcFrom m_arcTo m_arcRoom m_arcCost = some res) : CtV G l yX7_addArcs wsX7_addArcs rmX7_addArcs [.ref a_mo, .int v1] (wX7_addArcs G a_mo a_mo_numbers a_mo_weeks a_mo_routes a_mo_arcFrom a_mo_arcTo a_mo_arcRoom a_mo_arcCost a_mo_boxes a_mo_words a_mo_turns a_mo_leave a_mo_leases a_mo_uses a_mo_far a_mo_by a_mo_best a_mo_tape a_mo_kept m_arcs m_tapeMany m_tokenKind m_tokenAt m_tokenEnd m_tokenValue m_fault m_seen m_isKept m_place m_numbers m_weeks m_routes m_arcFrom m_arcTo m_arcRoom m_arcCost) (wX7_addArcs G a_mo a_mo_numbers a_mo_weeks a_mo_routes a_mo_arcFrom a_mo_arcTo a_mo_arcRoom a_mo_arcCost a_mo_boxes a_mo_words a_mo_turns a_mo_leave a_mo_leases a_mo_uses a_mo_far a_mo_by a_mo_best a_mo_tape a_mo_kept res.1 m_tapeMany m_tokenKind m_tokenAt m_tokenEnd m_tokenValue m_fault m_seen m_isKept m_place m_numbers m_weeks m_routes res.2.1 res.2.2.1 res.2.2.2.1 res.2.2.2.2) := by
  refine CtV.mk (cc := cX7_addArcs) (maxL := 4) (ret := none) (own := RX7) (by decide) rfl rfl (Nat.le_of_ble_eq_true rfl) ?_
  intro p e s m below meth c A X ls hl hW
  obtain ⟨hx, hb, -⟩ := id X.1
  have hl : lv_has ls 4 [(0, .ref a_mo), (1, .int v1)] := hl
  generalize hH : s.heap = H at hW ⊢
  generalize hLo : ([] : List Loc) = locs at hW ⊢
  rw [fX7_addArcs] at h
  refine lv_aload_n hx hb dX7_addArcs_0 rfl (lv_at hl 0 rfl) ?_
  refine lv_iconst hx hb dX7_addArcs_1 qI_0 ?_
  refine g_put X hW (ws' := (wX7_addArcs G a_mo a_mo_numbers a_mo_weeks a_mo_routes a_mo_arcFrom a_mo_arcTo a_mo_arcRoom a_mo_arcCost a_mo_boxes a_mo_words a_mo_turns a_mo_leave a_mo_leases a_mo_uses a_mo_far a_mo_by a_mo_best a_mo_tape a_mo_kept (0 : Int32) m_tapeMany m_tokenKind m_tokenAt m_tokenEnd m_tokenValue m_fault m_seen m_isKept m_place m_numbers m_weeks m_routes m_arcFrom m_arcTo m_arcRoom m_arcCost)) pX7_addArcs_109 0 rfl (Nat.le_of_ble_eq_true rfl) rfl rfl rfl dX7_addArcs_2 (fun H locs hW => ?_)
  refine lv_iconst hx hb dX7_addArcs_5 qI_0 ?_
  refine lv_istore_n (lv' := [(2, .int (0 : Int32)), (0, .ref a_mo), (1, .int v1)]) hx hb dX7_addArcs_6 rfl hl (by decide) rfl (fun ls hl => ?_)
  exact tX7_addArcs_7 X v1 (fun m_arcs_q128 m_arcFrom_q128 m_arcTo_q128 m_arcRoom_q128 m_arcCost_q128 => fX7_addArcs_80 m_arcs_q128 m_numbers m_routes m_arcFrom_q128 m_arcTo_q128 m_arcRoom_q128 m_arcCost_q128) (fun m_arcs_q128 m_arcFrom_q128 m_arcTo_q128 m_arcRoom_q128 m_arcCost_q128 h H locs hW ls hl => by exact tX7_addArcs_80 X m_arcs_q128 m_arcFrom_q128 m_arcTo_q128 m_arcRoom_q128 m_arcCost_q128 h H locs hW ls hl) FU (0 : Int32) (0 : Int32) m_arcFrom m_arcTo m_arcRoom m_arcCost h H locs hW ls (lv_sub hl [1, 2, 0] rfl)
theorem kcX7_addArcs {l : Launch} (G : Gt) (a_mo a_mo_numbers a_mo_weeks a_mo_routes a_mo_arcFrom a_mo_arcTo a_mo_arcRoom a_mo_arcCost a_mo_boxes a_mo_words a_mo_turns a_mo_leave a_mo_leases a_mo_uses a_mo_far a_mo_by a_mo_best a_mo_tape a_mo_kept : Nat) (v1 : Int32) (m_arcs : Int32) (m_tapeMany : Int32) (m_tokenKind : Int32) (m_tokenAt : Int32) (m_tokenEnd : Int32) (m_tokenValue : Int32) (m_fault : Int32) (m_seen : Int32) (m_isKept : Int32) (m_place : Int32) (m_numbers : (Nat → Int32)) (m_weeks : (Nat → Int32)) (m_routes : (Nat → Int32)) (m_arcFrom : (Nat → Int32)) (m_arcTo : (Nat → Int32)) (m_arcRoom : (Nat → Int32)) (m_arcCost : (Nat → Int32))  {z_m_arcs : Int32} {z_m_arcFrom : (Nat → Int32)} {z_m_arcTo : (Nat → Int32)} {z_m_arcRoom : (Nat → Int32)} {z_m_arcCost : (Nat → Int32)} (h : fX7_addArcs v1 m_arcs m_numbers m_weeks m_routes m_arcFrom m_arcTo m_arcRoom m_arcCost = some (z_m_arcs, z_m_arcFrom, z_m_arcTo, z_m_arcRoom, z_m_arcCost)) : CtV G l yX7_addArcs wsX7_addArcs rmX7_addArcs [.ref a_mo, .int v1] (wX7_addArcs G a_mo a_mo_numbers a_mo_weeks a_mo_routes a_mo_arcFrom a_mo_arcTo a_mo_arcRoom a_mo_arcCost a_mo_boxes a_mo_words a_mo_turns a_mo_leave a_mo_leases a_mo_uses a_mo_far a_mo_by a_mo_best a_mo_tape a_mo_kept m_arcs m_tapeMany m_tokenKind m_tokenAt m_tokenEnd m_tokenValue m_fault m_seen m_isKept m_place m_numbers m_weeks m_routes m_arcFrom m_arcTo m_arcRoom m_arcCost) (wX7_addArcs G a_mo a_mo_numbers a_mo_weeks a_mo_routes a_mo_arcFrom a_mo_arcTo a_mo_arcRoom a_mo_arcCost a_mo_boxes a_mo_words a_mo_turns a_mo_leave a_mo_leases a_mo_uses a_mo_far a_mo_by a_mo_best a_mo_tape a_mo_kept z_m_arcs m_tapeMany m_tokenKind m_tokenAt m_tokenEnd m_tokenValue m_fault m_seen m_isKept m_place m_numbers m_weeks m_routes z_m_arcFrom z_m_arcTo z_m_arcRoom z_m_arcCost) := k0X7_addArcs G a_mo a_mo_numbers a_mo_weeks a_mo_routes a_mo_arcFrom a_mo_arcTo a_mo_arcRoom a_mo_arcCost a_mo_boxes a_mo_words a_mo_turns a_mo_leave a_mo_leases a_mo_uses a_mo_far a_mo_by a_mo_best a_mo_tape a_mo_kept v1 m_arcs m_tapeMany m_tokenKind m_tokenAt m_tokenEnd m_tokenValue m_fault m_seen m_isKept m_place m_numbers m_weeks m_routes m_arcFrom m_arcTo m_arcRoom m_arcCost h
end MX7_addArcs
/-! EmptyBoxesModel.cheapest -/
section MX7_cheapest
theorem hdX7_cheapest : yX7_cheapest.cls = RX7 ∧ yX7_cheapest.cls ≠ "java/lang/invoke/MethodHandle" ∧ yX7_cheapest.cls ≠ "java/lang/invoke/VarHandle" ∧ (parseMethodDescriptor yX7_cheapest.desc).map (fun d => d.parameters.length) = some 0 := by decide +kernel
abbrev wX7_cheapest (G : Gt) (a_mo a_mo_arcFrom a_mo_arcTo a_mo_arcRoom a_mo_arcCost a_mo_far a_mo_by a_mo_numbers a_mo_boxes a_mo_words a_mo_weeks a_mo_routes a_mo_turns a_mo_leave a_mo_leases a_mo_uses a_mo_best a_mo_tape a_mo_kept : Nat) (m_arcs : Int32) (m_tapeMany : Int32) (m_tokenKind : Int32) (m_tokenAt : Int32) (m_tokenEnd : Int32) (m_tokenValue : Int32) (m_fault : Int32) (m_seen : Int32) (m_isKept : Int32) (m_place : Int32) (m_arcFrom : (Nat → Int32)) (m_arcTo : (Nat → Int32)) (m_arcRoom : (Nat → Int32)) (m_arcCost : (Nat → Int32)) (m_far : (Nat → Int32)) (m_by : (Nat → Int32)) : va_W := [(a_mo, .inr (7, [.ref a_mo_numbers, .ref a_mo_boxes, .ref a_mo_words, .ref a_mo_weeks, .ref a_mo_routes, .ref a_mo_turns, .ref a_mo_leave, .ref a_mo_leases, .ref a_mo_uses, .ref a_mo_arcFrom, .ref a_mo_arcTo, .ref a_mo_arcRoom, .ref a_mo_arcCost, .int m_arcs, .ref a_mo_far, .ref a_mo_by, .ref a_mo_best, .ref a_mo_tape, .int m_tapeMany, .int m_tokenKind, .int m_tokenAt, .int m_tokenEnd, .int m_tokenValue, .int m_fault, .int m_seen, .int m_isKept, .ref a_mo_kept, .int m_place])), (a_mo_arcFrom, .inl (G.2.1, 300, .inl m_arcFrom)), (a_mo_arcTo, .inl (G.2.1, 300, .inl m_arcTo)), (a_mo_arcRoom, .inl (G.2.1, 300, .inl m_arcRoom)), (a_mo_arcCost, .inl (G.2.1, 300, .inl m_arcCost)), (a_mo_far, .inl (G.2.1, 32, .inl m_far)), (a_mo_by, .inl (G.2.1, 32, .inl m_by))]
abbrev rmX7_cheapest : Room := { frames := 0, cells := 0, slots := 0, locals := 0 }
theorem iX7_cheapest_X7 : ∀ w ∈ wsX70, w ∈ wsX7_cheapest := by decide +kernel
theorem eX7_cheapest_109 : Fk wsX7_cheapest RX7 109 7 13 := ⟨RX7, TX7, 28, rfl, iX7_cheapest_X7, by decide, by decide +kernel⟩
theorem eX7_cheapest_37 : Fk wsX7_cheapest RX7 37 7 9 := ⟨RX7, TX7, 28, rfl, iX7_cheapest_X7, by decide, by decide +kernel⟩
theorem eX7_cheapest_40 : Fk wsX7_cheapest RX7 40 7 10 := ⟨RX7, TX7, 28, rfl, iX7_cheapest_X7, by decide, by decide +kernel⟩
theorem eX7_cheapest_43 : Fk wsX7_cheapest RX7 43 7 11 := ⟨RX7, TX7, 28, rfl, iX7_cheapest_X7, by decide, by decide +kernel⟩
theorem eX7_cheapest_46 : Fk wsX7_cheapest RX7 46 7 12 := ⟨RX7, TX7, 28, rfl, iX7_cheapest_X7, by decide, by decide +kernel⟩
theorem eX7_cheapest_49 : Fk wsX7_cheapest RX7 49 7 14 := ⟨RX7, TX7, 28, rfl, iX7_cheapest_X7, by decide, by decide +kernel⟩
theorem eX7_cheapest_52 : Fk wsX7_cheapest RX7 52 7 15 := ⟨RX7, TX7, 28, rfl, iX7_cheapest_X7, by decide, by decide +kernel⟩
theorem cwX7_cheapest_117 : Cond.constant RX7 117 1000000 ∈ wsX7_cheapest := by decide +kernel
variable {p : Program} {l : Launch} {e : Env} {s : State} {m : MethodId} {args : Array Value} {below : List Frame} {meth : Method} {c : Code} {A : Nat → Prop} {G : Gt} {a_mo a_mo_arcFrom a_mo_arcTo a_mo_arcRoom a_mo_arcCost a_mo_far a_mo_by a_mo_numbers a_mo_boxes a_mo_words a_mo_weeks a_mo_routes a_mo_turns a_mo_leave a_mo_leases a_mo_uses a_mo_best a_mo_tape a_mo_kept : Nat} {m_arcs : Int32} {m_tapeMany : Int32} {m_tokenKind : Int32} {m_tokenAt : Int32} {m_tokenEnd : Int32} {m_tokenValue : Int32} {m_fault : Int32} {m_seen : Int32} {m_isKept : Int32} {m_place : Int32} {m_arcFrom : (Nat → Int32)} {m_arcTo : (Nat → Int32)} {m_arcRoom : (Nat → Int32)} {m_arcCost : (Nat → Int32)} {res : Int32 × (Nat → Int32) × (Nat → Int32)}
set_option maxHeartbeats 4000000 in
set_option maxRecDepth 100000 in
theorem tX7_cheapest_144 (X : Bx p s m args meth c cX7_cheapest 4 wsX7_cheapest RX7 (some .int)) (m_far : (Nat → Int32)) (m_by : (Nat → Int32))   (h : fX7_cheapest_144 m_far m_by = some res) : ∀ (H : Heap) (locs : List Loc), Wo G A s (wX7_cheapest G a_mo a_mo_arcFrom a_mo_arcTo a_mo_arcRoom a_mo_arcCost a_mo_far a_mo_by a_mo_numbers a_mo_boxes a_mo_words a_mo_weeks a_mo_routes a_mo_turns a_mo_leave a_mo_leases a_mo_uses a_mo_best a_mo_tape a_mo_kept m_arcs m_tapeMany m_tokenKind m_tokenAt m_tokenEnd m_tokenValue m_fault m_seen m_isKept m_place m_arcFrom m_arcTo m_arcRoom m_arcCost m_far m_by) H locs → ∀ ls : Array Slot, lv_has ls 4 [(0, .ref a_mo)] → W p l e rmX7_cheapest s m args below meth c H locs 0 0 (QI G A below args s res.1 (wX7_cheapest G a_mo a_mo_arcFrom a_mo_arcTo a_mo_arcRoom a_mo_arcCost a_mo_far a_mo_by a_mo_numbers a_mo_boxes a_mo_words a_mo_weeks a_mo_routes a_mo_turns a_mo_leave a_mo_leases a_mo_uses a_mo_best a_mo_tape a_mo_kept m_arcs m_tapeMany m_tokenKind m_tokenAt m_tokenEnd m_tokenValue m_fault m_seen m_isKept m_place m_arcFrom m_arcTo m_arcRoom m_arcCost res.2.1 res.2.2)) (F0 m 144 ls []) := by
  obtain ⟨hx, hb, -⟩ := id X.1
  intro H locs hW ls hl
  rw [fX7_cheapest_144] at h
  refine lv_aload_n hx hb dX7_cheapest_144 rfl (lv_at hl 0 rfl) ?_
  refine g_get X hW eX7_cheapest_49 0 rfl rfl dX7_cheapest_145 ?_
  refine lv_bipush hx hb dX7_cheapest_148 qB_31 ?_
  obtain ⟨g4, h⟩ := gd_some h
  refine g_ald X hW 5 rfl g4 dX7_cheapest_150 ?_
  obtain rfl := Option.some.inj h
  exact g_iret X hW dX7_cheapest_151
set_option maxHeartbeats 4000000 in
set_option maxRecDepth 100000 in
theorem tX7_cheapest_141 (X : Bx p s m args meth c cX7_cheapest 4 wsX7_cheapest RX7 (some .int)) (v1 : Int32) (m_far : (Nat → Int32)) (m_by : (Nat → Int32)) (k_34 : Int32 → (Nat → Int32) → (Nat → Int32) → Option (Int32 × (Nat → Int32) × (Nat → Int32))) (Hk_34 : ∀ (v1 : Int32) (m_far : (Nat → Int32)) (m_by : (Nat → Int32)), k_34 v1 m_far m_by = some res → ∀ (H : Heap) (locs : List Loc), Wo G A s (wX7_cheapest G a_mo a_mo_arcFrom a_mo_arcTo a_mo_arcRoom a_mo_arcCost a_mo_far a_mo_by a_mo_numbers a_mo_boxes a_mo_words a_mo_weeks a_mo_routes a_mo_turns a_mo_leave a_mo_leases a_mo_uses a_mo_best a_mo_tape a_mo_kept m_arcs m_tapeMany m_tokenKind m_tokenAt m_tokenEnd m_tokenValue m_fault m_seen m_isKept m_place m_arcFrom m_arcTo m_arcRoom m_arcCost m_far m_by) H locs → ∀ ls : Array Slot, lv_has ls 4 [(0, .ref a_mo), (1, .int v1)] → W p l e rmX7_cheapest s m args below meth c H locs 0 0 (QI G A below args s res.1 (wX7_cheapest G a_mo a_mo_arcFrom a_mo_arcTo a_mo_arcRoom a_mo_arcCost a_mo_far a_mo_by a_mo_numbers a_mo_boxes a_mo_words a_mo_weeks a_mo_routes a_mo_turns a_mo_leave a_mo_leases a_mo_uses a_mo_best a_mo_tape a_mo_kept m_arcs m_tapeMany m_tokenKind m_tokenAt m_tokenEnd m_tokenValue m_fault m_seen m_isKept m_place m_arcFrom m_arcTo m_arcRoom m_arcCost res.2.1 res.2.2)) (F0 m 34 ls [])) (h : fX7_cheapest_141 k_34 v1 m_far m_by = some res) : ∀ (H : Heap) (locs : List Loc), Wo G A s (wX7_cheapest G a_mo a_mo_arcFrom a_mo_arcTo a_mo_arcRoom a_mo_arcCost a_mo_far a_mo_by a_mo_numbers a_mo_boxes a_mo_words a_mo_weeks a_mo_routes a_mo_turns a_mo_leave a_mo_leases a_mo_uses a_mo_best a_mo_tape a_mo_kept m_arcs m_tapeMany m_tokenKind m_tokenAt m_tokenEnd m_tokenValue m_fault m_seen m_isKept m_place m_arcFrom m_arcTo m_arcRoom m_arcCost m_far m_by) H locs → ∀ ls : Array Slot, lv_has ls 4 [(0, .ref a_mo), (1, .int v1)] → W p l e rmX7_cheapest s m args below meth c H locs 0 0 (QI G A below args s res.1 (wX7_cheapest G a_mo a_mo_arcFrom a_mo_arcTo a_mo_arcRoom a_mo_arcCost a_mo_far a_mo_by a_mo_numbers a_mo_boxes a_mo_words a_mo_weeks a_mo_routes a_mo_turns a_mo_leave a_mo_leases a_mo_uses a_mo_best a_mo_tape a_mo_kept m_arcs m_tapeMany m_tokenKind m_tokenAt m_tokenEnd m_tokenValue m_fault m_seen m_isKept m_place m_arcFrom m_arcTo m_arcRoom m_arcCost res.2.1 res.2.2)) (F0 m 141 ls []) := by
  obtain ⟨hx, hb, -⟩ := id X.1
  intro H locs hW ls hl
  rw [fX7_cheapest_141] at h
  refine lv_goto (tgt := 34) hx hb dX7_cheapest_141 (by decide) ?_
  exact Hk_34 v1 m_far m_by h H locs hW ls hl
set_option maxHeartbeats 4000000 in
set_option maxRecDepth 100000 in
theorem tX7_cheapest_135 (X : Bx p s m args meth c cX7_cheapest 4 wsX7_cheapest RX7 (some .int)) (v1 : Int32) (v2 : Int32) (m_far : (Nat → Int32)) (m_by : (Nat → Int32)) (k_42 : Int32 → Int32 → (Nat → Int32) → (Nat → Int32) → Option (Int32 × (Nat → Int32) × (Nat → Int32))) (Hk_42 : ∀ (v1 : Int32) (v2 : Int32) (m_far : (Nat → Int32)) (m_by : (Nat → Int32)), k_42 v1 v2 m_far m_by = some res → ∀ (H : Heap) (locs : List Loc), Wo G A s (wX7_cheapest G a_mo a_mo_arcFrom a_mo_arcTo a_mo_arcRoom a_mo_arcCost a_mo_far a_mo_by a_mo_numbers a_mo_boxes a_mo_words a_mo_weeks a_mo_routes a_mo_turns a_mo_leave a_mo_leases a_mo_uses a_mo_best a_mo_tape a_mo_kept m_arcs m_tapeMany m_tokenKind m_tokenAt m_tokenEnd m_tokenValue m_fault m_seen m_isKept m_place m_arcFrom m_arcTo m_arcRoom m_arcCost m_far m_by) H locs → ∀ ls : Array Slot, lv_has ls 4 [(0, .ref a_mo), (1, .int v1), (2, .int v2)] → W p l e rmX7_cheapest s m args below meth c H locs 0 0 (QI G A below args s res.1 (wX7_cheapest G a_mo a_mo_arcFrom a_mo_arcTo a_mo_arcRoom a_mo_arcCost a_mo_far a_mo_by a_mo_numbers a_mo_boxes a_mo_words a_mo_weeks a_mo_routes a_mo_turns a_mo_leave a_mo_leases a_mo_uses a_mo_best a_mo_tape a_mo_kept m_arcs m_tapeMany m_tokenKind m_tokenAt m_tokenEnd m_tokenValue m_fault m_seen m_isKept m_place m_arcFrom m_arcTo m_arcRoom m_arcCost res.2.1 res.2.2)) (F0 m 42 ls [])) (h : fX7_cheapest_135 k_42 v1 v2 m_far m_by = some res) : ∀ (H : Heap) (locs : List Loc), Wo G A s (wX7_cheapest G a_mo a_mo_arcFrom a_mo_arcTo a_mo_arcRoom a_mo_arcCost a_mo_far a_mo_by a_mo_numbers a_mo_boxes a_mo_words a_mo_weeks a_mo_routes a_mo_turns a_mo_leave a_mo_leases a_mo_uses a_mo_best a_mo_tape a_mo_kept m_arcs m_tapeMany m_tokenKind m_tokenAt m_tokenEnd m_tokenValue m_fault m_seen m_isKept m_place m_arcFrom m_arcTo m_arcRoom m_arcCost m_far m_by) H locs → ∀ ls : Array Slot, lv_has ls 4 [(0, .ref a_mo), (1, .int v1), (2, .int v2)] → W p l e rmX7_cheapest s m args below meth c H locs 0 0 (QI G A below args s res.1 (wX7_cheapest G a_mo a_mo_arcFrom a_mo_arcTo a_mo_arcRoom a_mo_arcCost a_mo_far a_mo_by a_mo_numbers a_mo_boxes a_mo_words a_mo_weeks a_mo_routes a_mo_turns a_mo_leave a_mo_leases a_mo_uses a_mo_best a_mo_tape a_mo_kept m_arcs m_tapeMany m_tokenKind m_tokenAt m_tokenEnd m_tokenValue m_fault m_seen m_isKept m_place m_arcFrom m_arcTo m_arcRoom m_arcCost res.2.1 res.2.2)) (F0 m 135 ls []) := by
  obtain ⟨hx, hb, -⟩ := id X.1
  intro H locs hW ls hl
  rw [fX7_cheapest_135] at h
  refine lv_iinc (v := (v2 + (1 : Int32))) (lv' := [(2, .int (v2 + (1 : Int32))), (0, .ref a_mo), (1, .int v1)]) hx hb dX7_cheapest_135 hl (k := 2) rfl (congrArg (fun z => v2 + z) qI_1) (by decide) rfl (fun ls hl => ?_)
  refine lv_goto (tgt := 42) hx hb dX7_cheapest_138 (by decide) ?_
  exact Hk_42 v1 (v2 + (1 : Int32)) m_far m_by h H locs hW ls (lv_sub hl [1, 2, 0] rfl)
set_option maxHeartbeats 4000000 in
set_option maxRecDepth 100000 in
theorem tX7_cheapest_42 (X : Bx p s m args meth c cX7_cheapest 4 wsX7_cheapest RX7 (some .int))  (k_141 : Int32 → (Nat → Int32) → (Nat → Int32) → Option (Int32 × (Nat → Int32) × (Nat → Int32))) (Hk_141 : ∀ (v1 : Int32) (m_far : (Nat → Int32)) (m_by : (Nat → Int32)), k_141 v1 m_far m_by = some res → ∀ (H : Heap) (locs : List Loc), Wo G A s (wX7_cheapest G a_mo a_mo_arcFrom a_mo_arcTo a_mo_arcRoom a_mo_arcCost a_mo_far a_mo_by a_mo_numbers a_mo_boxes a_mo_words a_mo_weeks a_mo_routes a_mo_turns a_mo_leave a_mo_leases a_mo_uses a_mo_best a_mo_tape a_mo_kept m_arcs m_tapeMany m_tokenKind m_tokenAt m_tokenEnd m_tokenValue m_fault m_seen m_isKept m_place m_arcFrom m_arcTo m_arcRoom m_arcCost m_far m_by) H locs → ∀ ls : Array Slot, lv_has ls 4 [(0, .ref a_mo), (1, .int v1)] → W p l e rmX7_cheapest s m args below meth c H locs 0 0 (QI G A below args s res.1 (wX7_cheapest G a_mo a_mo_arcFrom a_mo_arcTo a_mo_arcRoom a_mo_arcCost a_mo_far a_mo_by a_mo_numbers a_mo_boxes a_mo_words a_mo_weeks a_mo_routes a_mo_turns a_mo_leave a_mo_leases a_mo_uses a_mo_best a_mo_tape a_mo_kept m_arcs m_tapeMany m_tokenKind m_tokenAt m_tokenEnd m_tokenValue m_fault m_seen m_isKept m_place m_arcFrom m_arcTo m_arcRoom m_arcCost res.2.1 res.2.2)) (F0 m 141 ls [])) : ∀ (n : Nat) (v1 : Int32) (v2 : Int32) (m_far : (Nat → Int32)) (m_by : (Nat → Int32)), fX7_cheapest_42 m_arcs m_arcFrom m_arcTo m_arcRoom m_arcCost k_141 n v1 v2 m_far m_by = some res → ∀ (H : Heap) (locs : List Loc), Wo G A s (wX7_cheapest G a_mo a_mo_arcFrom a_mo_arcTo a_mo_arcRoom a_mo_arcCost a_mo_far a_mo_by a_mo_numbers a_mo_boxes a_mo_words a_mo_weeks a_mo_routes a_mo_turns a_mo_leave a_mo_leases a_mo_uses a_mo_best a_mo_tape a_mo_kept m_arcs m_tapeMany m_tokenKind m_tokenAt m_tokenEnd m_tokenValue m_fault m_seen m_isKept m_place m_arcFrom m_arcTo m_arcRoom m_arcCost m_far m_by) H locs → ∀ ls : Array Slot, lv_has ls 4 [(0, .ref a_mo), (1, .int v1), (2, .int v2)] → W p l e rmX7_cheapest s m args below meth c H locs 0 0 (QI G A below args s res.1 (wX7_cheapest G a_mo a_mo_arcFrom a_mo_arcTo a_mo_arcRoom a_mo_arcCost a_mo_far a_mo_by a_mo_numbers a_mo_boxes a_mo_words a_mo_weeks a_mo_routes a_mo_turns a_mo_leave a_mo_leases a_mo_uses a_mo_best a_mo_tape a_mo_kept m_arcs m_tapeMany m_tokenKind m_tokenAt m_tokenEnd m_tokenValue m_fault m_seen m_isKept m_place m_arcFrom m_arcTo m_arcRoom m_arcCost res.2.1 res.2.2)) (F0 m 42 ls []) := by
  obtain ⟨hx, hb, -⟩ := id X.1
  intro n
  induction n with
  | zero => intro v1 v2 m_far m_by h; rw [fX7_cheapest_42] at h; cases h
  | succ n ih =>
    intro v1 v2 m_far m_by h H locs hW ls hl
    rw [fX7_cheapest_42] at h
    refine lv_iload_n hx hb dX7_cheapest_42 rfl (lv_at hl 2 rfl) ?_
    refine lv_aload_n hx hb dX7_cheapest_43 rfl (lv_at hl 0 rfl) ?_
    refine g_get X hW eX7_cheapest_109 0 rfl rfl dX7_cheapest_44 ?_
    refine lv_icmp_ge (tgt := 141) hx hb dX7_cheapest_47 (by decide) (fun c12 => ?_) (fun c12 => ?_)
    · have h := (if_pos c12).symm.trans h
      exact Hk_141 v1 m_far m_by h H locs hW ls (lv_sub hl [0, 1] rfl)
    · have h := (if_neg c12).symm.trans h
      refine lv_aload_n hx hb dX7_cheapest_50 rfl (lv_at hl 0 rfl) ?_
      refine g_get X hW eX7_cheapest_49 0 rfl rfl dX7_cheapest_51 ?_
      refine lv_aload_n hx hb dX7_cheapest_54 rfl (lv_at hl 0 rfl) ?_
      refine g_get X hW eX7_cheapest_37 0 rfl rfl dX7_cheapest_55 ?_
      refine lv_iload_n hx hb dX7_cheapest_58 rfl (lv_at hl 2 rfl) ?_
      obtain ⟨g18, h⟩ := gd_some h
      refine g_ald X hW 1 rfl g18 dX7_cheapest_59 ?_
      obtain ⟨g19, h⟩ := gd_some h
      refine g_ald X hW 5 rfl g19 dX7_cheapest_60 ?_
      refine lv_aload_n hx hb dX7_cheapest_61 rfl (lv_at hl 0 rfl) ?_
      refine g_get X hW eX7_cheapest_46 0 rfl rfl dX7_cheapest_62 ?_
      refine lv_iload_n hx hb dX7_cheapest_65 rfl (lv_at hl 2 rfl) ?_
      obtain ⟨g23, h⟩ := gd_some h
      refine g_ald X hW 4 rfl g23 dX7_cheapest_66 ?_
      refine lv_iadd hx hb dX7_cheapest_67 ?_
      refine lv_istore_n (lv' := [(3, .int ((m_far (m_arcFrom v2.toNatClampNeg).toNatClampNeg) + (m_arcCost v2.toNatClampNeg))), (0, .ref a_mo), (1, .int v1), (2, .int v2)]) hx hb dX7_cheapest_68 rfl hl (by decide) rfl (fun ls hl => ?_)
      refine lv_aload_n hx hb dX7_cheapest_69 rfl (lv_at hl 1 rfl) ?_
      refine g_get X hW eX7_cheapest_43 0 rfl rfl dX7_cheapest_70 ?_
      refine lv_iload_n hx hb dX7_cheapest_73 rfl (lv_at hl 3 rfl) ?_
      obtain ⟨g29, h⟩ := gd_some h
      refine g_ald X hW 3 rfl g29 dX7_cheapest_74 ?_
      refine lv_if_le (tgt := 135) hx hb dX7_cheapest_75 (by decide) (fun c30 => ?_) (fun c30 => ?_)
      · have h := (if_pos c30).symm.trans h
        exact tX7_cheapest_135 X v1 v2 m_far m_by (fun v1 v2 m_far m_by => fX7_cheapest_42 m_arcs m_arcFrom m_arcTo m_arcRoom m_arcCost k_141 n v1 v2 m_far m_by) ih h H locs hW ls (lv_sub hl [1, 2, 3] rfl)
      · have h := (if_neg c30).symm.trans h
        refine lv_aload_n hx hb dX7_cheapest_78 rfl (lv_at hl 1 rfl) ?_
        refine g_get X hW eX7_cheapest_49 0 rfl rfl dX7_cheapest_79 ?_
        refine lv_aload_n hx hb dX7_cheapest_82 rfl (lv_at hl 1 rfl) ?_
        refine g_get X hW eX7_cheapest_37 0 rfl rfl dX7_cheapest_83 ?_
        refine lv_iload_n hx hb dX7_cheapest_86 rfl (lv_at hl 3 rfl) ?_
        obtain ⟨g36, h⟩ := gd_some h
        refine g_ald X hW 1 rfl g36 dX7_cheapest_87 ?_
        obtain ⟨g37, h⟩ := gd_some h
        refine g_ald X hW 5 rfl g37 dX7_cheapest_88 ?_
        refine lv_ldc hx hb X.1.2.2.2.1 (X.1.2.2.2.2 _ cwX7_cheapest_117) dX7_cheapest_89 ?_
        refine lv_icmp_ge (tgt := 135) hx hb dX7_cheapest_91 (by decide) (fun c39 => ?_) (fun c39 => ?_)
        · have h := (if_pos c39).symm.trans h
          exact tX7_cheapest_135 X v1 v2 m_far m_by (fun v1 v2 m_far m_by => fX7_cheapest_42 m_arcs m_arcFrom m_arcTo m_arcRoom m_arcCost k_141 n v1 v2 m_far m_by) ih h H locs hW ls (lv_sub hl [1, 2, 3] rfl)
        · have h := (if_neg c39).symm.trans h
          refine lv_iload_n hx hb dX7_cheapest_94 rfl (lv_at hl 0 rfl) ?_
          refine lv_aload_n hx hb dX7_cheapest_95 rfl (lv_at hl 1 rfl) ?_
          refine g_get X hW eX7_cheapest_49 0 rfl rfl dX7_cheapest_96 ?_
          refine lv_aload_n hx hb dX7_cheapest_99 rfl (lv_at hl 1 rfl) ?_
          refine g_get X hW eX7_cheapest_40 0 rfl rfl dX7_cheapest_100 ?_
          refine lv_iload_n hx hb dX7_cheapest_103 rfl (lv_at hl 3 rfl) ?_
          obtain ⟨g46, h⟩ := gd_some h
          refine g_ald X hW 2 rfl g46 dX7_cheapest_104 ?_
          obtain ⟨g47, h⟩ := gd_some h
          refine g_ald X hW 5 rfl g47 dX7_cheapest_105 ?_
          refine lv_icmp_ge (tgt := 135) hx hb dX7_cheapest_106 (by decide) (fun c48 => ?_) (fun c48 => ?_)
          · have h := (if_pos c48).symm.trans h
            exact tX7_cheapest_135 X v1 v2 m_far m_by (fun v1 v2 m_far m_by => fX7_cheapest_42 m_arcs m_arcFrom m_arcTo m_arcRoom m_arcCost k_141 n v1 v2 m_far m_by) ih h H locs hW ls (lv_sub hl [1, 2, 3] rfl)
          · have h := (if_neg c48).symm.trans h
            refine lv_aload_n hx hb dX7_cheapest_109 rfl (lv_at hl 1 rfl) ?_
            refine g_get X hW eX7_cheapest_49 0 rfl rfl dX7_cheapest_110 ?_
            refine lv_aload_n hx hb dX7_cheapest_113 rfl (lv_at hl 1 rfl) ?_
            refine g_get X hW eX7_cheapest_40 0 rfl rfl dX7_cheapest_114 ?_
            refine lv_iload_n hx hb dX7_cheapest_117 rfl (lv_at hl 3 rfl) ?_
            obtain ⟨g54, h⟩ := gd_some h
            refine g_ald X hW 2 rfl g54 dX7_cheapest_118 ?_
            refine lv_iload_n hx hb dX7_cheapest_119 rfl (lv_at hl 0 rfl) ?_
            obtain ⟨g56, h⟩ := gd_some h
            refine g_ast X hW (ws' := (wX7_cheapest G a_mo a_mo_arcFrom a_mo_arcTo a_mo_arcRoom a_mo_arcCost a_mo_far a_mo_by a_mo_numbers a_mo_boxes a_mo_words a_mo_weeks a_mo_routes a_mo_turns a_mo_leave a_mo_leases a_mo_uses a_mo_best a_mo_tape a_mo_kept m_arcs m_tapeMany m_tokenKind m_tokenAt m_tokenEnd m_tokenValue m_fault m_seen m_isKept m_place m_arcFrom m_arcTo m_arcRoom m_arcCost (upd m_far (m_arcTo v2.toNatClampNeg).toNatClampNeg ((m_far (m_arcFrom v2.toNatClampNeg).toNatClampNeg) + (m_arcCost v2.toNatClampNeg))) m_by)) 5 rfl g56 rfl dX7_cheapest_120 (fun H locs hW => ?_)
            refine lv_aload_n hx hb dX7_cheapest_121 rfl (lv_at hl 1 rfl) ?_
            refine g_get X hW eX7_cheapest_52 0 rfl rfl dX7_cheapest_122 ?_
            refine lv_aload_n hx hb dX7_cheapest_125 rfl (lv_at hl 1 rfl) ?_
            refine g_get X hW eX7_cheapest_40 0 rfl rfl dX7_cheapest_126 ?_
            refine lv_iload_n hx hb dX7_cheapest_129 rfl (lv_at hl 3 rfl) ?_
            obtain ⟨g62, h⟩ := gd_some h
            refine g_ald X hW 2 rfl g62 dX7_cheapest_130 ?_
            refine lv_iload_n hx hb dX7_cheapest_131 rfl (lv_at hl 3 rfl) ?_
            obtain ⟨g64, h⟩ := gd_some h
            refine g_ast X hW (ws' := (wX7_cheapest G a_mo a_mo_arcFrom a_mo_arcTo a_mo_arcRoom a_mo_arcCost a_mo_far a_mo_by a_mo_numbers a_mo_boxes a_mo_words a_mo_weeks a_mo_routes a_mo_turns a_mo_leave a_mo_leases a_mo_uses a_mo_best a_mo_tape a_mo_kept m_arcs m_tapeMany m_tokenKind m_tokenAt m_tokenEnd m_tokenValue m_fault m_seen m_isKept m_place m_arcFrom m_arcTo m_arcRoom m_arcCost (upd m_far (m_arcTo v2.toNatClampNeg).toNatClampNeg ((m_far (m_arcFrom v2.toNatClampNeg).toNatClampNeg) + (m_arcCost v2.toNatClampNeg))) (upd m_by (m_arcTo v2.toNatClampNeg).toNatClampNeg v2))) 6 rfl g64 rfl dX7_cheapest_132 (fun H locs hW => ?_)
            refine lv_iconst hx hb dX7_cheapest_133 qI_1 ?_
            refine lv_istore_n (lv' := [(1, .int (1 : Int32)), (3, .int ((m_far (m_arcFrom v2.toNatClampNeg).toNatClampNeg) + (m_arcCost v2.toNatClampNeg))), (0, .ref a_mo), (2, .int v2)]) hx hb dX7_cheapest_134 rfl hl (by decide) rfl (fun ls hl => ?_)
            exact tX7_cheapest_135 X (1 : Int32) v2 (upd m_far (m_arcTo v2.toNatClampNeg).toNatClampNeg ((m_far (m_arcFrom v2.toNatClampNeg).toNatClampNeg) + (m_arcCost v2.toNatClampNeg))) (upd m_by (m_arcTo v2.toNatClampNeg).toNatClampNeg v2) (fun v1 v2 m_far m_by => fX7_cheapest_42 m_arcs m_arcFrom m_arcTo m_arcRoom m_arcCost k_141 n v1 v2 m_far m_by) ih h H locs hW ls (lv_sub hl [2, 0, 3] rfl)
set_option maxHeartbeats 4000000 in
set_option maxRecDepth 100000 in
theorem tX7_cheapest_34 (X : Bx p s m args meth c cX7_cheapest 4 wsX7_cheapest RX7 (some .int))  (k_144 : (Nat → Int32) → (Nat → Int32) → Option (Int32 × (Nat → Int32) × (Nat → Int32))) (Hk_144 : ∀ (m_far : (Nat → Int32)) (m_by : (Nat → Int32)), k_144 m_far m_by = some res → ∀ (H : Heap) (locs : List Loc), Wo G A s (wX7_cheapest G a_mo a_mo_arcFrom a_mo_arcTo a_mo_arcRoom a_mo_arcCost a_mo_far a_mo_by a_mo_numbers a_mo_boxes a_mo_words a_mo_weeks a_mo_routes a_mo_turns a_mo_leave a_mo_leases a_mo_uses a_mo_best a_mo_tape a_mo_kept m_arcs m_tapeMany m_tokenKind m_tokenAt m_tokenEnd m_tokenValue m_fault m_seen m_isKept m_place m_arcFrom m_arcTo m_arcRoom m_arcCost m_far m_by) H locs → ∀ ls : Array Slot, lv_has ls 4 [(0, .ref a_mo)] → W p l e rmX7_cheapest s m args below meth c H locs 0 0 (QI G A below args s res.1 (wX7_cheapest G a_mo a_mo_arcFrom a_mo_arcTo a_mo_arcRoom a_mo_arcCost a_mo_far a_mo_by a_mo_numbers a_mo_boxes a_mo_words a_mo_weeks a_mo_routes a_mo_turns a_mo_leave a_mo_leases a_mo_uses a_mo_best a_mo_tape a_mo_kept m_arcs m_tapeMany m_tokenKind m_tokenAt m_tokenEnd m_tokenValue m_fault m_seen m_isKept m_place m_arcFrom m_arcTo m_arcRoom m_arcCost res.2.1 res.2.2)) (F0 m 144 ls [])) : ∀ (n : Nat) (v1 : Int32) (m_far : (Nat → Int32)) (m_by : (Nat → Int32)), fX7_cheapest_34 m_arcs m_arcFrom m_arcTo m_arcRoom m_arcCost k_144 n v1 m_far m_by = some res → ∀ (H : Heap) (locs : List Loc), Wo G A s (wX7_cheapest G a_mo a_mo_arcFrom a_mo_arcTo a_mo_arcRoom a_mo_arcCost a_mo_far a_mo_by a_mo_numbers a_mo_boxes a_mo_words a_mo_weeks a_mo_routes a_mo_turns a_mo_leave a_mo_leases a_mo_uses a_mo_best a_mo_tape a_mo_kept m_arcs m_tapeMany m_tokenKind m_tokenAt m_tokenEnd m_tokenValue m_fault m_seen m_isKept m_place m_arcFrom m_arcTo m_arcRoom m_arcCost m_far m_by) H locs → ∀ ls : Array Slot, lv_has ls 4 [(0, .ref a_mo), (1, .int v1)] → W p l e rmX7_cheapest s m args below meth c H locs 0 0 (QI G A below args s res.1 (wX7_cheapest G a_mo a_mo_arcFrom a_mo_arcTo a_mo_arcRoom a_mo_arcCost a_mo_far a_mo_by a_mo_numbers a_mo_boxes a_mo_words a_mo_weeks a_mo_routes a_mo_turns a_mo_leave a_mo_leases a_mo_uses a_mo_best a_mo_tape a_mo_kept m_arcs m_tapeMany m_tokenKind m_tokenAt m_tokenEnd m_tokenValue m_fault m_seen m_isKept m_place m_arcFrom m_arcTo m_arcRoom m_arcCost res.2.1 res.2.2)) (F0 m 34 ls []) := by
  obtain ⟨hx, hb, -⟩ := id X.1
  intro n
  induction n with
  | zero => intro v1 m_far m_by h; rw [fX7_cheapest_34] at h; cases h
  | succ n ih =>
    intro v1 m_far m_by h H locs hW ls hl
    rw [fX7_cheapest_34] at h
    refine lv_iload_n hx hb dX7_cheapest_34 rfl (lv_at hl 1 rfl) ?_
    refine lv_if_eq (tgt := 144) hx hb dX7_cheapest_35 (by decide) (fun c68 => ?_) (fun c68 => ?_)
    · have h := (if_pos c68).symm.trans h
      exact Hk_144 m_far m_by h H locs hW ls (lv_sub hl [0] rfl)
    · have h := (if_neg c68).symm.trans h
      refine lv_iconst hx hb dX7_cheapest_38 qI_0 ?_
      refine lv_istore_n (lv' := [(1, .int (0 : Int32)), (0, .ref a_mo)]) hx hb dX7_cheapest_39 rfl hl (by decide) rfl (fun ls hl => ?_)
      refine lv_iconst hx hb dX7_cheapest_40 qI_0 ?_
      refine lv_istore_n (lv' := [(2, .int (0 : Int32)), (1, .int (0 : Int32)), (0, .ref a_mo)]) hx hb dX7_cheapest_41 rfl hl (by decide) rfl (fun ls hl => ?_)
      exact tX7_cheapest_42 X (fun v1_q73 m_far_q73 m_by_q73 => fX7_cheapest_141 (fun v1 m_far m_by => fX7_cheapest_34 m_arcs m_arcFrom m_arcTo m_arcRoom m_arcCost k_144 n v1 m_far m_by) v1_q73 m_far_q73 m_by_q73) (fun v1_q73 m_far_q73 m_by_q73 h H locs hW ls hl => by exact tX7_cheapest_141 X v1_q73 m_far_q73 m_by_q73 (fun v1 m_far m_by => fX7_cheapest_34 m_arcs m_arcFrom m_arcTo m_arcRoom m_arcCost k_144 n v1 m_far m_by) ih h H locs hW ls hl) FU (0 : Int32) (0 : Int32) m_far m_by h H locs hW ls (lv_sub hl [2, 1, 0] rfl)
set_option maxHeartbeats 4000000 in
set_option maxRecDepth 100000 in
theorem tX7_cheapest_32 (X : Bx p s m args meth c cX7_cheapest 4 wsX7_cheapest RX7 (some .int)) (m_far : (Nat → Int32)) (m_by : (Nat → Int32))   (h : fX7_cheapest_32 m_arcs m_arcFrom m_arcTo m_arcRoom m_arcCost m_far m_by = some res) : ∀ (H : Heap) (locs : List Loc), Wo G A s (wX7_cheapest G a_mo a_mo_arcFrom a_mo_arcTo a_mo_arcRoom a_mo_arcCost a_mo_far a_mo_by a_mo_numbers a_mo_boxes a_mo_words a_mo_weeks a_mo_routes a_mo_turns a_mo_leave a_mo_leases a_mo_uses a_mo_best a_mo_tape a_mo_kept m_arcs m_tapeMany m_tokenKind m_tokenAt m_tokenEnd m_tokenValue m_fault m_seen m_isKept m_place m_arcFrom m_arcTo m_arcRoom m_arcCost m_far m_by) H locs → ∀ ls : Array Slot, lv_has ls 4 [(0, .ref a_mo)] → W p l e rmX7_cheapest s m args below meth c H locs 0 0 (QI G A below args s res.1 (wX7_cheapest G a_mo a_mo_arcFrom a_mo_arcTo a_mo_arcRoom a_mo_arcCost a_mo_far a_mo_by a_mo_numbers a_mo_boxes a_mo_words a_mo_weeks a_mo_routes a_mo_turns a_mo_leave a_mo_leases a_mo_uses a_mo_best a_mo_tape a_mo_kept m_arcs m_tapeMany m_tokenKind m_tokenAt m_tokenEnd m_tokenValue m_fault m_seen m_isKept m_place m_arcFrom m_arcTo m_arcRoom m_arcCost res.2.1 res.2.2)) (F0 m 32 ls []) := by
  obtain ⟨hx, hb, -⟩ := id X.1
  intro H locs hW ls hl
  rw [fX7_cheapest_32] at h
  refine lv_iconst hx hb dX7_cheapest_32 qI_1 ?_
  refine lv_istore_n (lv' := [(1, .int (1 : Int32)), (0, .ref a_mo)]) hx hb dX7_cheapest_33 rfl hl (by decide) rfl (fun ls hl => ?_)
  exact tX7_cheapest_34 X (fun m_far_q76 m_by_q76 => fX7_cheapest_144 m_far_q76 m_by_q76) (fun m_far_q76 m_by_q76 h H locs hW ls hl => by exact tX7_cheapest_144 X m_far_q76 m_by_q76 h H locs hW ls hl) FU (1 : Int32) m_far m_by h H locs hW ls (lv_sub hl [1, 0] rfl)
set_option maxHeartbeats 4000000 in
set_option maxRecDepth 100000 in
theorem tX7_cheapest_25 (X : Bx p s m args meth c cX7_cheapest 4 wsX7_cheapest RX7 (some .int)) (v1 : Int32) (t1 : Int32) (t2 : Int32) (m_far : (Nat → Int32)) (m_by : (Nat → Int32)) (k_2 : Int32 → (Nat → Int32) → Option (Int32 × (Nat → Int32) × (Nat → Int32))) (Hk_2 : ∀ (v1 : Int32) (m_far : (Nat → Int32)), k_2 v1 m_far = some res → ∀ (H : Heap) (locs : List Loc), Wo G A s (wX7_cheapest G a_mo a_mo_arcFrom a_mo_arcTo a_mo_arcRoom a_mo_arcCost a_mo_far a_mo_by a_mo_numbers a_mo_boxes a_mo_words a_mo_weeks a_mo_routes a_mo_turns a_mo_leave a_mo_leases a_mo_uses a_mo_best a_mo_tape a_mo_kept m_arcs m_tapeMany m_tokenKind m_tokenAt m_tokenEnd m_tokenValue m_fault m_seen m_isKept m_place m_arcFrom m_arcTo m_arcRoom m_arcCost m_far m_by) H locs → ∀ ls : Array Slot, lv_has ls 4 [(0, .ref a_mo), (1, .int v1)] → W p l e rmX7_cheapest s m args below meth c H locs 0 0 (QI G A below args s res.1 (wX7_cheapest G a_mo a_mo_arcFrom a_mo_arcTo a_mo_arcRoom a_mo_arcCost a_mo_far a_mo_by a_mo_numbers a_mo_boxes a_mo_words a_mo_weeks a_mo_routes a_mo_turns a_mo_leave a_mo_leases a_mo_uses a_mo_best a_mo_tape a_mo_kept m_arcs m_tapeMany m_tokenKind m_tokenAt m_tokenEnd m_tokenValue m_fault m_seen m_isKept m_place m_arcFrom m_arcTo m_arcRoom m_arcCost res.2.1 res.2.2)) (F0 m 2 ls [])) (h : fX7_cheapest_25 k_2 v1 t1 t2 m_far = some res) : ∀ (H : Heap) (locs : List Loc), Wo G A s (wX7_cheapest G a_mo a_mo_arcFrom a_mo_arcTo a_mo_arcRoom a_mo_arcCost a_mo_far a_mo_by a_mo_numbers a_mo_boxes a_mo_words a_mo_weeks a_mo_routes a_mo_turns a_mo_leave a_mo_leases a_mo_uses a_mo_best a_mo_tape a_mo_kept m_arcs m_tapeMany m_tokenKind m_tokenAt m_tokenEnd m_tokenValue m_fault m_seen m_isKept m_place m_arcFrom m_arcTo m_arcRoom m_arcCost m_far m_by) H locs → ∀ ls : Array Slot, lv_has ls 4 [(0, .ref a_mo), (1, .int v1)] → W p l e rmX7_cheapest s m args below meth c H locs 0 0 (QI G A below args s res.1 (wX7_cheapest G a_mo a_mo_arcFrom a_mo_arcTo a_mo_arcRoom a_mo_arcCost a_mo_far a_mo_by a_mo_numbers a_mo_boxes a_mo_words a_mo_weeks a_mo_routes a_mo_turns a_mo_leave a_mo_leases a_mo_uses a_mo_best a_mo_tape a_mo_kept m_arcs m_tapeMany m_tokenKind m_tokenAt m_tokenEnd m_tokenValue m_fault m_seen m_isKept m_place m_arcFrom m_arcTo m_arcRoom m_arcCost res.2.1 res.2.2)) (F0 m 25 ls [.int t2, .int t1, .ref a_mo_far]) := by
  obtain ⟨hx, hb, -⟩ := id X.1
  intro H locs hW ls hl
  rw [fX7_cheapest_25] at h
  obtain ⟨g77, h⟩ := gd_some h
  refine g_ast X hW (ws' := (wX7_cheapest G a_mo a_mo_arcFrom a_mo_arcTo a_mo_arcRoom a_mo_arcCost a_mo_far a_mo_by a_mo_numbers a_mo_boxes a_mo_words a_mo_weeks a_mo_routes a_mo_turns a_mo_leave a_mo_leases a_mo_uses a_mo_best a_mo_tape a_mo_kept m_arcs m_tapeMany m_tokenKind m_tokenAt m_tokenEnd m_tokenValue m_fault m_seen m_isKept m_place m_arcFrom m_arcTo m_arcRoom m_arcCost (upd m_far t1.toNatClampNeg t2) m_by)) 5 rfl g77 rfl dX7_cheapest_25 (fun H locs hW => ?_)
  refine lv_iinc (v := (v1 + (1 : Int32))) (lv' := [(1, .int (v1 + (1 : Int32))), (0, .ref a_mo)]) hx hb dX7_cheapest_26 hl (k := 1) rfl (congrArg (fun z => v1 + z) qI_1) (by decide) rfl (fun ls hl => ?_)
  refine lv_goto (tgt := 2) hx hb dX7_cheapest_29 (by decide) ?_
  exact Hk_2 (v1 + (1 : Int32)) (upd m_far t1.toNatClampNeg t2) h H locs hW ls (lv_sub hl [1, 0] rfl)
set_option maxHeartbeats 4000000 in
set_option maxRecDepth 100000 in
theorem tX7_cheapest_2 (X : Bx p s m args meth c cX7_cheapest 4 wsX7_cheapest RX7 (some .int)) (m_by : (Nat → Int32)) (k_32 : (Nat → Int32) → Option (Int32 × (Nat → Int32) × (Nat → Int32))) (Hk_32 : ∀ (m_far : (Nat → Int32)), k_32 m_far = some res → ∀ (H : Heap) (locs : List Loc), Wo G A s (wX7_cheapest G a_mo a_mo_arcFrom a_mo_arcTo a_mo_arcRoom a_mo_arcCost a_mo_far a_mo_by a_mo_numbers a_mo_boxes a_mo_words a_mo_weeks a_mo_routes a_mo_turns a_mo_leave a_mo_leases a_mo_uses a_mo_best a_mo_tape a_mo_kept m_arcs m_tapeMany m_tokenKind m_tokenAt m_tokenEnd m_tokenValue m_fault m_seen m_isKept m_place m_arcFrom m_arcTo m_arcRoom m_arcCost m_far m_by) H locs → ∀ ls : Array Slot, lv_has ls 4 [(0, .ref a_mo)] → W p l e rmX7_cheapest s m args below meth c H locs 0 0 (QI G A below args s res.1 (wX7_cheapest G a_mo a_mo_arcFrom a_mo_arcTo a_mo_arcRoom a_mo_arcCost a_mo_far a_mo_by a_mo_numbers a_mo_boxes a_mo_words a_mo_weeks a_mo_routes a_mo_turns a_mo_leave a_mo_leases a_mo_uses a_mo_best a_mo_tape a_mo_kept m_arcs m_tapeMany m_tokenKind m_tokenAt m_tokenEnd m_tokenValue m_fault m_seen m_isKept m_place m_arcFrom m_arcTo m_arcRoom m_arcCost res.2.1 res.2.2)) (F0 m 32 ls [])) : ∀ (n : Nat) (v1 : Int32) (m_far : (Nat → Int32)), fX7_cheapest_2 k_32 n v1 m_far = some res → ∀ (H : Heap) (locs : List Loc), Wo G A s (wX7_cheapest G a_mo a_mo_arcFrom a_mo_arcTo a_mo_arcRoom a_mo_arcCost a_mo_far a_mo_by a_mo_numbers a_mo_boxes a_mo_words a_mo_weeks a_mo_routes a_mo_turns a_mo_leave a_mo_leases a_mo_uses a_mo_best a_mo_tape a_mo_kept m_arcs m_tapeMany m_tokenKind m_tokenAt m_tokenEnd m_tokenValue m_fault m_seen m_isKept m_place m_arcFrom m_arcTo m_arcRoom m_arcCost m_far m_by) H locs → ∀ ls : Array Slot, lv_has ls 4 [(0, .ref a_mo), (1, .int v1)] → W p l e rmX7_cheapest s m args below meth c H locs 0 0 (QI G A below args s res.1 (wX7_cheapest G a_mo a_mo_arcFrom a_mo_arcTo a_mo_arcRoom a_mo_arcCost a_mo_far a_mo_by a_mo_numbers a_mo_boxes a_mo_words a_mo_weeks a_mo_routes a_mo_turns a_mo_leave a_mo_leases a_mo_uses a_mo_best a_mo_tape a_mo_kept m_arcs m_tapeMany m_tokenKind m_tokenAt m_tokenEnd m_tokenValue m_fault m_seen m_isKept m_place m_arcFrom m_arcTo m_arcRoom m_arcCost res.2.1 res.2.2)) (F0 m 2 ls []) := by
  obtain ⟨hx, hb, -⟩ := id X.1
  intro n
  induction n with
  | zero => intro v1 m_far h; rw [fX7_cheapest_2] at h; cases h
  | succ n ih =>
    intro v1 m_far h H locs hW ls hl
    rw [fX7_cheapest_2] at h
    refine lv_iload_n hx hb dX7_cheapest_2 rfl (lv_at hl 1 rfl) ?_
    refine lv_bipush hx hb dX7_cheapest_3 qB_32 ?_
    refine lv_icmp_ge (tgt := 32) hx hb dX7_cheapest_5 (by decide) (fun c82 => ?_) (fun c82 => ?_)
    · have h := (if_pos c82).symm.trans h
      exact Hk_32 m_far h H locs hW ls (lv_sub hl [0] rfl)
    · have h := (if_neg c82).symm.trans h
      refine lv_aload_n hx hb dX7_cheapest_8 rfl (lv_at hl 0 rfl) ?_
      refine g_get X hW eX7_cheapest_49 0 rfl rfl dX7_cheapest_9 ?_
      refine lv_iload_n hx hb dX7_cheapest_12 rfl (lv_at hl 1 rfl) ?_
      refine lv_iload_n hx hb dX7_cheapest_13 rfl (lv_at hl 1 rfl) ?_
      refine lv_bipush hx hb dX7_cheapest_14 qB_30 ?_
      refine lv_icmp_ne (tgt := 23) hx hb dX7_cheapest_16 (by decide) (fun c88 => ?_) (fun c88 => ?_)
      · have h := (if_neg c88).symm.trans h
        refine lv_ldc hx hb X.1.2.2.2.1 (X.1.2.2.2.2 _ cwX7_cheapest_117) dX7_cheapest_23 ?_
        exact tX7_cheapest_25 X v1 v1 (1000000 : Int32) m_far m_by (fun v1 m_far => fX7_cheapest_2 k_32 n v1 m_far) ih h H locs hW ls hl
      · have h := (if_pos c88).symm.trans h
        refine lv_iconst hx hb dX7_cheapest_19 qI_0 ?_
        refine lv_goto (tgt := 25) hx hb dX7_cheapest_20 (by decide) ?_
        exact tX7_cheapest_25 X v1 v1 (0 : Int32) m_far m_by (fun v1 m_far => fX7_cheapest_2 k_32 n v1 m_far) ih h H locs hW ls hl
set_option maxHeartbeats 4000000 in
set_option maxRecDepth 100000 in
theorem k0X7_cheapest {l : Launch} (G : Gt) (a_mo a_mo_arcFrom a_mo_arcTo a_mo_arcRoom a_mo_arcCost a_mo_far a_mo_by a_mo_numbers a_mo_boxes a_mo_words a_mo_weeks a_mo_routes a_mo_turns a_mo_leave a_mo_leases a_mo_uses a_mo_best a_mo_tape a_mo_kept : Nat)  (m_arcs : Int32) (m_tapeMany : Int32) (m_tokenKind : Int32) (m_tokenAt : Int32) (m_tokenEnd : Int32) (m_tokenValue : Int32) (m_fault : Int32) (m_seen : Int32) (m_isKept : Int32) (m_place : Int32) (m_arcFrom : (Nat → Int32)) (m_arcTo : (Nat → Int32)) (m_arcRoom : (Nat → Int32)) (m_arcCost : (Nat → Int32)) (m_far : (Nat → Int32)) (m_by : (Nat → Int32)) {res : Int32 × (Nat → Int32) × (Nat → Int32)} (h : fX7_cheapest m_arcs m_arcFrom m_arcTo m_arcRoom m_arcCost m_far m_by = some res) : CtI G l yX7_cheapest wsX7_cheapest rmX7_cheapest [.ref a_mo] (wX7_cheapest G a_mo a_mo_arcFrom a_mo_arcTo a_mo_arcRoom a_mo_arcCost a_mo_far a_mo_by a_mo_numbers a_mo_boxes a_mo_words a_mo_weeks a_mo_routes a_mo_turns a_mo_leave a_mo_leases a_mo_uses a_mo_best a_mo_tape a_mo_kept m_arcs m_tapeMany m_tokenKind m_tokenAt m_tokenEnd m_tokenValue m_fault m_seen m_isKept m_place m_arcFrom m_arcTo m_arcRoom m_arcCost m_far m_by) res.1 (wX7_cheapest G a_mo a_mo_arcFrom a_mo_arcTo a_mo_arcRoom a_mo_arcCost a_mo_far a_mo_by a_mo_numbers a_mo_boxes a_mo_words a_mo_weeks a_mo_routes a_mo_turns a_mo_leave a_mo_leases a_mo_uses a_mo_best a_mo_tape a_mo_kept m_arcs m_tapeMany m_tokenKind m_tokenAt m_tokenEnd m_tokenValue m_fault m_seen m_isKept m_place m_arcFrom m_arcTo m_arcRoom m_arcCost res.2.1 res.2.2) := by
  refine CtI.mk (cc := cX7_cheapest) (maxL := 4) (ret := (some .int)) (own := RX7) (by decide) rfl rfl (Nat.le_of_ble_eq_true rfl) ?_
  intro p e s m below meth c A X ls hl hW
  obtain ⟨hx, hb, -⟩ := id X.1
  have hl : lv_has ls 4 [(0, .ref a_mo)] := hl
  generalize hH : s.heap = H at hW ⊢
  generalize hLo : ([] : List Loc) = locs at hW ⊢
  rw [fX7_cheapest] at h
  refine lv_iconst hx hb dX7_cheapest_0 qI_0 ?_
  refine lv_istore_n (lv' := [(1, .int (0 : Int32)), (0, .ref a_mo)]) hx hb dX7_cheapest_1 rfl hl (by decide) rfl (fun ls hl => ?_)
  exact tX7_cheapest_2 X m_by (fun m_far_q94 => fX7_cheapest_32 m_arcs m_arcFrom m_arcTo m_arcRoom m_arcCost m_far_q94 m_by) (fun m_far_q94 h H locs hW ls hl => by exact tX7_cheapest_32 X m_far_q94 m_by h H locs hW ls hl) FU (0 : Int32) m_far h H locs hW ls (lv_sub hl [1, 0] rfl)
theorem kcX7_cheapest {l : Launch} (G : Gt) (a_mo a_mo_arcFrom a_mo_arcTo a_mo_arcRoom a_mo_arcCost a_mo_far a_mo_by a_mo_numbers a_mo_boxes a_mo_words a_mo_weeks a_mo_routes a_mo_turns a_mo_leave a_mo_leases a_mo_uses a_mo_best a_mo_tape a_mo_kept : Nat)  (m_arcs : Int32) (m_tapeMany : Int32) (m_tokenKind : Int32) (m_tokenAt : Int32) (m_tokenEnd : Int32) (m_tokenValue : Int32) (m_fault : Int32) (m_seen : Int32) (m_isKept : Int32) (m_place : Int32) (m_arcFrom : (Nat → Int32)) (m_arcTo : (Nat → Int32)) (m_arcRoom : (Nat → Int32)) (m_arcCost : (Nat → Int32)) (m_far : (Nat → Int32)) (m_by : (Nat → Int32)) {r : Int32} {z_m_far : (Nat → Int32)} {z_m_by : (Nat → Int32)} (h : fX7_cheapest m_arcs m_arcFrom m_arcTo m_arcRoom m_arcCost m_far m_by = some (r, z_m_far, z_m_by)) : CtI G l yX7_cheapest wsX7_cheapest rmX7_cheapest [.ref a_mo] (wX7_cheapest G a_mo a_mo_arcFrom a_mo_arcTo a_mo_arcRoom a_mo_arcCost a_mo_far a_mo_by a_mo_numbers a_mo_boxes a_mo_words a_mo_weeks a_mo_routes a_mo_turns a_mo_leave a_mo_leases a_mo_uses a_mo_best a_mo_tape a_mo_kept m_arcs m_tapeMany m_tokenKind m_tokenAt m_tokenEnd m_tokenValue m_fault m_seen m_isKept m_place m_arcFrom m_arcTo m_arcRoom m_arcCost m_far m_by) r (wX7_cheapest G a_mo a_mo_arcFrom a_mo_arcTo a_mo_arcRoom a_mo_arcCost a_mo_far a_mo_by a_mo_numbers a_mo_boxes a_mo_words a_mo_weeks a_mo_routes a_mo_turns a_mo_leave a_mo_leases a_mo_uses a_mo_best a_mo_tape a_mo_kept m_arcs m_tapeMany m_tokenKind m_tokenAt m_tokenEnd m_tokenValue m_fault m_seen m_isKept m_place m_arcFrom m_arcTo m_arcRoom m_arcCost z_m_far z_m_by) := k0X7_cheapest G a_mo a_mo_arcFrom a_mo_arcTo a_mo_arcRoom a_mo_arcCost a_mo_far a_mo_by a_mo_numbers a_mo_boxes a_mo_words a_mo_weeks a_mo_routes a_mo_turns a_mo_leave a_mo_leases a_mo_uses a_mo_best a_mo_tape a_mo_kept m_arcs m_tapeMany m_tokenKind m_tokenAt m_tokenEnd m_tokenValue m_fault m_seen m_isKept m_place m_arcFrom m_arcTo m_arcRoom m_arcCost m_far m_by h
end MX7_cheapest
/-! EmptyBoxesModel.leastWith -/
section MX7_leastWith
theorem hdX7_leastWith : yX7_leastWith.cls = RX7 ∧ yX7_leastWith.cls ≠ "java/lang/invoke/MethodHandle" ∧ yX7_leastWith.cls ≠ "java/lang/invoke/VarHandle" ∧ (parseMethodDescriptor yX7_leastWith.desc).map (fun d => d.parameters.length) = some 1 := by decide +kernel
abbrev wX7_leastWith (G : Gt) (a_mo a_mo_numbers a_mo_weeks a_mo_routes a_mo_arcFrom a_mo_arcTo a_mo_arcRoom a_mo_arcCost a_mo_far a_mo_by a_mo_boxes a_mo_words a_mo_turns a_mo_leave a_mo_leases a_mo_uses a_mo_best a_mo_tape a_mo_kept : Nat) (m_arcs : Int32) (m_tapeMany : Int32) (m_tokenKind : Int32) (m_tokenAt : Int32) (m_tokenEnd : Int32) (m_tokenValue : Int32) (m_fault : Int32) (m_seen : Int32) (m_isKept : Int32) (m_place : Int32) (m_numbers : (Nat → Int32)) (m_weeks : (Nat → Int32)) (m_routes : (Nat → Int32)) (m_arcFrom : (Nat → Int32)) (m_arcTo : (Nat → Int32)) (m_arcRoom : (Nat → Int32)) (m_arcCost : (Nat → Int32)) (m_far : (Nat → Int32)) (m_by : (Nat → Int32)) : va_W := [(a_mo, .inr (7, [.ref a_mo_numbers, .ref a_mo_boxes, .ref a_mo_words, .ref a_mo_weeks, .ref a_mo_routes, .ref a_mo_turns, .ref a_mo_leave, .ref a_mo_leases, .ref a_mo_uses, .ref a_mo_arcFrom, .ref a_mo_arcTo, .ref a_mo_arcRoom, .ref a_mo_arcCost, .int m_arcs, .ref a_mo_far, .ref a_mo_by, .ref a_mo_best, .ref a_mo_tape, .int m_tapeMany, .int m_tokenKind, .int m_tokenAt, .int m_tokenEnd, .int m_tokenValue, .int m_fault, .int m_seen, .int m_isKept, .ref a_mo_kept, .int m_place])), (a_mo_numbers, .inl (G.2.1, 10, .inl m_numbers)), (a_mo_weeks, .inl (G.2.1, 60, .inl m_weeks)), (a_mo_routes, .inl (G.2.1, 50, .inl m_routes)), (a_mo_arcFrom, .inl (G.2.1, 300, .inl m_arcFrom)), (a_mo_arcTo, .inl (G.2.1, 300, .inl m_arcTo)), (a_mo_arcRoom, .inl (G.2.1, 300, .inl m_arcRoom)), (a_mo_arcCost, .inl (G.2.1, 300, .inl m_arcCost)), (a_mo_far, .inl (G.2.1, 32, .inl m_far)), (a_mo_by, .inl (G.2.1, 32, .inl m_by))]
abbrev rmX7_leastWith : Room := { frames := 2, cells := 0, slots := 0, locals := 47 }
theorem iX7_leastWith_X7 : ∀ w ∈ wsX70, w ∈ wsX7_leastWith := by decide +kernel
theorem eX7_leastWith_19 : Fk wsX7_leastWith RX7 19 7 3 := ⟨RX7, TX7, 28, rfl, iX7_leastWith_X7, by decide, by decide +kernel⟩
theorem eX7_leastWith_37 : Fk wsX7_leastWith RX7 37 7 9 := ⟨RX7, TX7, 28, rfl, iX7_leastWith_X7, by decide, by decide +kernel⟩
theorem eX7_leastWith_43 : Fk wsX7_leastWith RX7 43 7 11 := ⟨RX7, TX7, 28, rfl, iX7_leastWith_X7, by decide, by decide +kernel⟩
theorem eX7_leastWith_52 : Fk wsX7_leastWith RX7 52 7 15 := ⟨RX7, TX7, 28, rfl, iX7_leastWith_X7, by decide, by decide +kernel⟩
theorem eX7_leastWith_7 : Fk wsX7_leastWith RX7 7 7 0 := ⟨RX7, TX7, 28, rfl, iX7_leastWith_X7, by decide, by decide +kernel⟩
theorem ckX7_leastWith_X7_addArcs_118 : CkV wsX7_leastWith RX7 118 yX7_addArcs wsX7_addArcs cX7_addArcs 4 none 1 7 := ⟨RX7, TX7, 28, _, rfl, gX7_leastWith_X7_addArcs, rfl, hdX7_addArcs⟩
theorem ckX7_leastWith_X7_cheapest_122 : CkV wsX7_leastWith RX7 122 yX7_cheapest wsX7_cheapest cX7_cheapest 4 (some .int) 0 7 := ⟨RX7, TX7, 28, _, rfl, gX7_leastWith_X7_cheapest, rfl, hdX7_cheapest⟩
variable {p : Program} {l : Launch} {e : Env} {s : State} {m : MethodId} {args : Array Value} {below : List Frame} {meth : Method} {c : Code} {A : Nat → Prop} {G : Gt} {a_mo a_mo_numbers a_mo_weeks a_mo_routes a_mo_arcFrom a_mo_arcTo a_mo_arcRoom a_mo_arcCost a_mo_far a_mo_by a_mo_boxes a_mo_words a_mo_turns a_mo_leave a_mo_leases a_mo_uses a_mo_best a_mo_tape a_mo_kept : Nat} {m_tapeMany : Int32} {m_tokenKind : Int32} {m_tokenAt : Int32} {m_tokenEnd : Int32} {m_tokenValue : Int32} {m_fault : Int32} {m_seen : Int32} {m_isKept : Int32} {m_place : Int32} {m_numbers : (Nat → Int32)} {m_weeks : (Nat → Int32)} {m_routes : (Nat → Int32)} {res : Int32 × Int32 × (Nat → Int32) × (Nat → Int32) × (Nat → Int32) × (Nat → Int32) × (Nat → Int32) × (Nat → Int32)}
set_option maxHeartbeats 4000000 in
set_option maxRecDepth 100000 in
theorem tX7_leastWith_139 (X : Bx p s m args meth c cX7_leastWith 6 wsX7_leastWith RX7 (some .int)) (v2 : Int32) (m_arcs : Int32) (m_arcFrom : (Nat → Int32)) (m_arcTo : (Nat → Int32)) (m_arcRoom : (Nat → Int32)) (m_arcCost : (Nat → Int32)) (m_far : (Nat → Int32)) (m_by : (Nat → Int32)) (k_46 : Int32 → Int32 → (Nat → Int32) → (Nat → Int32) → (Nat → Int32) → Option (Int32 × Int32 × (Nat → Int32) × (Nat → Int32) × (Nat → Int32) × (Nat → Int32) × (Nat → Int32) × (Nat → Int32))) (Hk_46 : ∀ (v2 : Int32) (v3 : Int32) (m_arcRoom : (Nat → Int32)) (m_far : (Nat → Int32)) (m_by : (Nat → Int32)), k_46 v2 v3 m_arcRoom m_far m_by = some res → ∀ (H : Heap) (locs : List Loc), Wo G A s (wX7_leastWith G a_mo a_mo_numbers a_mo_weeks a_mo_routes a_mo_arcFrom a_mo_arcTo a_mo_arcRoom a_mo_arcCost a_mo_far a_mo_by a_mo_boxes a_mo_words a_mo_turns a_mo_leave a_mo_leases a_mo_uses a_mo_best a_mo_tape a_mo_kept m_arcs m_tapeMany m_tokenKind m_tokenAt m_tokenEnd m_tokenValue m_fault m_seen m_isKept m_place m_numbers m_weeks m_routes m_arcFrom m_arcTo m_arcRoom m_arcCost m_far m_by) H locs → ∀ ls : Array Slot, lv_has ls 6 [(0, .ref a_mo), (2, .int v2), (3, .int v3)] → W p l e rmX7_leastWith s m args below meth c H locs 0 0 (QI G A below args s res.1 (wX7_leastWith G a_mo a_mo_numbers a_mo_weeks a_mo_routes a_mo_arcFrom a_mo_arcTo a_mo_arcRoom a_mo_arcCost a_mo_far a_mo_by a_mo_boxes a_mo_words a_mo_turns a_mo_leave a_mo_leases a_mo_uses a_mo_best a_mo_tape a_mo_kept res.2.1 m_tapeMany m_tokenKind m_tokenAt m_tokenEnd m_tokenValue m_fault m_seen m_isKept m_place m_numbers m_weeks m_routes res.2.2.1 res.2.2.2.1 res.2.2.2.2.1 res.2.2.2.2.2.1 res.2.2.2.2.2.2.1 res.2.2.2.2.2.2.2)) (F0 m 46 ls [])) (h : fX7_leastWith_139 k_46 v2 m_arcs m_arcFrom m_arcTo m_arcRoom m_arcCost m_far m_by = some res) : ∀ (H : Heap) (locs : List Loc), Wo G A s (wX7_leastWith G a_mo a_mo_numbers a_mo_weeks a_mo_routes a_mo_arcFrom a_mo_arcTo a_mo_arcRoom a_mo_arcCost a_mo_far a_mo_by a_mo_boxes a_mo_words a_mo_turns a_mo_leave a_mo_leases a_mo_uses a_mo_best a_mo_tape a_mo_kept m_arcs m_tapeMany m_tokenKind m_tokenAt m_tokenEnd m_tokenValue m_fault m_seen m_isKept m_place m_numbers m_weeks m_routes m_arcFrom m_arcTo m_arcRoom m_arcCost m_far m_by) H locs → ∀ ls : Array Slot, lv_has ls 6 [(0, .ref a_mo), (2, .int v2)] → W p l e rmX7_leastWith s m args below meth c H locs 0 0 (QI G A below args s res.1 (wX7_leastWith G a_mo a_mo_numbers a_mo_weeks a_mo_routes a_mo_arcFrom a_mo_arcTo a_mo_arcRoom a_mo_arcCost a_mo_far a_mo_by a_mo_boxes a_mo_words a_mo_turns a_mo_leave a_mo_leases a_mo_uses a_mo_best a_mo_tape a_mo_kept res.2.1 m_tapeMany m_tokenKind m_tokenAt m_tokenEnd m_tokenValue m_fault m_seen m_isKept m_place m_numbers m_weeks m_routes res.2.2.1 res.2.2.2.1 res.2.2.2.2.1 res.2.2.2.2.2.1 res.2.2.2.2.2.2.1 res.2.2.2.2.2.2.2)) (F0 m 139 ls []) := by
  obtain ⟨hx, hb, -⟩ := id X.1
  intro H locs hW ls hl
  rw [fX7_leastWith_139] at h
  refine lv_aload_n hx hb dX7_leastWith_139 rfl (lv_at hl 0 rfl) ?_
  obtain ⟨r2, o2_m_far, o2_m_by, hq, h⟩ := bn3_some h
  refine g_cvi X hW (As := []) (ws' := (wX7_leastWith G a_mo a_mo_numbers a_mo_weeks a_mo_routes a_mo_arcFrom a_mo_arcTo a_mo_arcRoom a_mo_arcCost a_mo_far a_mo_by a_mo_boxes a_mo_words a_mo_turns a_mo_leave a_mo_leases a_mo_uses a_mo_best a_mo_tape a_mo_kept m_arcs m_tapeMany m_tokenKind m_tokenAt m_tokenEnd m_tokenValue m_fault m_seen m_isKept m_place m_numbers m_weeks m_routes m_arcFrom m_arcTo m_arcRoom m_arcCost o2_m_far o2_m_by)) ckX7_leastWith_X7_cheapest_122 (kcX7_cheapest (l := l) G a_mo a_mo_arcFrom a_mo_arcTo a_mo_arcRoom a_mo_arcCost a_mo_far a_mo_by a_mo_numbers a_mo_boxes a_mo_words a_mo_weeks a_mo_routes a_mo_turns a_mo_leave a_mo_leases a_mo_uses a_mo_best a_mo_tape a_mo_kept m_arcs m_tapeMany m_tokenKind m_tokenAt m_tokenEnd m_tokenValue m_fault m_seen m_isKept m_place m_arcFrom m_arcTo m_arcRoom m_arcCost m_far m_by hq) ⟨rfl, rfl, Nat.le_of_ble_eq_true rfl, Nat.le_of_ble_eq_true rfl⟩ [0, 4, 5, 6, 7, 8, 9] rfl rfl rfl rfl rfl rfl rfl hl.1 (Nat.le_of_ble_eq_true rfl) ⟨Nat.zero_le _, Nat.zero_le _⟩ dX7_leastWith_140 (fun H locs hW => ?_)
  refine lv_istore_n (lv' := [(3, .int r2), (0, .ref a_mo), (2, .int v2)]) hx hb dX7_leastWith_143 rfl hl (by decide) rfl (fun ls hl => ?_)
  refine lv_goto (tgt := 46) hx hb dX7_leastWith_144 (by decide) ?_
  exact Hk_46 v2 r2 m_arcRoom o2_m_far o2_m_by h H locs hW ls (lv_sub hl [1, 2, 0] rfl)
set_option maxHeartbeats 4000000 in
set_option maxRecDepth 100000 in
theorem tX7_leastWith_122 (X : Bx p s m args meth c cX7_leastWith 6 wsX7_leastWith RX7 (some .int)) (v2 : Int32) (v5 : Int32) (t1 : Int32) (m_arcs : Int32) (m_arcFrom : (Nat → Int32)) (m_arcTo : (Nat → Int32)) (m_arcRoom : (Nat → Int32)) (m_arcCost : (Nat → Int32)) (m_far : (Nat → Int32)) (m_by : (Nat → Int32)) (k_73 : Int32 → (Nat → Int32) → Option (Int32 × Int32 × (Nat → Int32) × (Nat → Int32) × (Nat → Int32) × (Nat → Int32) × (Nat → Int32) × (Nat → Int32))) (Hk_73 : ∀ (v4 : Int32) (m_arcRoom : (Nat → Int32)), k_73 v4 m_arcRoom = some res → ∀ (H : Heap) (locs : List Loc), Wo G A s (wX7_leastWith G a_mo a_mo_numbers a_mo_weeks a_mo_routes a_mo_arcFrom a_mo_arcTo a_mo_arcRoom a_mo_arcCost a_mo_far a_mo_by a_mo_boxes a_mo_words a_mo_turns a_mo_leave a_mo_leases a_mo_uses a_mo_best a_mo_tape a_mo_kept m_arcs m_tapeMany m_tokenKind m_tokenAt m_tokenEnd m_tokenValue m_fault m_seen m_isKept m_place m_numbers m_weeks m_routes m_arcFrom m_arcTo m_arcRoom m_arcCost m_far m_by) H locs → ∀ ls : Array Slot, lv_has ls 6 [(0, .ref a_mo), (2, .int v2), (4, .int v4)] → W p l e rmX7_leastWith s m args below meth c H locs 0 0 (QI G A below args s res.1 (wX7_leastWith G a_mo a_mo_numbers a_mo_weeks a_mo_routes a_mo_arcFrom a_mo_arcTo a_mo_arcRoom a_mo_arcCost a_mo_far a_mo_by a_mo_boxes a_mo_words a_mo_turns a_mo_leave a_mo_leases a_mo_uses a_mo_best a_mo_tape a_mo_kept res.2.1 m_tapeMany m_tokenKind m_tokenAt m_tokenEnd m_tokenValue m_fault m_seen m_isKept m_place m_numbers m_weeks m_routes res.2.2.1 res.2.2.2.1 res.2.2.2.2.1 res.2.2.2.2.2.1 res.2.2.2.2.2.2.1 res.2.2.2.2.2.2.2)) (F0 m 73 ls [])) (h : fX7_leastWith_122 k_73 v5 t1 m_arcFrom m_arcRoom = some res) : ∀ (H : Heap) (locs : List Loc), Wo G A s (wX7_leastWith G a_mo a_mo_numbers a_mo_weeks a_mo_routes a_mo_arcFrom a_mo_arcTo a_mo_arcRoom a_mo_arcCost a_mo_far a_mo_by a_mo_boxes a_mo_words a_mo_turns a_mo_leave a_mo_leases a_mo_uses a_mo_best a_mo_tape a_mo_kept m_arcs m_tapeMany m_tokenKind m_tokenAt m_tokenEnd m_tokenValue m_fault m_seen m_isKept m_place m_numbers m_weeks m_routes m_arcFrom m_arcTo m_arcRoom m_arcCost m_far m_by) H locs → ∀ ls : Array Slot, lv_has ls 6 [(0, .ref a_mo), (2, .int v2), (5, .int v5)] → W p l e rmX7_leastWith s m args below meth c H locs 0 0 (QI G A below args s res.1 (wX7_leastWith G a_mo a_mo_numbers a_mo_weeks a_mo_routes a_mo_arcFrom a_mo_arcTo a_mo_arcRoom a_mo_arcCost a_mo_far a_mo_by a_mo_boxes a_mo_words a_mo_turns a_mo_leave a_mo_leases a_mo_uses a_mo_best a_mo_tape a_mo_kept res.2.1 m_tapeMany m_tokenKind m_tokenAt m_tokenEnd m_tokenValue m_fault m_seen m_isKept m_place m_numbers m_weeks m_routes res.2.2.1 res.2.2.2.1 res.2.2.2.2.1 res.2.2.2.2.2.1 res.2.2.2.2.2.2.1 res.2.2.2.2.2.2.2)) (F0 m 122 ls [.int t1, .ref a_mo_arcRoom]) := by
  obtain ⟨hx, hb, -⟩ := id X.1
  intro H locs hW ls hl
  rw [fX7_leastWith_122] at h
  refine lv_dup2_11 hx hb dX7_leastWith_122 rfl rfl ?_
  obtain ⟨g6, h⟩ := gd_some h
  refine g_ald X hW 6 rfl g6 dX7_leastWith_123 ?_
  refine lv_iconst hx hb dX7_leastWith_124 qI_1 ?_
  refine lv_iadd hx hb dX7_leastWith_125 ?_
  obtain ⟨g9, h⟩ := gd_some h
  refine g_ast X hW (ws' := (wX7_leastWith G a_mo a_mo_numbers a_mo_weeks a_mo_routes a_mo_arcFrom a_mo_arcTo a_mo_arcRoom a_mo_arcCost a_mo_far a_mo_by a_mo_boxes a_mo_words a_mo_turns a_mo_leave a_mo_leases a_mo_uses a_mo_best a_mo_tape a_mo_kept m_arcs m_tapeMany m_tokenKind m_tokenAt m_tokenEnd m_tokenValue m_fault m_seen m_isKept m_place m_numbers m_weeks m_routes m_arcFrom m_arcTo (upd m_arcRoom t1.toNatClampNeg ((m_arcRoom t1.toNatClampNeg) + (1 : Int32))) m_arcCost m_far m_by)) 6 rfl g9 rfl dX7_leastWith_126 (fun H locs hW => ?_)
  refine lv_aload_n hx hb dX7_leastWith_127 rfl (lv_at hl 0 rfl) ?_
  refine g_get X hW eX7_leastWith_37 0 rfl rfl dX7_leastWith_128 ?_
  refine lv_iload hx hb dX7_leastWith_131 (lv_at hl 2 rfl) ?_
  obtain ⟨g13, h⟩ := gd_some h
  refine g_ald X hW 4 rfl g13 dX7_leastWith_133 ?_
  refine lv_istore (lv' := [(4, .int (m_arcFrom v5.toNatClampNeg)), (0, .ref a_mo), (2, .int v2), (5, .int v5)]) hx hb dX7_leastWith_134 hl (by decide) rfl (fun ls hl => ?_)
  refine lv_goto (tgt := 73) hx hb dX7_leastWith_136 (by decide) ?_
  exact Hk_73 (m_arcFrom v5.toNatClampNeg) (upd m_arcRoom t1.toNatClampNeg ((m_arcRoom t1.toNatClampNeg) + (1 : Int32))) h H locs hW ls (lv_sub hl [1, 2, 0] rfl)
set_option maxHeartbeats 4000000 in
set_option maxRecDepth 100000 in
theorem tX7_leastWith_73 (X : Bx p s m args meth c cX7_leastWith 6 wsX7_leastWith RX7 (some .int)) (v2 : Int32) (m_arcs : Int32) (m_arcFrom : (Nat → Int32)) (m_arcTo : (Nat → Int32)) (m_arcCost : (Nat → Int32)) (m_far : (Nat → Int32)) (m_by : (Nat → Int32)) (k_139 : (Nat → Int32) → Option (Int32 × Int32 × (Nat → Int32) × (Nat → Int32) × (Nat → Int32) × (Nat → Int32) × (Nat → Int32) × (Nat → Int32))) (Hk_139 : ∀ (m_arcRoom : (Nat → Int32)), k_139 m_arcRoom = some res → ∀ (H : Heap) (locs : List Loc), Wo G A s (wX7_leastWith G a_mo a_mo_numbers a_mo_weeks a_mo_routes a_mo_arcFrom a_mo_arcTo a_mo_arcRoom a_mo_arcCost a_mo_far a_mo_by a_mo_boxes a_mo_words a_mo_turns a_mo_leave a_mo_leases a_mo_uses a_mo_best a_mo_tape a_mo_kept m_arcs m_tapeMany m_tokenKind m_tokenAt m_tokenEnd m_tokenValue m_fault m_seen m_isKept m_place m_numbers m_weeks m_routes m_arcFrom m_arcTo m_arcRoom m_arcCost m_far m_by) H locs → ∀ ls : Array Slot, lv_has ls 6 [(0, .ref a_mo), (2, .int v2)] → W p l e rmX7_leastWith s m args below meth c H locs 0 0 (QI G A below args s res.1 (wX7_leastWith G a_mo a_mo_numbers a_mo_weeks a_mo_routes a_mo_arcFrom a_mo_arcTo a_mo_arcRoom a_mo_arcCost a_mo_far a_mo_by a_mo_boxes a_mo_words a_mo_turns a_mo_leave a_mo_leases a_mo_uses a_mo_best a_mo_tape a_mo_kept res.2.1 m_tapeMany m_tokenKind m_tokenAt m_tokenEnd m_tokenValue m_fault m_seen m_isKept m_place m_numbers m_weeks m_routes res.2.2.1 res.2.2.2.1 res.2.2.2.2.1 res.2.2.2.2.2.1 res.2.2.2.2.2.2.1 res.2.2.2.2.2.2.2)) (F0 m 139 ls [])) : ∀ (n : Nat) (v4 : Int32) (m_arcRoom : (Nat → Int32)), fX7_leastWith_73 m_arcFrom m_by k_139 n v4 m_arcRoom = some res → ∀ (H : Heap) (locs : List Loc), Wo G A s (wX7_leastWith G a_mo a_mo_numbers a_mo_weeks a_mo_routes a_mo_arcFrom a_mo_arcTo a_mo_arcRoom a_mo_arcCost a_mo_far a_mo_by a_mo_boxes a_mo_words a_mo_turns a_mo_leave a_mo_leases a_mo_uses a_mo_best a_mo_tape a_mo_kept m_arcs m_tapeMany m_tokenKind m_tokenAt m_tokenEnd m_tokenValue m_fault m_seen m_isKept m_place m_numbers m_weeks m_routes m_arcFrom m_arcTo m_arcRoom m_arcCost m_far m_by) H locs → ∀ ls : Array Slot, lv_has ls 6 [(0, .ref a_mo), (2, .int v2), (4, .int v4)] → W p l e rmX7_leastWith s m args below meth c H locs 0 0 (QI G A below args s res.1 (wX7_leastWith G a_mo a_mo_numbers a_mo_weeks a_mo_routes a_mo_arcFrom a_mo_arcTo a_mo_arcRoom a_mo_arcCost a_mo_far a_mo_by a_mo_boxes a_mo_words a_mo_turns a_mo_leave a_mo_leases a_mo_uses a_mo_best a_mo_tape a_mo_kept res.2.1 m_tapeMany m_tokenKind m_tokenAt m_tokenEnd m_tokenValue m_fault m_seen m_isKept m_place m_numbers m_weeks m_routes res.2.2.1 res.2.2.2.1 res.2.2.2.2.1 res.2.2.2.2.2.1 res.2.2.2.2.2.2.1 res.2.2.2.2.2.2.2)) (F0 m 73 ls []) := by
  obtain ⟨hx, hb, -⟩ := id X.1
  intro n
  induction n with
  | zero => intro v4 m_arcRoom h; rw [fX7_leastWith_73] at h; cases h
  | succ n ih =>
    intro v4 m_arcRoom h H locs hW ls hl
    rw [fX7_leastWith_73] at h
    refine lv_iload hx hb dX7_leastWith_73 (lv_at hl 2 rfl) ?_
    refine lv_bipush hx hb dX7_leastWith_75 qB_30 ?_
    refine lv_icmp_eq (tgt := 139) hx hb dX7_leastWith_77 (by decide) (fun c18 => ?_) (fun c18 => ?_)
    · have h := (if_pos c18).symm.trans h
      exact Hk_139 m_arcRoom h H locs hW ls (lv_sub hl [0, 1] rfl)
    · have h := (if_neg c18).symm.trans h
      refine lv_aload_n hx hb dX7_leastWith_80 rfl (lv_at hl 0 rfl) ?_
      refine g_get X hW eX7_leastWith_52 0 rfl rfl dX7_leastWith_81 ?_
      refine lv_iload hx hb dX7_leastWith_84 (lv_at hl 2 rfl) ?_
      obtain ⟨g22, h⟩ := gd_some h
      refine g_ald X hW 9 rfl g22 dX7_leastWith_86 ?_
      refine lv_istore (lv' := [(5, .int (m_by v4.toNatClampNeg)), (0, .ref a_mo), (2, .int v2), (4, .int v4)]) hx hb dX7_leastWith_87 hl (by decide) rfl (fun ls hl => ?_)
      refine lv_aload_n hx hb dX7_leastWith_89 rfl (lv_at hl 1 rfl) ?_
      refine g_get X hW eX7_leastWith_43 0 rfl rfl dX7_leastWith_90 ?_
      refine lv_iload hx hb dX7_leastWith_93 (lv_at hl 0 rfl) ?_
      refine lv_dup2_11 hx hb dX7_leastWith_95 rfl rfl ?_
      obtain ⟨g28, h⟩ := gd_some h
      refine g_ald X hW 6 rfl g28 dX7_leastWith_96 ?_
      refine lv_iconst hx hb dX7_leastWith_97 qI_1 ?_
      refine lv_isub hx hb dX7_leastWith_98 ?_
      obtain ⟨g31, h⟩ := gd_some h
      refine g_ast X hW (ws' := (wX7_leastWith G a_mo a_mo_numbers a_mo_weeks a_mo_routes a_mo_arcFrom a_mo_arcTo a_mo_arcRoom a_mo_arcCost a_mo_far a_mo_by a_mo_boxes a_mo_words a_mo_turns a_mo_leave a_mo_leases a_mo_uses a_mo_best a_mo_tape a_mo_kept m_arcs m_tapeMany m_tokenKind m_tokenAt m_tokenEnd m_tokenValue m_fault m_seen m_isKept m_place m_numbers m_weeks m_routes m_arcFrom m_arcTo (upd m_arcRoom (m_by v4.toNatClampNeg).toNatClampNeg ((m_arcRoom (m_by v4.toNatClampNeg).toNatClampNeg) - (1 : Int32))) m_arcCost m_far m_by)) 6 rfl g31 rfl dX7_leastWith_99 (fun H locs hW => ?_)
      refine lv_aload_n hx hb dX7_leastWith_100 rfl (lv_at hl 1 rfl) ?_
      refine g_get X hW eX7_leastWith_43 0 rfl rfl dX7_leastWith_101 ?_
      refine lv_iload hx hb dX7_leastWith_104 (lv_at hl 0 rfl) ?_
      refine lv_iconst hx hb dX7_leastWith_106 qI_2 ?_
      refine g_irem hx hb dX7_leastWith_107 (by decide) ?_
      refine lv_if_ne (tgt := 118) hx hb dX7_leastWith_108 (by decide) (fun c37 => ?_) (fun c37 => ?_)
      · have h := (if_neg c37).symm.trans h
        refine lv_iload hx hb dX7_leastWith_118 (lv_at hl 0 rfl) ?_
        refine lv_iconst hx hb dX7_leastWith_120 qI_1 ?_
        refine lv_isub hx hb dX7_leastWith_121 ?_
        exact tX7_leastWith_122 X v2 (m_by v4.toNatClampNeg) ((m_by v4.toNatClampNeg) - (1 : Int32)) m_arcs m_arcFrom m_arcTo (upd m_arcRoom (m_by v4.toNatClampNeg).toNatClampNeg ((m_arcRoom (m_by v4.toNatClampNeg).toNatClampNeg) - (1 : Int32))) m_arcCost m_far m_by (fun v4 m_arcRoom => fX7_leastWith_73 m_arcFrom m_by k_139 n v4 m_arcRoom) ih h H locs hW ls (lv_sub hl [1, 2, 0] rfl)
      · have h := (if_pos c37).symm.trans h
        refine lv_iload hx hb dX7_leastWith_111 (lv_at hl 0 rfl) ?_
        refine lv_iconst hx hb dX7_leastWith_113 qI_1 ?_
        refine lv_iadd hx hb dX7_leastWith_114 ?_
        refine lv_goto (tgt := 122) hx hb dX7_leastWith_115 (by decide) ?_
        exact tX7_leastWith_122 X v2 (m_by v4.toNatClampNeg) ((m_by v4.toNatClampNeg) + (1 : Int32)) m_arcs m_arcFrom m_arcTo (upd m_arcRoom (m_by v4.toNatClampNeg).toNatClampNeg ((m_arcRoom (m_by v4.toNatClampNeg).toNatClampNeg) - (1 : Int32))) m_arcCost m_far m_by (fun v4 m_arcRoom => fX7_leastWith_73 m_arcFrom m_by k_139 n v4 m_arcRoom) ih h H locs hW ls (lv_sub hl [1, 2, 0] rfl)
set_option maxHeartbeats 4000000 in
set_option maxRecDepth 100000 in
theorem tX7_leastWith_46 (X : Bx p s m args meth c cX7_leastWith 6 wsX7_leastWith RX7 (some .int)) (m_arcs : Int32) (m_arcFrom : (Nat → Int32)) (m_arcTo : (Nat → Int32)) (m_arcCost : (Nat → Int32))   : ∀ (n : Nat) (v2 : Int32) (v3 : Int32) (m_arcRoom : (Nat → Int32)) (m_far : (Nat → Int32)) (m_by : (Nat → Int32)), fX7_leastWith_46 m_arcs m_numbers m_arcFrom m_arcTo m_arcCost n v2 v3 m_arcRoom m_far m_by = some res → ∀ (H : Heap) (locs : List Loc), Wo G A s (wX7_leastWith G a_mo a_mo_numbers a_mo_weeks a_mo_routes a_mo_arcFrom a_mo_arcTo a_mo_arcRoom a_mo_arcCost a_mo_far a_mo_by a_mo_boxes a_mo_words a_mo_turns a_mo_leave a_mo_leases a_mo_uses a_mo_best a_mo_tape a_mo_kept m_arcs m_tapeMany m_tokenKind m_tokenAt m_tokenEnd m_tokenValue m_fault m_seen m_isKept m_place m_numbers m_weeks m_routes m_arcFrom m_arcTo m_arcRoom m_arcCost m_far m_by) H locs → ∀ ls : Array Slot, lv_has ls 6 [(0, .ref a_mo), (2, .int v2), (3, .int v3)] → W p l e rmX7_leastWith s m args below meth c H locs 0 0 (QI G A below args s res.1 (wX7_leastWith G a_mo a_mo_numbers a_mo_weeks a_mo_routes a_mo_arcFrom a_mo_arcTo a_mo_arcRoom a_mo_arcCost a_mo_far a_mo_by a_mo_boxes a_mo_words a_mo_turns a_mo_leave a_mo_leases a_mo_uses a_mo_best a_mo_tape a_mo_kept res.2.1 m_tapeMany m_tokenKind m_tokenAt m_tokenEnd m_tokenValue m_fault m_seen m_isKept m_place m_numbers m_weeks m_routes res.2.2.1 res.2.2.2.1 res.2.2.2.2.1 res.2.2.2.2.2.1 res.2.2.2.2.2.2.1 res.2.2.2.2.2.2.2)) (F0 m 46 ls []) := by
  obtain ⟨hx, hb, -⟩ := id X.1
  intro n
  induction n with
  | zero => intro v2 v3 m_arcRoom m_far m_by h; rw [fX7_leastWith_46] at h; cases h
  | succ n ih =>
    intro v2 v3 m_arcRoom m_far m_by h H locs hW ls hl
    rw [fX7_leastWith_46] at h
    refine lv_iload_n hx hb dX7_leastWith_46 rfl (lv_at hl 2 rfl) ?_
    refine lv_aload_n hx hb dX7_leastWith_47 rfl (lv_at hl 0 rfl) ?_
    refine g_get X hW eX7_leastWith_7 0 rfl rfl dX7_leastWith_48 ?_
    refine lv_bipush hx hb dX7_leastWith_51 qB_9 ?_
    obtain ⟨g49, h⟩ := gd_some h
    refine g_ald X hW 1 rfl g49 dX7_leastWith_53 ?_
    refine lv_icmp_ge (tgt := 147) hx hb dX7_leastWith_54 (by decide) (fun c50 => ?_) (fun c50 => ?_)
    · have h := (if_pos c50).symm.trans h
      refine lv_iload_n hx hb dX7_leastWith_147 rfl (lv_at hl 1 rfl) ?_
      obtain rfl := Option.some.inj h
      exact g_iret X hW dX7_leastWith_148
    · have h := (if_neg c50).symm.trans h
      refine lv_iload_n hx hb dX7_leastWith_57 rfl (lv_at hl 1 rfl) ?_
      refine lv_iload_n hx hb dX7_leastWith_58 rfl (lv_at hl 2 rfl) ?_
      refine lv_aload_n hx hb dX7_leastWith_59 rfl (lv_at hl 0 rfl) ?_
      refine g_get X hW eX7_leastWith_7 0 rfl rfl dX7_leastWith_60 ?_
      refine lv_bipush hx hb dX7_leastWith_63 qB_9 ?_
      obtain ⟨g58, h⟩ := gd_some h
      refine g_ald X hW 1 rfl g58 dX7_leastWith_65 ?_
      refine lv_isub hx hb dX7_leastWith_66 ?_
      refine lv_iadd hx hb dX7_leastWith_67 ?_
      refine lv_istore_n (lv' := [(2, .int (v2 + (v3 - (m_numbers (9 : Int32).toNatClampNeg)))), (0, .ref a_mo), (3, .int v3)]) hx hb dX7_leastWith_68 rfl hl (by decide) rfl (fun ls hl => ?_)
      refine lv_bipush hx hb dX7_leastWith_69 qB_31 ?_
      refine lv_istore (lv' := [(4, .int (31 : Int32)), (2, .int (v2 + (v3 - (m_numbers (9 : Int32).toNatClampNeg)))), (0, .ref a_mo), (3, .int v3)]) hx hb dX7_leastWith_71 hl (by decide) rfl (fun ls hl => ?_)
      exact tX7_leastWith_73 X (v2 + (v3 - (m_numbers (9 : Int32).toNatClampNeg))) m_arcs m_arcFrom m_arcTo m_arcCost m_far m_by (fun m_arcRoom_q64 => fX7_leastWith_139 (fun v2 v3 m_arcRoom m_far m_by => fX7_leastWith_46 m_arcs m_numbers m_arcFrom m_arcTo m_arcCost n v2 v3 m_arcRoom m_far m_by) (v2 + (v3 - (m_numbers (9 : Int32).toNatClampNeg))) m_arcs m_arcFrom m_arcTo m_arcRoom_q64 m_arcCost m_far m_by) (fun m_arcRoom_q64 h H locs hW ls hl => by exact tX7_leastWith_139 X (v2 + (v3 - (m_numbers (9 : Int32).toNatClampNeg))) m_arcs m_arcFrom m_arcTo m_arcRoom_q64 m_arcCost m_far m_by (fun v2 v3 m_arcRoom m_far m_by => fX7_leastWith_46 m_arcs m_numbers m_arcFrom m_arcTo m_arcCost n v2 v3 m_arcRoom m_far m_by) ih h H locs hW ls hl) FU (31 : Int32) m_arcRoom h H locs hW ls (lv_sub hl [2, 1, 0] rfl)
set_option maxHeartbeats 4000000 in
set_option maxRecDepth 100000 in
theorem tX7_leastWith_41 (X : Bx p s m args meth c cX7_leastWith 6 wsX7_leastWith RX7 (some .int)) (v2 : Int32) (m_arcs : Int32) (m_arcFrom : (Nat → Int32)) (m_arcTo : (Nat → Int32)) (m_arcRoom : (Nat → Int32)) (m_arcCost : (Nat → Int32)) (m_far : (Nat → Int32)) (m_by : (Nat → Int32))   (h : fX7_leastWith_41 v2 m_arcs m_numbers m_arcFrom m_arcTo m_arcRoom m_arcCost m_far m_by = some res) : ∀ (H : Heap) (locs : List Loc), Wo G A s (wX7_leastWith G a_mo a_mo_numbers a_mo_weeks a_mo_routes a_mo_arcFrom a_mo_arcTo a_mo_arcRoom a_mo_arcCost a_mo_far a_mo_by a_mo_boxes a_mo_words a_mo_turns a_mo_leave a_mo_leases a_mo_uses a_mo_best a_mo_tape a_mo_kept m_arcs m_tapeMany m_tokenKind m_tokenAt m_tokenEnd m_tokenValue m_fault m_seen m_isKept m_place m_numbers m_weeks m_routes m_arcFrom m_arcTo m_arcRoom m_arcCost m_far m_by) H locs → ∀ ls : Array Slot, lv_has ls 6 [(0, .ref a_mo), (2, .int v2)] → W p l e rmX7_leastWith s m args below meth c H locs 0 0 (QI G A below args s res.1 (wX7_leastWith G a_mo a_mo_numbers a_mo_weeks a_mo_routes a_mo_arcFrom a_mo_arcTo a_mo_arcRoom a_mo_arcCost a_mo_far a_mo_by a_mo_boxes a_mo_words a_mo_turns a_mo_leave a_mo_leases a_mo_uses a_mo_best a_mo_tape a_mo_kept res.2.1 m_tapeMany m_tokenKind m_tokenAt m_tokenEnd m_tokenValue m_fault m_seen m_isKept m_place m_numbers m_weeks m_routes res.2.2.1 res.2.2.2.1 res.2.2.2.2.1 res.2.2.2.2.2.1 res.2.2.2.2.2.2.1 res.2.2.2.2.2.2.2)) (F0 m 41 ls []) := by
  obtain ⟨hx, hb, -⟩ := id X.1
  intro H locs hW ls hl
  rw [fX7_leastWith_41] at h
  refine lv_aload_n hx hb dX7_leastWith_41 rfl (lv_at hl 0 rfl) ?_
  obtain ⟨r66, o66_m_far, o66_m_by, hq, h⟩ := bn3_some h
  refine g_cvi X hW (As := []) (ws' := (wX7_leastWith G a_mo a_mo_numbers a_mo_weeks a_mo_routes a_mo_arcFrom a_mo_arcTo a_mo_arcRoom a_mo_arcCost a_mo_far a_mo_by a_mo_boxes a_mo_words a_mo_turns a_mo_leave a_mo_leases a_mo_uses a_mo_best a_mo_tape a_mo_kept m_arcs m_tapeMany m_tokenKind m_tokenAt m_tokenEnd m_tokenValue m_fault m_seen m_isKept m_place m_numbers m_weeks m_routes m_arcFrom m_arcTo m_arcRoom m_arcCost o66_m_far o66_m_by)) ckX7_leastWith_X7_cheapest_122 (kcX7_cheapest (l := l) G a_mo a_mo_arcFrom a_mo_arcTo a_mo_arcRoom a_mo_arcCost a_mo_far a_mo_by a_mo_numbers a_mo_boxes a_mo_words a_mo_weeks a_mo_routes a_mo_turns a_mo_leave a_mo_leases a_mo_uses a_mo_best a_mo_tape a_mo_kept m_arcs m_tapeMany m_tokenKind m_tokenAt m_tokenEnd m_tokenValue m_fault m_seen m_isKept m_place m_arcFrom m_arcTo m_arcRoom m_arcCost m_far m_by hq) ⟨rfl, rfl, Nat.le_of_ble_eq_true rfl, Nat.le_of_ble_eq_true rfl⟩ [0, 4, 5, 6, 7, 8, 9] rfl rfl rfl rfl rfl rfl rfl hl.1 (Nat.le_of_ble_eq_true rfl) ⟨Nat.zero_le _, Nat.zero_le _⟩ dX7_leastWith_42 (fun H locs hW => ?_)
  refine lv_istore_n (lv' := [(3, .int r66), (0, .ref a_mo), (2, .int v2)]) hx hb dX7_leastWith_45 rfl hl (by decide) rfl (fun ls hl => ?_)
  exact tX7_leastWith_46 X m_arcs m_arcFrom m_arcTo m_arcCost FU v2 r66 m_arcRoom o66_m_far o66_m_by h H locs hW ls (lv_sub hl [1, 2, 0] rfl)
set_option maxHeartbeats 4000000 in
set_option maxRecDepth 100000 in
theorem tX7_leastWith_9 (X : Bx p s m args meth c cX7_leastWith 6 wsX7_leastWith RX7 (some .int)) (m_arcs : Int32) (m_arcFrom : (Nat → Int32)) (m_arcTo : (Nat → Int32)) (m_arcRoom : (Nat → Int32)) (m_arcCost : (Nat → Int32)) (m_far : (Nat → Int32)) (m_by : (Nat → Int32)) (k_41 : Int32 → Option (Int32 × Int32 × (Nat → Int32) × (Nat → Int32) × (Nat → Int32) × (Nat → Int32) × (Nat → Int32) × (Nat → Int32))) (Hk_41 : ∀ (v2 : Int32), k_41 v2 = some res → ∀ (H : Heap) (locs : List Loc), Wo G A s (wX7_leastWith G a_mo a_mo_numbers a_mo_weeks a_mo_routes a_mo_arcFrom a_mo_arcTo a_mo_arcRoom a_mo_arcCost a_mo_far a_mo_by a_mo_boxes a_mo_words a_mo_turns a_mo_leave a_mo_leases a_mo_uses a_mo_best a_mo_tape a_mo_kept m_arcs m_tapeMany m_tokenKind m_tokenAt m_tokenEnd m_tokenValue m_fault m_seen m_isKept m_place m_numbers m_weeks m_routes m_arcFrom m_arcTo m_arcRoom m_arcCost m_far m_by) H locs → ∀ ls : Array Slot, lv_has ls 6 [(0, .ref a_mo), (2, .int v2)] → W p l e rmX7_leastWith s m args below meth c H locs 0 0 (QI G A below args s res.1 (wX7_leastWith G a_mo a_mo_numbers a_mo_weeks a_mo_routes a_mo_arcFrom a_mo_arcTo a_mo_arcRoom a_mo_arcCost a_mo_far a_mo_by a_mo_boxes a_mo_words a_mo_turns a_mo_leave a_mo_leases a_mo_uses a_mo_best a_mo_tape a_mo_kept res.2.1 m_tapeMany m_tokenKind m_tokenAt m_tokenEnd m_tokenValue m_fault m_seen m_isKept m_place m_numbers m_weeks m_routes res.2.2.1 res.2.2.2.1 res.2.2.2.2.1 res.2.2.2.2.2.1 res.2.2.2.2.2.2.1 res.2.2.2.2.2.2.2)) (F0 m 41 ls [])) : ∀ (n : Nat) (v2 : Int32) (v3 : Int32), fX7_leastWith_9 m_numbers m_weeks k_41 n v2 v3 = some res → ∀ (H : Heap) (locs : List Loc), Wo G A s (wX7_leastWith G a_mo a_mo_numbers a_mo_weeks a_mo_routes a_mo_arcFrom a_mo_arcTo a_mo_arcRoom a_mo_arcCost a_mo_far a_mo_by a_mo_boxes a_mo_words a_mo_turns a_mo_leave a_mo_leases a_mo_uses a_mo_best a_mo_tape a_mo_kept m_arcs m_tapeMany m_tokenKind m_tokenAt m_tokenEnd m_tokenValue m_fault m_seen m_isKept m_place m_numbers m_weeks m_routes m_arcFrom m_arcTo m_arcRoom m_arcCost m_far m_by) H locs → ∀ ls : Array Slot, lv_has ls 6 [(0, .ref a_mo), (2, .int v2), (3, .int v3)] → W p l e rmX7_leastWith s m args below meth c H locs 0 0 (QI G A below args s res.1 (wX7_leastWith G a_mo a_mo_numbers a_mo_weeks a_mo_routes a_mo_arcFrom a_mo_arcTo a_mo_arcRoom a_mo_arcCost a_mo_far a_mo_by a_mo_boxes a_mo_words a_mo_turns a_mo_leave a_mo_leases a_mo_uses a_mo_best a_mo_tape a_mo_kept res.2.1 m_tapeMany m_tokenKind m_tokenAt m_tokenEnd m_tokenValue m_fault m_seen m_isKept m_place m_numbers m_weeks m_routes res.2.2.1 res.2.2.2.1 res.2.2.2.2.1 res.2.2.2.2.2.1 res.2.2.2.2.2.2.1 res.2.2.2.2.2.2.2)) (F0 m 9 ls []) := by
  obtain ⟨hx, hb, -⟩ := id X.1
  intro n
  induction n with
  | zero => intro v2 v3 h; rw [fX7_leastWith_9] at h; cases h
  | succ n ih =>
    intro v2 v3 h H locs hW ls hl
    rw [fX7_leastWith_9] at h
    refine lv_iload_n hx hb dX7_leastWith_9 rfl (lv_at hl 2 rfl) ?_
    refine lv_bipush hx hb dX7_leastWith_10 qB_30 ?_
    refine lv_icmp_ge (tgt := 41) hx hb dX7_leastWith_12 (by decide) (fun c70 => ?_) (fun c70 => ?_)
    · have h := (if_pos c70).symm.trans h
      exact Hk_41 v2 h H locs hW ls (lv_sub hl [0, 1] rfl)
    · have h := (if_neg c70).symm.trans h
      refine lv_iload_n hx hb dX7_leastWith_15 rfl (lv_at hl 1 rfl) ?_
      refine lv_aload_n hx hb dX7_leastWith_16 rfl (lv_at hl 0 rfl) ?_
      refine g_get X hW eX7_leastWith_7 0 rfl rfl dX7_leastWith_17 ?_
      refine lv_bipush hx hb dX7_leastWith_20 qB_9 ?_
      obtain ⟨g75, h⟩ := gd_some h
      refine g_ald X hW 1 rfl g75 dX7_leastWith_22 ?_
      refine lv_aload_n hx hb dX7_leastWith_23 rfl (lv_at hl 0 rfl) ?_
      refine g_get X hW eX7_leastWith_19 0 rfl rfl dX7_leastWith_24 ?_
      refine lv_bipush hx hb dX7_leastWith_27 qB_30 ?_
      refine lv_iload_n hx hb dX7_leastWith_29 rfl (lv_at hl 2 rfl) ?_
      refine lv_iadd hx hb dX7_leastWith_30 ?_
      obtain ⟨g81, h⟩ := gd_some h
      refine g_ald X hW 2 rfl g81 dX7_leastWith_31 ?_
      refine lv_imul hx hb dX7_leastWith_32 ?_
      refine lv_iadd hx hb dX7_leastWith_33 ?_
      refine lv_istore_n (lv' := [(2, .int (v2 + ((m_numbers (9 : Int32).toNatClampNeg) * (m_weeks ((30 : Int32) + v3).toNatClampNeg)))), (0, .ref a_mo), (3, .int v3)]) hx hb dX7_leastWith_34 rfl hl (by decide) rfl (fun ls hl => ?_)
      refine lv_iinc (v := (v3 + (1 : Int32))) (lv' := [(3, .int (v3 + (1 : Int32))), (2, .int (v2 + ((m_numbers (9 : Int32).toNatClampNeg) * (m_weeks ((30 : Int32) + v3).toNatClampNeg)))), (0, .ref a_mo)]) hx hb dX7_leastWith_35 hl (k := 2) rfl (congrArg (fun z => v3 + z) qI_1) (by decide) rfl (fun ls hl => ?_)
      refine lv_goto (tgt := 9) hx hb dX7_leastWith_38 (by decide) ?_
      exact ih (v2 + ((m_numbers (9 : Int32).toNatClampNeg) * (m_weeks ((30 : Int32) + v3).toNatClampNeg))) (v3 + (1 : Int32)) h H locs hW ls (lv_sub hl [2, 1, 0] rfl)
set_option maxHeartbeats 4000000 in
set_option maxRecDepth 100000 in
theorem k0X7_leastWith {l : Launch} (G : Gt) (a_mo a_mo_numbers a_mo_weeks a_mo_routes a_mo_arcFrom a_mo_arcTo a_mo_arcRoom a_mo_arcCost a_mo_far a_mo_by a_mo_boxes a_mo_words a_mo_turns a_mo_leave a_mo_leases a_mo_uses a_mo_best a_mo_tape a_mo_kept : Nat) (v1 : Int32) (m_arcs : Int32) (m_tapeMany : Int32) (m_tokenKind : Int32) (m_tokenAt : Int32) (m_tokenEnd : Int32) (m_tokenValue : Int32) (m_fault : Int32) (m_seen : Int32) (m_isKept : Int32) (m_place : Int32) (m_numbers : (Nat → Int32)) (m_weeks : (Nat → Int32)) (m_routes : (Nat → Int32)) (m_arcFrom : (Nat → Int32)) (m_arcTo : (Nat → Int32)) (m_arcRoom : (Nat → Int32)) (m_arcCost : (Nat → Int32)) (m_far : (Nat → Int32)) (m_by : (Nat → Int32)) {res : Int32 × Int32 × (Nat → Int32) × (Nat → Int32) × (Nat → Int32) × (Nat → Int32) × (Nat → Int32) × (Nat → Int32)} (h : fX7_leastWith v1 m_arcs m_numbers m_weeks m_routes m_arcFrom m_arcTo m_arcRoom m_arcCost m_far m_by = some res) : CtI G l yX7_leastWith wsX7_leastWith rmX7_leastWith [.ref a_mo, .int v1] (wX7_leastWith G a_mo a_mo_numbers a_mo_weeks a_mo_routes a_mo_arcFrom a_mo_arcTo a_mo_arcRoom a_mo_arcCost a_mo_far a_mo_by a_mo_boxes a_mo_words a_mo_turns a_mo_leave a_mo_leases a_mo_uses a_mo_best a_mo_tape a_mo_kept m_arcs m_tapeMany m_tokenKind m_tokenAt m_tokenEnd m_tokenValue m_fault m_seen m_isKept m_place m_numbers m_weeks m_routes m_arcFrom m_arcTo m_arcRoom m_arcCost m_far m_by) res.1 (wX7_leastWith G a_mo a_mo_numbers a_mo_weeks a_mo_routes a_mo_arcFrom a_mo_arcTo a_mo_arcRoom a_mo_arcCost a_mo_far a_mo_by a_mo_boxes a_mo_words a_mo_turns a_mo_leave a_mo_leases a_mo_uses a_mo_best a_mo_tape a_mo_kept res.2.1 m_tapeMany m_tokenKind m_tokenAt m_tokenEnd m_tokenValue m_fault m_seen m_isKept m_place m_numbers m_weeks m_routes res.2.2.1 res.2.2.2.1 res.2.2.2.2.1 res.2.2.2.2.2.1 res.2.2.2.2.2.2.1 res.2.2.2.2.2.2.2) := by
  refine CtI.mk (cc := cX7_leastWith) (maxL := 6) (ret := (some .int)) (own := RX7) (by decide) rfl rfl (Nat.le_of_ble_eq_true rfl) ?_
  intro p e s m below meth c A X ls hl hW
  obtain ⟨hx, hb, -⟩ := id X.1
  have hl : lv_has ls 6 [(0, .ref a_mo), (1, .int v1)] := hl
  generalize hH : s.heap = H at hW ⊢
  generalize hLo : ([] : List Loc) = locs at hW ⊢
  rw [fX7_leastWith] at h
  refine lv_aload_n hx hb dX7_leastWith_0 rfl (lv_at hl 0 rfl) ?_
  refine lv_iload_n hx hb dX7_leastWith_1 rfl (lv_at hl 1 rfl) ?_
  obtain ⟨o89_m_arcs, o89_m_arcFrom, o89_m_arcTo, o89_m_arcRoom, o89_m_arcCost, hq, h⟩ := bn5_some h
  refine g_cvv X hW (As := [.int v1]) (ws' := (wX7_leastWith G a_mo a_mo_numbers a_mo_weeks a_mo_routes a_mo_arcFrom a_mo_arcTo a_mo_arcRoom a_mo_arcCost a_mo_far a_mo_by a_mo_boxes a_mo_words a_mo_turns a_mo_leave a_mo_leases a_mo_uses a_mo_best a_mo_tape a_mo_kept o89_m_arcs m_tapeMany m_tokenKind m_tokenAt m_tokenEnd m_tokenValue m_fault m_seen m_isKept m_place m_numbers m_weeks m_routes o89_m_arcFrom o89_m_arcTo o89_m_arcRoom o89_m_arcCost m_far m_by)) ckX7_leastWith_X7_addArcs_118 (kcX7_addArcs (l := l) G a_mo a_mo_numbers a_mo_weeks a_mo_routes a_mo_arcFrom a_mo_arcTo a_mo_arcRoom a_mo_arcCost a_mo_boxes a_mo_words a_mo_turns a_mo_leave a_mo_leases a_mo_uses a_mo_far a_mo_by a_mo_best a_mo_tape a_mo_kept v1 m_arcs m_tapeMany m_tokenKind m_tokenAt m_tokenEnd m_tokenValue m_fault m_seen m_isKept m_place m_numbers m_weeks m_routes m_arcFrom m_arcTo m_arcRoom m_arcCost hq) ⟨rfl, rfl, Nat.le_of_ble_eq_true rfl, Nat.le_of_ble_eq_true rfl⟩ [0, 1, 2, 3, 4, 5, 6, 7] rfl rfl rfl rfl rfl rfl rfl hl.1 (Nat.le_of_ble_eq_true rfl) ⟨Nat.zero_le _, Nat.zero_le _⟩ dX7_leastWith_2 (fun H locs hW => ?_)
  refine lv_iconst hx hb dX7_leastWith_5 qI_0 ?_
  refine lv_istore_n (lv' := [(2, .int (0 : Int32)), (0, .ref a_mo), (1, .int v1)]) hx hb dX7_leastWith_6 rfl hl (by decide) rfl (fun ls hl => ?_)
  refine lv_iconst hx hb dX7_leastWith_7 qI_0 ?_
  refine lv_istore_n (lv' := [(3, .int (0 : Int32)), (2, .int (0 : Int32)), (0, .ref a_mo), (1, .int v1)]) hx hb dX7_leastWith_8 rfl hl (by decide) rfl (fun ls hl => ?_)
  exact tX7_leastWith_9 X o89_m_arcs o89_m_arcFrom o89_m_arcTo o89_m_arcRoom o89_m_arcCost m_far m_by (fun v2_q94 => fX7_leastWith_41 v2_q94 o89_m_arcs m_numbers o89_m_arcFrom o89_m_arcTo o89_m_arcRoom o89_m_arcCost m_far m_by) (fun v2_q94 h H locs hW ls hl => by exact tX7_leastWith_41 X v2_q94 o89_m_arcs o89_m_arcFrom o89_m_arcTo o89_m_arcRoom o89_m_arcCost m_far m_by h H locs hW ls hl) FU (0 : Int32) (0 : Int32) h H locs hW ls (lv_sub hl [2, 1, 0] rfl)
theorem kcX7_leastWith {l : Launch} (G : Gt) (a_mo a_mo_numbers a_mo_weeks a_mo_routes a_mo_arcFrom a_mo_arcTo a_mo_arcRoom a_mo_arcCost a_mo_far a_mo_by a_mo_boxes a_mo_words a_mo_turns a_mo_leave a_mo_leases a_mo_uses a_mo_best a_mo_tape a_mo_kept : Nat) (v1 : Int32) (m_arcs : Int32) (m_tapeMany : Int32) (m_tokenKind : Int32) (m_tokenAt : Int32) (m_tokenEnd : Int32) (m_tokenValue : Int32) (m_fault : Int32) (m_seen : Int32) (m_isKept : Int32) (m_place : Int32) (m_numbers : (Nat → Int32)) (m_weeks : (Nat → Int32)) (m_routes : (Nat → Int32)) (m_arcFrom : (Nat → Int32)) (m_arcTo : (Nat → Int32)) (m_arcRoom : (Nat → Int32)) (m_arcCost : (Nat → Int32)) (m_far : (Nat → Int32)) (m_by : (Nat → Int32)) {r : Int32} {z_m_arcs : Int32} {z_m_arcFrom : (Nat → Int32)} {z_m_arcTo : (Nat → Int32)} {z_m_arcRoom : (Nat → Int32)} {z_m_arcCost : (Nat → Int32)} {z_m_far : (Nat → Int32)} {z_m_by : (Nat → Int32)} (h : fX7_leastWith v1 m_arcs m_numbers m_weeks m_routes m_arcFrom m_arcTo m_arcRoom m_arcCost m_far m_by = some (r, z_m_arcs, z_m_arcFrom, z_m_arcTo, z_m_arcRoom, z_m_arcCost, z_m_far, z_m_by)) : CtI G l yX7_leastWith wsX7_leastWith rmX7_leastWith [.ref a_mo, .int v1] (wX7_leastWith G a_mo a_mo_numbers a_mo_weeks a_mo_routes a_mo_arcFrom a_mo_arcTo a_mo_arcRoom a_mo_arcCost a_mo_far a_mo_by a_mo_boxes a_mo_words a_mo_turns a_mo_leave a_mo_leases a_mo_uses a_mo_best a_mo_tape a_mo_kept m_arcs m_tapeMany m_tokenKind m_tokenAt m_tokenEnd m_tokenValue m_fault m_seen m_isKept m_place m_numbers m_weeks m_routes m_arcFrom m_arcTo m_arcRoom m_arcCost m_far m_by) r (wX7_leastWith G a_mo a_mo_numbers a_mo_weeks a_mo_routes a_mo_arcFrom a_mo_arcTo a_mo_arcRoom a_mo_arcCost a_mo_far a_mo_by a_mo_boxes a_mo_words a_mo_turns a_mo_leave a_mo_leases a_mo_uses a_mo_best a_mo_tape a_mo_kept z_m_arcs m_tapeMany m_tokenKind m_tokenAt m_tokenEnd m_tokenValue m_fault m_seen m_isKept m_place m_numbers m_weeks m_routes z_m_arcFrom z_m_arcTo z_m_arcRoom z_m_arcCost z_m_far z_m_by) := k0X7_leastWith G a_mo a_mo_numbers a_mo_weeks a_mo_routes a_mo_arcFrom a_mo_arcTo a_mo_arcRoom a_mo_arcCost a_mo_far a_mo_by a_mo_boxes a_mo_words a_mo_turns a_mo_leave a_mo_leases a_mo_uses a_mo_best a_mo_tape a_mo_kept v1 m_arcs m_tapeMany m_tokenKind m_tokenAt m_tokenEnd m_tokenValue m_fault m_seen m_isKept m_place m_numbers m_weeks m_routes m_arcFrom m_arcTo m_arcRoom m_arcCost m_far m_by h
end MX7_leastWith
/-! EmptyBoxesModel.least -/
section MX7_least
theorem hdX7_least : yX7_least.cls = RX7 ∧ yX7_least.cls ≠ "java/lang/invoke/MethodHandle" ∧ yX7_least.cls ≠ "java/lang/invoke/VarHandle" ∧ (parseMethodDescriptor yX7_least.desc).map (fun d => d.parameters.length) = some 0 := by decide +kernel
abbrev wX7_least (G : Gt) (a_mo a_mo_numbers a_mo_weeks a_mo_routes a_mo_arcFrom a_mo_arcTo a_mo_arcRoom a_mo_arcCost a_mo_far a_mo_by a_mo_boxes a_mo_words a_mo_turns a_mo_leave a_mo_leases a_mo_uses a_mo_best a_mo_tape a_mo_kept : Nat) (m_arcs : Int32) (m_tapeMany : Int32) (m_tokenKind : Int32) (m_tokenAt : Int32) (m_tokenEnd : Int32) (m_tokenValue : Int32) (m_fault : Int32) (m_seen : Int32) (m_isKept : Int32) (m_place : Int32) (m_numbers : (Nat → Int32)) (m_weeks : (Nat → Int32)) (m_routes : (Nat → Int32)) (m_arcFrom : (Nat → Int32)) (m_arcTo : (Nat → Int32)) (m_arcRoom : (Nat → Int32)) (m_arcCost : (Nat → Int32)) (m_far : (Nat → Int32)) (m_by : (Nat → Int32)) : va_W := [(a_mo, .inr (7, [.ref a_mo_numbers, .ref a_mo_boxes, .ref a_mo_words, .ref a_mo_weeks, .ref a_mo_routes, .ref a_mo_turns, .ref a_mo_leave, .ref a_mo_leases, .ref a_mo_uses, .ref a_mo_arcFrom, .ref a_mo_arcTo, .ref a_mo_arcRoom, .ref a_mo_arcCost, .int m_arcs, .ref a_mo_far, .ref a_mo_by, .ref a_mo_best, .ref a_mo_tape, .int m_tapeMany, .int m_tokenKind, .int m_tokenAt, .int m_tokenEnd, .int m_tokenValue, .int m_fault, .int m_seen, .int m_isKept, .ref a_mo_kept, .int m_place])), (a_mo_numbers, .inl (G.2.1, 10, .inl m_numbers)), (a_mo_weeks, .inl (G.2.1, 60, .inl m_weeks)), (a_mo_routes, .inl (G.2.1, 50, .inl m_routes)), (a_mo_arcFrom, .inl (G.2.1, 300, .inl m_arcFrom)), (a_mo_arcTo, .inl (G.2.1, 300, .inl m_arcTo)), (a_mo_arcRoom, .inl (G.2.1, 300, .inl m_arcRoom)), (a_mo_arcCost, .inl (G.2.1, 300, .inl m_arcCost)), (a_mo_far, .inl (G.2.1, 32, .inl m_far)), (a_mo_by, .inl (G.2.1, 32, .inl m_by))]
abbrev rmX7_least : Room := { frames := 3, cells := 0, slots := 0, locals := 72 }
theorem ckX7_least_X7_leastWith_126 : CkV wsX7_least RX7 126 yX7_leastWith wsX7_leastWith cX7_leastWith 6 (some .int) 1 7 := ⟨RX7, TX7, 28, _, rfl, gX7_least_X7_leastWith, rfl, hdX7_leastWith⟩
variable {p : Program} {l : Launch} {e : Env} {s : State} {m : MethodId} {args : Array Value} {below : List Frame} {meth : Method} {c : Code} {A : Nat → Prop} {G : Gt} {a_mo a_mo_numbers a_mo_weeks a_mo_routes a_mo_arcFrom a_mo_arcTo a_mo_arcRoom a_mo_arcCost a_mo_far a_mo_by a_mo_boxes a_mo_words a_mo_turns a_mo_leave a_mo_leases a_mo_uses a_mo_best a_mo_tape a_mo_kept : Nat} {m_tapeMany : Int32} {m_tokenKind : Int32} {m_tokenAt : Int32} {m_tokenEnd : Int32} {m_tokenValue : Int32} {m_fault : Int32} {m_seen : Int32} {m_isKept : Int32} {m_place : Int32} {m_numbers : (Nat → Int32)} {m_weeks : (Nat → Int32)} {m_routes : (Nat → Int32)} {res : Int32 × Int32 × (Nat → Int32) × (Nat → Int32) × (Nat → Int32) × (Nat → Int32) × (Nat → Int32) × (Nat → Int32)}
set_option maxHeartbeats 4000000 in
set_option maxRecDepth 100000 in
theorem k0X7_least {l : Launch} (G : Gt) (a_mo a_mo_numbers a_mo_weeks a_mo_routes a_mo_arcFrom a_mo_arcTo a_mo_arcRoom a_mo_arcCost a_mo_far a_mo_by a_mo_boxes a_mo_words a_mo_turns a_mo_leave a_mo_leases a_mo_uses a_mo_best a_mo_tape a_mo_kept : Nat)  (m_arcs : Int32) (m_tapeMany : Int32) (m_tokenKind : Int32) (m_tokenAt : Int32) (m_tokenEnd : Int32) (m_tokenValue : Int32) (m_fault : Int32) (m_seen : Int32) (m_isKept : Int32) (m_place : Int32) (m_numbers : (Nat → Int32)) (m_weeks : (Nat → Int32)) (m_routes : (Nat → Int32)) (m_arcFrom : (Nat → Int32)) (m_arcTo : (Nat → Int32)) (m_arcRoom : (Nat → Int32)) (m_arcCost : (Nat → Int32)) (m_far : (Nat → Int32)) (m_by : (Nat → Int32)) {res : Int32 × Int32 × (Nat → Int32) × (Nat → Int32) × (Nat → Int32) × (Nat → Int32) × (Nat → Int32) × (Nat → Int32)} (h : fX7_least m_arcs m_numbers m_weeks m_routes m_arcFrom m_arcTo m_arcRoom m_arcCost m_far m_by = some res) : CtI G l yX7_least wsX7_least rmX7_least [.ref a_mo] (wX7_least G a_mo a_mo_numbers a_mo_weeks a_mo_routes a_mo_arcFrom a_mo_arcTo a_mo_arcRoom a_mo_arcCost a_mo_far a_mo_by a_mo_boxes a_mo_words a_mo_turns a_mo_leave a_mo_leases a_mo_uses a_mo_best a_mo_tape a_mo_kept m_arcs m_tapeMany m_tokenKind m_tokenAt m_tokenEnd m_tokenValue m_fault m_seen m_isKept m_place m_numbers m_weeks m_routes m_arcFrom m_arcTo m_arcRoom m_arcCost m_far m_by) res.1 (wX7_least G a_mo a_mo_numbers a_mo_weeks a_mo_routes a_mo_arcFrom a_mo_arcTo a_mo_arcRoom a_mo_arcCost a_mo_far a_mo_by a_mo_boxes a_mo_words a_mo_turns a_mo_leave a_mo_leases a_mo_uses a_mo_best a_mo_tape a_mo_kept res.2.1 m_tapeMany m_tokenKind m_tokenAt m_tokenEnd m_tokenValue m_fault m_seen m_isKept m_place m_numbers m_weeks m_routes res.2.2.1 res.2.2.2.1 res.2.2.2.2.1 res.2.2.2.2.2.1 res.2.2.2.2.2.2.1 res.2.2.2.2.2.2.2) := by
  refine CtI.mk (cc := cX7_least) (maxL := 1) (ret := (some .int)) (own := RX7) (by decide) rfl rfl (Nat.le_of_ble_eq_true rfl) ?_
  intro p e s m below meth c A X ls hl hW
  obtain ⟨hx, hb, -⟩ := id X.1
  have hl : lv_has ls 1 [(0, .ref a_mo)] := hl
  generalize hH : s.heap = H at hW ⊢
  generalize hLo : ([] : List Loc) = locs at hW ⊢
  rw [fX7_least] at h
  refine lv_aload_n hx hb dX7_least_0 rfl (lv_at hl 0 rfl) ?_
  refine lv_iconst hx hb dX7_least_1 qI_m1 ?_
  obtain ⟨r3, o3_m_arcs, o3_m_arcFrom, o3_m_arcTo, o3_m_arcRoom, o3_m_arcCost, o3_m_far, o3_m_by, hq, h⟩ := bn8_some h
  refine g_cvi X hW (As := [.int (-1 : Int32)]) (ws' := (wX7_least G a_mo a_mo_numbers a_mo_weeks a_mo_routes a_mo_arcFrom a_mo_arcTo a_mo_arcRoom a_mo_arcCost a_mo_far a_mo_by a_mo_boxes a_mo_words a_mo_turns a_mo_leave a_mo_leases a_mo_uses a_mo_best a_mo_tape a_mo_kept o3_m_arcs m_tapeMany m_tokenKind m_tokenAt m_tokenEnd m_tokenValue m_fault m_seen m_isKept m_place m_numbers m_weeks m_routes o3_m_arcFrom o3_m_arcTo o3_m_arcRoom o3_m_arcCost o3_m_far o3_m_by)) ckX7_least_X7_leastWith_126 (kcX7_leastWith (l := l) G a_mo a_mo_numbers a_mo_weeks a_mo_routes a_mo_arcFrom a_mo_arcTo a_mo_arcRoom a_mo_arcCost a_mo_far a_mo_by a_mo_boxes a_mo_words a_mo_turns a_mo_leave a_mo_leases a_mo_uses a_mo_best a_mo_tape a_mo_kept (-1 : Int32) m_arcs m_tapeMany m_tokenKind m_tokenAt m_tokenEnd m_tokenValue m_fault m_seen m_isKept m_place m_numbers m_weeks m_routes m_arcFrom m_arcTo m_arcRoom m_arcCost m_far m_by hq) ⟨rfl, rfl, Nat.le_of_ble_eq_true rfl, Nat.le_of_ble_eq_true rfl⟩ [0, 1, 2, 3, 4, 5, 6, 7, 8, 9] rfl rfl rfl rfl rfl rfl rfl hl.1 (Nat.le_of_ble_eq_true rfl) ⟨Nat.zero_le _, Nat.zero_le _⟩ dX7_least_2 (fun H locs hW => ?_)
  obtain rfl := Option.some.inj h
  exact g_iret X hW dX7_least_5
theorem kcX7_least {l : Launch} (G : Gt) (a_mo a_mo_numbers a_mo_weeks a_mo_routes a_mo_arcFrom a_mo_arcTo a_mo_arcRoom a_mo_arcCost a_mo_far a_mo_by a_mo_boxes a_mo_words a_mo_turns a_mo_leave a_mo_leases a_mo_uses a_mo_best a_mo_tape a_mo_kept : Nat)  (m_arcs : Int32) (m_tapeMany : Int32) (m_tokenKind : Int32) (m_tokenAt : Int32) (m_tokenEnd : Int32) (m_tokenValue : Int32) (m_fault : Int32) (m_seen : Int32) (m_isKept : Int32) (m_place : Int32) (m_numbers : (Nat → Int32)) (m_weeks : (Nat → Int32)) (m_routes : (Nat → Int32)) (m_arcFrom : (Nat → Int32)) (m_arcTo : (Nat → Int32)) (m_arcRoom : (Nat → Int32)) (m_arcCost : (Nat → Int32)) (m_far : (Nat → Int32)) (m_by : (Nat → Int32)) {r : Int32} {z_m_arcs : Int32} {z_m_arcFrom : (Nat → Int32)} {z_m_arcTo : (Nat → Int32)} {z_m_arcRoom : (Nat → Int32)} {z_m_arcCost : (Nat → Int32)} {z_m_far : (Nat → Int32)} {z_m_by : (Nat → Int32)} (h : fX7_least m_arcs m_numbers m_weeks m_routes m_arcFrom m_arcTo m_arcRoom m_arcCost m_far m_by = some (r, z_m_arcs, z_m_arcFrom, z_m_arcTo, z_m_arcRoom, z_m_arcCost, z_m_far, z_m_by)) : CtI G l yX7_least wsX7_least rmX7_least [.ref a_mo] (wX7_least G a_mo a_mo_numbers a_mo_weeks a_mo_routes a_mo_arcFrom a_mo_arcTo a_mo_arcRoom a_mo_arcCost a_mo_far a_mo_by a_mo_boxes a_mo_words a_mo_turns a_mo_leave a_mo_leases a_mo_uses a_mo_best a_mo_tape a_mo_kept m_arcs m_tapeMany m_tokenKind m_tokenAt m_tokenEnd m_tokenValue m_fault m_seen m_isKept m_place m_numbers m_weeks m_routes m_arcFrom m_arcTo m_arcRoom m_arcCost m_far m_by) r (wX7_least G a_mo a_mo_numbers a_mo_weeks a_mo_routes a_mo_arcFrom a_mo_arcTo a_mo_arcRoom a_mo_arcCost a_mo_far a_mo_by a_mo_boxes a_mo_words a_mo_turns a_mo_leave a_mo_leases a_mo_uses a_mo_best a_mo_tape a_mo_kept z_m_arcs m_tapeMany m_tokenKind m_tokenAt m_tokenEnd m_tokenValue m_fault m_seen m_isKept m_place m_numbers m_weeks m_routes z_m_arcFrom z_m_arcTo z_m_arcRoom z_m_arcCost z_m_far z_m_by) := k0X7_least G a_mo a_mo_numbers a_mo_weeks a_mo_routes a_mo_arcFrom a_mo_arcTo a_mo_arcRoom a_mo_arcCost a_mo_far a_mo_by a_mo_boxes a_mo_words a_mo_turns a_mo_leave a_mo_leases a_mo_uses a_mo_best a_mo_tape a_mo_kept m_arcs m_tapeMany m_tokenKind m_tokenAt m_tokenEnd m_tokenValue m_fault m_seen m_isKept m_place m_numbers m_weeks m_routes m_arcFrom m_arcTo m_arcRoom m_arcCost m_far m_by h
end MX7_least
/-! EmptyBoxesModel.worth -/
section MX7_worth
theorem hdX7_worth : yX7_worth.cls = RX7 ∧ yX7_worth.cls ≠ "java/lang/invoke/MethodHandle" ∧ yX7_worth.cls ≠ "java/lang/invoke/VarHandle" ∧ (parseMethodDescriptor yX7_worth.desc).map (fun d => d.parameters.length) = some 2 := by decide +kernel
abbrev wX7_worth (G : Gt) (a_mo a_mo_numbers a_mo_weeks a_mo_routes a_mo_arcFrom a_mo_arcTo a_mo_arcRoom a_mo_arcCost a_mo_far a_mo_by a_mo_boxes a_mo_words a_mo_turns a_mo_leave a_mo_leases a_mo_uses a_mo_best a_mo_tape a_mo_kept : Nat) (m_arcs : Int32) (m_tapeMany : Int32) (m_tokenKind : Int32) (m_tokenAt : Int32) (m_tokenEnd : Int32) (m_tokenValue : Int32) (m_fault : Int32) (m_seen : Int32) (m_isKept : Int32) (m_place : Int32) (m_numbers : (Nat → Int32)) (m_weeks : (Nat → Int32)) (m_routes : (Nat → Int32)) (m_arcFrom : (Nat → Int32)) (m_arcTo : (Nat → Int32)) (m_arcRoom : (Nat → Int32)) (m_arcCost : (Nat → Int32)) (m_far : (Nat → Int32)) (m_by : (Nat → Int32)) : va_W := [(a_mo, .inr (7, [.ref a_mo_numbers, .ref a_mo_boxes, .ref a_mo_words, .ref a_mo_weeks, .ref a_mo_routes, .ref a_mo_turns, .ref a_mo_leave, .ref a_mo_leases, .ref a_mo_uses, .ref a_mo_arcFrom, .ref a_mo_arcTo, .ref a_mo_arcRoom, .ref a_mo_arcCost, .int m_arcs, .ref a_mo_far, .ref a_mo_by, .ref a_mo_best, .ref a_mo_tape, .int m_tapeMany, .int m_tokenKind, .int m_tokenAt, .int m_tokenEnd, .int m_tokenValue, .int m_fault, .int m_seen, .int m_isKept, .ref a_mo_kept, .int m_place])), (a_mo_numbers, .inl (G.2.1, 10, .inl m_numbers)), (a_mo_weeks, .inl (G.2.1, 60, .inl m_weeks)), (a_mo_routes, .inl (G.2.1, 50, .inl m_routes)), (a_mo_arcFrom, .inl (G.2.1, 300, .inl m_arcFrom)), (a_mo_arcTo, .inl (G.2.1, 300, .inl m_arcTo)), (a_mo_arcRoom, .inl (G.2.1, 300, .inl m_arcRoom)), (a_mo_arcCost, .inl (G.2.1, 300, .inl m_arcCost)), (a_mo_far, .inl (G.2.1, 32, .inl m_far)), (a_mo_by, .inl (G.2.1, 32, .inl m_by))]
abbrev rmX7_worth : Room := { frames := 3, cells := 0, slots := 0, locals := 72 }
theorem ckX7_worth_X7_in_64 : CkS wsX7_worth RX7 64 yX7_in wsX7_in cX7_in 3 (some .boolean) 3 := ⟨_, gX7_worth_X7_in, rfl, hdX7_in.2⟩
theorem ckX7_worth_X7_isPlace_90 : CkS wsX7_worth RX7 90 yX7_isPlace wsX7_isPlace cX7_isPlace 1 (some .boolean) 1 := ⟨_, gX7_worth_X7_isPlace, rfl, hdX7_isPlace.2⟩
theorem ckX7_worth_X7_leastWith_126 : CkV wsX7_worth RX7 126 yX7_leastWith wsX7_leastWith cX7_leastWith 6 (some .int) 1 7 := ⟨RX7, TX7, 28, _, rfl, gX7_worth_X7_leastWith, rfl, hdX7_leastWith⟩
variable {p : Program} {l : Launch} {e : Env} {s : State} {m : MethodId} {args : Array Value} {below : List Frame} {meth : Method} {c : Code} {A : Nat → Prop} {G : Gt} {a_mo a_mo_numbers a_mo_weeks a_mo_routes a_mo_arcFrom a_mo_arcTo a_mo_arcRoom a_mo_arcCost a_mo_far a_mo_by a_mo_boxes a_mo_words a_mo_turns a_mo_leave a_mo_leases a_mo_uses a_mo_best a_mo_tape a_mo_kept : Nat} {m_tapeMany : Int32} {m_tokenKind : Int32} {m_tokenAt : Int32} {m_tokenEnd : Int32} {m_tokenValue : Int32} {m_fault : Int32} {m_seen : Int32} {m_isKept : Int32} {m_place : Int32} {m_numbers : (Nat → Int32)} {m_weeks : (Nat → Int32)} {m_routes : (Nat → Int32)} {res : Int32 × Int32 × (Nat → Int32) × (Nat → Int32) × (Nat → Int32) × (Nat → Int32) × (Nat → Int32) × (Nat → Int32)}
set_option maxHeartbeats 4000000 in
set_option maxRecDepth 100000 in
theorem k0X7_worth {l : Launch} (G : Gt) (a_mo a_mo_numbers a_mo_weeks a_mo_routes a_mo_arcFrom a_mo_arcTo a_mo_arcRoom a_mo_arcCost a_mo_far a_mo_by a_mo_boxes a_mo_words a_mo_turns a_mo_leave a_mo_leases a_mo_uses a_mo_best a_mo_tape a_mo_kept : Nat) (v1 : Int32) (v2 : Int32) (m_arcs : Int32) (m_tapeMany : Int32) (m_tokenKind : Int32) (m_tokenAt : Int32) (m_tokenEnd : Int32) (m_tokenValue : Int32) (m_fault : Int32) (m_seen : Int32) (m_isKept : Int32) (m_place : Int32) (m_numbers : (Nat → Int32)) (m_weeks : (Nat → Int32)) (m_routes : (Nat → Int32)) (m_arcFrom : (Nat → Int32)) (m_arcTo : (Nat → Int32)) (m_arcRoom : (Nat → Int32)) (m_arcCost : (Nat → Int32)) (m_far : (Nat → Int32)) (m_by : (Nat → Int32)) {res : Int32 × Int32 × (Nat → Int32) × (Nat → Int32) × (Nat → Int32) × (Nat → Int32) × (Nat → Int32) × (Nat → Int32)} (h : fX7_worth v1 v2 m_arcs m_numbers m_weeks m_routes m_arcFrom m_arcTo m_arcRoom m_arcCost m_far m_by = some res) : CtI G l yX7_worth wsX7_worth rmX7_worth [.ref a_mo, .int v1, .int v2] (wX7_worth G a_mo a_mo_numbers a_mo_weeks a_mo_routes a_mo_arcFrom a_mo_arcTo a_mo_arcRoom a_mo_arcCost a_mo_far a_mo_by a_mo_boxes a_mo_words a_mo_turns a_mo_leave a_mo_leases a_mo_uses a_mo_best a_mo_tape a_mo_kept m_arcs m_tapeMany m_tokenKind m_tokenAt m_tokenEnd m_tokenValue m_fault m_seen m_isKept m_place m_numbers m_weeks m_routes m_arcFrom m_arcTo m_arcRoom m_arcCost m_far m_by) res.1 (wX7_worth G a_mo a_mo_numbers a_mo_weeks a_mo_routes a_mo_arcFrom a_mo_arcTo a_mo_arcRoom a_mo_arcCost a_mo_far a_mo_by a_mo_boxes a_mo_words a_mo_turns a_mo_leave a_mo_leases a_mo_uses a_mo_best a_mo_tape a_mo_kept res.2.1 m_tapeMany m_tokenKind m_tokenAt m_tokenEnd m_tokenValue m_fault m_seen m_isKept m_place m_numbers m_weeks m_routes res.2.2.1 res.2.2.2.1 res.2.2.2.2.1 res.2.2.2.2.2.1 res.2.2.2.2.2.2.1 res.2.2.2.2.2.2.2) := by
  refine CtI.mk (cc := cX7_worth) (maxL := 3) (ret := (some .int)) (own := RX7) (by decide) rfl rfl (Nat.le_of_ble_eq_true rfl) ?_
  intro p e s m below meth c A X ls hl hW
  obtain ⟨hx, hb, -⟩ := id X.1
  have hl : lv_has ls 3 [(0, .ref a_mo), (1, .int v1), (2, .int v2)] := hl
  generalize hH : s.heap = H at hW ⊢
  generalize hLo : ([] : List Loc) = locs at hW ⊢
  rw [fX7_worth] at h
  refine lv_iload_n hx hb dX7_worth_0 rfl (lv_at hl 1 rfl) ?_
  obtain ⟨r2, hq, h⟩ := bn1_some h
  refine g_csi X hW (As := [.int v1]) (ws' := (wX7_worth G a_mo a_mo_numbers a_mo_weeks a_mo_routes a_mo_arcFrom a_mo_arcTo a_mo_arcRoom a_mo_arcCost a_mo_far a_mo_by a_mo_boxes a_mo_words a_mo_turns a_mo_leave a_mo_leases a_mo_uses a_mo_best a_mo_tape a_mo_kept m_arcs m_tapeMany m_tokenKind m_tokenAt m_tokenEnd m_tokenValue m_fault m_seen m_isKept m_place m_numbers m_weeks m_routes m_arcFrom m_arcTo m_arcRoom m_arcCost m_far m_by)) ckX7_worth_X7_isPlace_90 (kcX7_isPlace (l := l) G v1 hq) ⟨rfl, rfl, Nat.le_of_ble_eq_true rfl, Nat.le_of_ble_eq_true rfl⟩ [] rfl rfl rfl rfl rfl rfl hl.1 (Nat.le_of_ble_eq_true rfl) ⟨Nat.zero_le _, Nat.zero_le _⟩ dX7_worth_1 (fun H locs hW => ?_)
  refine lv_if_eq (tgt := 34) hx hb dX7_worth_4 (by decide) (fun c3 => ?_) (fun c3 => ?_)
  · have h := (if_pos c3).symm.trans h
    refine lv_iconst hx hb dX7_worth_34 qI_m1 ?_
    obtain rfl := Option.some.inj h
    exact g_iret X hW dX7_worth_35
  · have h := (if_neg c3).symm.trans h
    refine lv_iload_n hx hb dX7_worth_7 rfl (lv_at hl 2 rfl) ?_
    refine lv_iconst hx hb dX7_worth_8 qI_0 ?_
    refine lv_iconst hx hb dX7_worth_9 qI_4 ?_
    obtain ⟨r9, hq, h⟩ := bn1_some h
    refine g_csi X hW (As := [.int v2, .int (0 : Int32), .int (4 : Int32)]) (ws' := (wX7_worth G a_mo a_mo_numbers a_mo_weeks a_mo_routes a_mo_arcFrom a_mo_arcTo a_mo_arcRoom a_mo_arcCost a_mo_far a_mo_by a_mo_boxes a_mo_words a_mo_turns a_mo_leave a_mo_leases a_mo_uses a_mo_best a_mo_tape a_mo_kept m_arcs m_tapeMany m_tokenKind m_tokenAt m_tokenEnd m_tokenValue m_fault m_seen m_isKept m_place m_numbers m_weeks m_routes m_arcFrom m_arcTo m_arcRoom m_arcCost m_far m_by)) ckX7_worth_X7_in_64 (kcX7_in (l := l) G v2 (0 : Int32) (4 : Int32) hq) ⟨rfl, rfl, Nat.le_of_ble_eq_true rfl, Nat.le_of_ble_eq_true rfl⟩ [] rfl rfl rfl rfl rfl rfl hl.1 (Nat.le_of_ble_eq_true rfl) ⟨Nat.zero_le _, Nat.zero_le _⟩ dX7_worth_10 (fun H locs hW => ?_)
    refine lv_if_eq (tgt := 34) hx hb dX7_worth_13 (by decide) (fun c10 => ?_) (fun c10 => ?_)
    · have h := (if_pos c10).symm.trans h
      refine lv_iconst hx hb dX7_worth_34 qI_m1 ?_
      obtain rfl := Option.some.inj h
      exact g_iret X hW dX7_worth_35
    · have h := (if_neg c10).symm.trans h
      refine lv_aload_n hx hb dX7_worth_16 rfl (lv_at hl 0 rfl) ?_
      refine lv_iconst hx hb dX7_worth_17 qI_m1 ?_
      obtain ⟨r15, o15_m_arcs, o15_m_arcFrom, o15_m_arcTo, o15_m_arcRoom, o15_m_arcCost, o15_m_far, o15_m_by, hq, h⟩ := bn8_some h
      refine g_cvi X hW (As := [.int (-1 : Int32)]) (ws' := (wX7_worth G a_mo a_mo_numbers a_mo_weeks a_mo_routes a_mo_arcFrom a_mo_arcTo a_mo_arcRoom a_mo_arcCost a_mo_far a_mo_by a_mo_boxes a_mo_words a_mo_turns a_mo_leave a_mo_leases a_mo_uses a_mo_best a_mo_tape a_mo_kept o15_m_arcs m_tapeMany m_tokenKind m_tokenAt m_tokenEnd m_tokenValue m_fault m_seen m_isKept m_place m_numbers m_weeks m_routes o15_m_arcFrom o15_m_arcTo o15_m_arcRoom o15_m_arcCost o15_m_far o15_m_by)) ckX7_worth_X7_leastWith_126 (kcX7_leastWith (l := l) G a_mo a_mo_numbers a_mo_weeks a_mo_routes a_mo_arcFrom a_mo_arcTo a_mo_arcRoom a_mo_arcCost a_mo_far a_mo_by a_mo_boxes a_mo_words a_mo_turns a_mo_leave a_mo_leases a_mo_uses a_mo_best a_mo_tape a_mo_kept (-1 : Int32) m_arcs m_tapeMany m_tokenKind m_tokenAt m_tokenEnd m_tokenValue m_fault m_seen m_isKept m_place m_numbers m_weeks m_routes m_arcFrom m_arcTo m_arcRoom m_arcCost m_far m_by hq) ⟨rfl, rfl, Nat.le_of_ble_eq_true rfl, Nat.le_of_ble_eq_true rfl⟩ [0, 1, 2, 3, 4, 5, 6, 7, 8, 9] rfl rfl rfl rfl rfl rfl rfl hl.1 (Nat.le_of_ble_eq_true rfl) ⟨Nat.zero_le _, Nat.zero_le _⟩ dX7_worth_18 (fun H locs hW => ?_)
      refine lv_aload_n hx hb dX7_worth_21 rfl (lv_at hl 0 rfl) ?_
      refine lv_iconst hx hb dX7_worth_22 qI_5 ?_
      refine lv_iload_n hx hb dX7_worth_23 rfl (lv_at hl 1 rfl) ?_
      refine lv_imul hx hb dX7_worth_24 ?_
      refine lv_iload_n hx hb dX7_worth_25 rfl (lv_at hl 2 rfl) ?_
      refine lv_iadd hx hb dX7_worth_26 ?_
      obtain ⟨r22, o22_m_arcs, o22_m_arcFrom, o22_m_arcTo, o22_m_arcRoom, o22_m_arcCost, o22_m_far, o22_m_by, hq, h⟩ := bn8_some h
      refine g_cvi X hW (As := [.int (((5 : Int32) * v1) + v2)]) (ws' := (wX7_worth G a_mo a_mo_numbers a_mo_weeks a_mo_routes a_mo_arcFrom a_mo_arcTo a_mo_arcRoom a_mo_arcCost a_mo_far a_mo_by a_mo_boxes a_mo_words a_mo_turns a_mo_leave a_mo_leases a_mo_uses a_mo_best a_mo_tape a_mo_kept o22_m_arcs m_tapeMany m_tokenKind m_tokenAt m_tokenEnd m_tokenValue m_fault m_seen m_isKept m_place m_numbers m_weeks m_routes o22_m_arcFrom o22_m_arcTo o22_m_arcRoom o22_m_arcCost o22_m_far o22_m_by)) ckX7_worth_X7_leastWith_126 (kcX7_leastWith (l := l) G a_mo a_mo_numbers a_mo_weeks a_mo_routes a_mo_arcFrom a_mo_arcTo a_mo_arcRoom a_mo_arcCost a_mo_far a_mo_by a_mo_boxes a_mo_words a_mo_turns a_mo_leave a_mo_leases a_mo_uses a_mo_best a_mo_tape a_mo_kept (((5 : Int32) * v1) + v2) o15_m_arcs m_tapeMany m_tokenKind m_tokenAt m_tokenEnd m_tokenValue m_fault m_seen m_isKept m_place m_numbers m_weeks m_routes o15_m_arcFrom o15_m_arcTo o15_m_arcRoom o15_m_arcCost o15_m_far o15_m_by hq) ⟨rfl, rfl, Nat.le_of_ble_eq_true rfl, Nat.le_of_ble_eq_true rfl⟩ [0, 1, 2, 3, 4, 5, 6, 7, 8, 9] rfl rfl rfl rfl rfl rfl rfl hl.1 (Nat.le_of_ble_eq_true rfl) ⟨Nat.zero_le _, Nat.zero_le _⟩ dX7_worth_27 (fun H locs hW => ?_)
      refine lv_isub hx hb dX7_worth_30 ?_
      refine lv_goto (tgt := 35) hx hb dX7_worth_31 (by decide) ?_
      obtain rfl := Option.some.inj h
      exact g_iret X hW dX7_worth_35
theorem kcX7_worth {l : Launch} (G : Gt) (a_mo a_mo_numbers a_mo_weeks a_mo_routes a_mo_arcFrom a_mo_arcTo a_mo_arcRoom a_mo_arcCost a_mo_far a_mo_by a_mo_boxes a_mo_words a_mo_turns a_mo_leave a_mo_leases a_mo_uses a_mo_best a_mo_tape a_mo_kept : Nat) (v1 : Int32) (v2 : Int32) (m_arcs : Int32) (m_tapeMany : Int32) (m_tokenKind : Int32) (m_tokenAt : Int32) (m_tokenEnd : Int32) (m_tokenValue : Int32) (m_fault : Int32) (m_seen : Int32) (m_isKept : Int32) (m_place : Int32) (m_numbers : (Nat → Int32)) (m_weeks : (Nat → Int32)) (m_routes : (Nat → Int32)) (m_arcFrom : (Nat → Int32)) (m_arcTo : (Nat → Int32)) (m_arcRoom : (Nat → Int32)) (m_arcCost : (Nat → Int32)) (m_far : (Nat → Int32)) (m_by : (Nat → Int32)) {r : Int32} {z_m_arcs : Int32} {z_m_arcFrom : (Nat → Int32)} {z_m_arcTo : (Nat → Int32)} {z_m_arcRoom : (Nat → Int32)} {z_m_arcCost : (Nat → Int32)} {z_m_far : (Nat → Int32)} {z_m_by : (Nat → Int32)} (h : fX7_worth v1 v2 m_arcs m_numbers m_weeks m_routes m_arcFrom m_arcTo m_arcRoom m_arcCost m_far m_by = some (r, z_m_arcs, z_m_arcFrom, z_m_arcTo, z_m_arcRoom, z_m_arcCost, z_m_far, z_m_by)) : CtI G l yX7_worth wsX7_worth rmX7_worth [.ref a_mo, .int v1, .int v2] (wX7_worth G a_mo a_mo_numbers a_mo_weeks a_mo_routes a_mo_arcFrom a_mo_arcTo a_mo_arcRoom a_mo_arcCost a_mo_far a_mo_by a_mo_boxes a_mo_words a_mo_turns a_mo_leave a_mo_leases a_mo_uses a_mo_best a_mo_tape a_mo_kept m_arcs m_tapeMany m_tokenKind m_tokenAt m_tokenEnd m_tokenValue m_fault m_seen m_isKept m_place m_numbers m_weeks m_routes m_arcFrom m_arcTo m_arcRoom m_arcCost m_far m_by) r (wX7_worth G a_mo a_mo_numbers a_mo_weeks a_mo_routes a_mo_arcFrom a_mo_arcTo a_mo_arcRoom a_mo_arcCost a_mo_far a_mo_by a_mo_boxes a_mo_words a_mo_turns a_mo_leave a_mo_leases a_mo_uses a_mo_best a_mo_tape a_mo_kept z_m_arcs m_tapeMany m_tokenKind m_tokenAt m_tokenEnd m_tokenValue m_fault m_seen m_isKept m_place m_numbers m_weeks m_routes z_m_arcFrom z_m_arcTo z_m_arcRoom z_m_arcCost z_m_far z_m_by) := k0X7_worth G a_mo a_mo_numbers a_mo_weeks a_mo_routes a_mo_arcFrom a_mo_arcTo a_mo_arcRoom a_mo_arcCost a_mo_far a_mo_by a_mo_boxes a_mo_words a_mo_turns a_mo_leave a_mo_leases a_mo_uses a_mo_best a_mo_tape a_mo_kept v1 v2 m_arcs m_tapeMany m_tokenKind m_tokenAt m_tokenEnd m_tokenValue m_fault m_seen m_isKept m_place m_numbers m_weeks m_routes m_arcFrom m_arcTo m_arcRoom m_arcCost m_far m_by h
end MX7_worth
/-! EmptyBoxesModel.turn -/
section MX7_turn
theorem hdX7_turn : yX7_turn.cls = RX7 ∧ yX7_turn.cls ≠ "java/lang/invoke/MethodHandle" ∧ yX7_turn.cls ≠ "java/lang/invoke/VarHandle" ∧ (parseMethodDescriptor yX7_turn.desc).map (fun d => d.parameters.length) = some 6 := by decide +kernel
abbrev wX7_turn (G : Gt) (a_mo a_mo_numbers a_mo_turns a_mo_boxes a_mo_words a_mo_weeks a_mo_routes a_mo_leave a_mo_leases a_mo_uses a_mo_arcFrom a_mo_arcTo a_mo_arcRoom a_mo_arcCost a_mo_far a_mo_by a_mo_best a_mo_tape a_mo_kept : Nat) (m_arcs : Int32) (m_tapeMany : Int32) (m_tokenKind : Int32) (m_tokenAt : Int32) (m_tokenEnd : Int32) (m_tokenValue : Int32) (m_fault : Int32) (m_seen : Int32) (m_isKept : Int32) (m_place : Int32) (m_numbers : (Nat → Int32)) (m_turns : (Nat → Int32)) : va_W := [(a_mo, .inr (7, [.ref a_mo_numbers, .ref a_mo_boxes, .ref a_mo_words, .ref a_mo_weeks, .ref a_mo_routes, .ref a_mo_turns, .ref a_mo_leave, .ref a_mo_leases, .ref a_mo_uses, .ref a_mo_arcFrom, .ref a_mo_arcTo, .ref a_mo_arcRoom, .ref a_mo_arcCost, .int m_arcs, .ref a_mo_far, .ref a_mo_by, .ref a_mo_best, .ref a_mo_tape, .int m_tapeMany, .int m_tokenKind, .int m_tokenAt, .int m_tokenEnd, .int m_tokenValue, .int m_fault, .int m_seen, .int m_isKept, .ref a_mo_kept, .int m_place])), (a_mo_numbers, .inl (G.2.1, 10, .inl m_numbers)), (a_mo_turns, .inl (G.2.1, 70, .inl m_turns))]
abbrev rmX7_turn : Room := { frames := 2, cells := 0, slots := 0, locals := 42 }
theorem iX7_turn_X7 : ∀ w ∈ wsX70, w ∈ wsX7_turn := by decide +kernel
theorem eX7_turn_25 : Fk wsX7_turn RX7 25 7 5 := ⟨RX7, TX7, 28, rfl, iX7_turn_X7, by decide, by decide +kernel⟩
theorem eX7_turn_7 : Fk wsX7_turn RX7 7 7 0 := ⟨RX7, TX7, 28, rfl, iX7_turn_X7, by decide, by decide +kernel⟩
theorem ckX7_turn_X7_in_64 : CkS wsX7_turn RX7 64 yX7_in wsX7_in cX7_in 3 (some .boolean) 3 := ⟨_, gX7_turn_X7_in, rfl, hdX7_in.2⟩
theorem ckX7_turn_X7_isDay_97 : CkS wsX7_turn RX7 97 yX7_isDay wsX7_isDay cX7_isDay 1 (some .boolean) 1 := ⟨_, gX7_turn_X7_isDay, rfl, hdX7_isDay.2⟩
theorem ckX7_turn_X7_isLine_72 : CkS wsX7_turn RX7 72 yX7_isLine wsX7_isLine cX7_isLine 1 (some .boolean) 1 := ⟨_, gX7_turn_X7_isLine, rfl, hdX7_isLine.2⟩
theorem ckX7_turn_X7_isPlace_90 : CkS wsX7_turn RX7 90 yX7_isPlace wsX7_isPlace cX7_isPlace 1 (some .boolean) 1 := ⟨_, gX7_turn_X7_isPlace, rfl, hdX7_isPlace.2⟩
variable {p : Program} {l : Launch} {e : Env} {s : State} {m : MethodId} {args : Array Value} {below : List Frame} {meth : Method} {c : Code} {A : Nat → Prop} {G : Gt} {a_mo a_mo_numbers a_mo_turns a_mo_boxes a_mo_words a_mo_weeks a_mo_routes a_mo_leave a_mo_leases a_mo_uses a_mo_arcFrom a_mo_arcTo a_mo_arcRoom a_mo_arcCost a_mo_far a_mo_by a_mo_best a_mo_tape a_mo_kept : Nat} {m_arcs : Int32} {m_tapeMany : Int32} {m_tokenKind : Int32} {m_tokenAt : Int32} {m_tokenEnd : Int32} {m_tokenValue : Int32} {m_fault : Int32} {m_seen : Int32} {m_isKept : Int32} {m_place : Int32} {res : Int32 × (Nat → Int32) × (Nat → Int32)}
set_option maxHeartbeats 4000000 in
set_option maxRecDepth 100000 in
theorem tX7_turn_94 (X : Bx p s m args meth c cX7_turn 9 wsX7_turn RX7 (some .int)) (v2 : Int32) (v3 : Int32) (v4 : Int32) (v5 : Int32) (v6 : Int32) (v7 : Int32) (t0 : Int32) (t1 : Int32) (m_numbers : (Nat → Int32)) (m_turns : (Nat → Int32))   (h : fX7_turn_94 v2 v3 v4 v5 v6 v7 t0 t1 m_numbers m_turns = some res) : ∀ (H : Heap) (locs : List Loc), Wo G A s (wX7_turn G a_mo a_mo_numbers a_mo_turns a_mo_boxes a_mo_words a_mo_weeks a_mo_routes a_mo_leave a_mo_leases a_mo_uses a_mo_arcFrom a_mo_arcTo a_mo_arcRoom a_mo_arcCost a_mo_far a_mo_by a_mo_best a_mo_tape a_mo_kept m_arcs m_tapeMany m_tokenKind m_tokenAt m_tokenEnd m_tokenValue m_fault m_seen m_isKept m_place m_numbers m_turns) H locs → ∀ ls : Array Slot, lv_has ls 9 [(0, .ref a_mo), (2, .int v2), (3, .int v3), (4, .int v4), (5, .int v5), (6, .int v6), (7, .int v7)] → W p l e rmX7_turn s m args below meth c H locs 0 0 (QI G A below args s res.1 (wX7_turn G a_mo a_mo_numbers a_mo_turns a_mo_boxes a_mo_words a_mo_weeks a_mo_routes a_mo_leave a_mo_leases a_mo_uses a_mo_arcFrom a_mo_arcTo a_mo_arcRoom a_mo_arcCost a_mo_far a_mo_by a_mo_best a_mo_tape a_mo_kept m_arcs m_tapeMany m_tokenKind m_tokenAt m_tokenEnd m_tokenValue m_fault m_seen m_isKept m_place res.2.1 res.2.2)) (F0 m 94 ls [.int t1, .int t0]) := by
  obtain ⟨hx, hb, -⟩ := id X.1
  intro H locs hW ls hl
  rw [fX7_turn_94] at h
  refine lv_iadd hx hb dX7_turn_94 ?_
  refine lv_istore (lv' := [(8, .int (t0 + t1)), (0, .ref a_mo), (2, .int v2), (3, .int v3), (4, .int v4), (5, .int v5), (6, .int v6), (7, .int v7)]) hx hb dX7_turn_95 hl (by decide) rfl (fun ls hl => ?_)
  refine lv_aload_n hx hb dX7_turn_97 rfl (lv_at hl 1 rfl) ?_
  refine g_get X hW eX7_turn_25 0 rfl rfl dX7_turn_98 ?_
  refine lv_iload hx hb dX7_turn_101 (lv_at hl 0 rfl) ?_
  refine lv_iload_n hx hb dX7_turn_103 rfl (lv_at hl 2 rfl) ?_
  obtain ⟨g7, h⟩ := gd_some h
  refine g_ast X hW (ws' := (wX7_turn G a_mo a_mo_numbers a_mo_turns a_mo_boxes a_mo_words a_mo_weeks a_mo_routes a_mo_leave a_mo_leases a_mo_uses a_mo_arcFrom a_mo_arcTo a_mo_arcRoom a_mo_arcCost a_mo_far a_mo_by a_mo_best a_mo_tape a_mo_kept m_arcs m_tapeMany m_tokenKind m_tokenAt m_tokenEnd m_tokenValue m_fault m_seen m_isKept m_place m_numbers (upd m_turns (t0 + t1).toNatClampNeg v2))) 2 rfl g7 rfl dX7_turn_104 (fun H locs hW => ?_)
  refine lv_aload_n hx hb dX7_turn_105 rfl (lv_at hl 1 rfl) ?_
  refine g_get X hW eX7_turn_25 0 rfl rfl dX7_turn_106 ?_
  refine lv_iload hx hb dX7_turn_109 (lv_at hl 0 rfl) ?_
  refine lv_iconst hx hb dX7_turn_111 qI_1 ?_
  refine lv_iadd hx hb dX7_turn_112 ?_
  refine lv_iload_n hx hb dX7_turn_113 rfl (lv_at hl 3 rfl) ?_
  obtain ⟨g14, h⟩ := gd_some h
  refine g_ast X hW (ws' := (wX7_turn G a_mo a_mo_numbers a_mo_turns a_mo_boxes a_mo_words a_mo_weeks a_mo_routes a_mo_leave a_mo_leases a_mo_uses a_mo_arcFrom a_mo_arcTo a_mo_arcRoom a_mo_arcCost a_mo_far a_mo_by a_mo_best a_mo_tape a_mo_kept m_arcs m_tapeMany m_tokenKind m_tokenAt m_tokenEnd m_tokenValue m_fault m_seen m_isKept m_place m_numbers (upd (upd m_turns (t0 + t1).toNatClampNeg v2) ((t0 + t1) + (1 : Int32)).toNatClampNeg v3))) 2 rfl g14 rfl dX7_turn_114 (fun H locs hW => ?_)
  refine lv_aload_n hx hb dX7_turn_115 rfl (lv_at hl 1 rfl) ?_
  refine g_get X hW eX7_turn_25 0 rfl rfl dX7_turn_116 ?_
  refine lv_iload hx hb dX7_turn_119 (lv_at hl 0 rfl) ?_
  refine lv_iconst hx hb dX7_turn_121 qI_2 ?_
  refine lv_iadd hx hb dX7_turn_122 ?_
  refine lv_iload hx hb dX7_turn_123 (lv_at hl 4 rfl) ?_
  obtain ⟨g21, h⟩ := gd_some h
  refine g_ast X hW (ws' := (wX7_turn G a_mo a_mo_numbers a_mo_turns a_mo_boxes a_mo_words a_mo_weeks a_mo_routes a_mo_leave a_mo_leases a_mo_uses a_mo_arcFrom a_mo_arcTo a_mo_arcRoom a_mo_arcCost a_mo_far a_mo_by a_mo_best a_mo_tape a_mo_kept m_arcs m_tapeMany m_tokenKind m_tokenAt m_tokenEnd m_tokenValue m_fault m_seen m_isKept m_place m_numbers (upd (upd (upd m_turns (t0 + t1).toNatClampNeg v2) ((t0 + t1) + (1 : Int32)).toNatClampNeg v3) ((t0 + t1) + (2 : Int32)).toNatClampNeg v4))) 2 rfl g21 rfl dX7_turn_125 (fun H locs hW => ?_)
  refine lv_aload_n hx hb dX7_turn_126 rfl (lv_at hl 1 rfl) ?_
  refine g_get X hW eX7_turn_25 0 rfl rfl dX7_turn_127 ?_
  refine lv_iload hx hb dX7_turn_130 (lv_at hl 0 rfl) ?_
  refine lv_iconst hx hb dX7_turn_132 qI_3 ?_
  refine lv_iadd hx hb dX7_turn_133 ?_
  refine lv_iload hx hb dX7_turn_134 (lv_at hl 5 rfl) ?_
  obtain ⟨g28, h⟩ := gd_some h
  refine g_ast X hW (ws' := (wX7_turn G a_mo a_mo_numbers a_mo_turns a_mo_boxes a_mo_words a_mo_weeks a_mo_routes a_mo_leave a_mo_leases a_mo_uses a_mo_arcFrom a_mo_arcTo a_mo_arcRoom a_mo_arcCost a_mo_far a_mo_by a_mo_best a_mo_tape a_mo_kept m_arcs m_tapeMany m_tokenKind m_tokenAt m_tokenEnd m_tokenValue m_fault m_seen m_isKept m_place m_numbers (upd (upd (upd (upd m_turns (t0 + t1).toNatClampNeg v2) ((t0 + t1) + (1 : Int32)).toNatClampNeg v3) ((t0 + t1) + (2 : Int32)).toNatClampNeg v4) ((t0 + t1) + (3 : Int32)).toNatClampNeg v5))) 2 rfl g28 rfl dX7_turn_136 (fun H locs hW => ?_)
  refine lv_aload_n hx hb dX7_turn_137 rfl (lv_at hl 1 rfl) ?_
  refine g_get X hW eX7_turn_25 0 rfl rfl dX7_turn_138 ?_
  refine lv_iload hx hb dX7_turn_141 (lv_at hl 0 rfl) ?_
  refine lv_iconst hx hb dX7_turn_143 qI_4 ?_
  refine lv_iadd hx hb dX7_turn_144 ?_
  refine lv_iload hx hb dX7_turn_145 (lv_at hl 6 rfl) ?_
  obtain ⟨g35, h⟩ := gd_some h
  refine g_ast X hW (ws' := (wX7_turn G a_mo a_mo_numbers a_mo_turns a_mo_boxes a_mo_words a_mo_weeks a_mo_routes a_mo_leave a_mo_leases a_mo_uses a_mo_arcFrom a_mo_arcTo a_mo_arcRoom a_mo_arcCost a_mo_far a_mo_by a_mo_best a_mo_tape a_mo_kept m_arcs m_tapeMany m_tokenKind m_tokenAt m_tokenEnd m_tokenValue m_fault m_seen m_isKept m_place m_numbers (upd (upd (upd (upd (upd m_turns (t0 + t1).toNatClampNeg v2) ((t0 + t1) + (1 : Int32)).toNatClampNeg v3) ((t0 + t1) + (2 : Int32)).toNatClampNeg v4) ((t0 + t1) + (3 : Int32)).toNatClampNeg v5) ((t0 + t1) + (4 : Int32)).toNatClampNeg v6))) 2 rfl g35 rfl dX7_turn_147 (fun H locs hW => ?_)
  refine lv_aload_n hx hb dX7_turn_148 rfl (lv_at hl 1 rfl) ?_
  refine g_get X hW eX7_turn_7 0 rfl rfl dX7_turn_149 ?_
  refine lv_iload hx hb dX7_turn_152 (lv_at hl 7 rfl) ?_
  refine lv_dup2_11 hx hb dX7_turn_154 rfl rfl ?_
  obtain ⟨g40, h⟩ := gd_some h
  refine g_ald X hW 1 rfl g40 dX7_turn_155 ?_
  refine lv_iconst hx hb dX7_turn_156 qI_1 ?_
  refine lv_iadd hx hb dX7_turn_157 ?_
  obtain ⟨g43, h⟩ := gd_some h
  refine g_ast X hW (ws' := (wX7_turn G a_mo a_mo_numbers a_mo_turns a_mo_boxes a_mo_words a_mo_weeks a_mo_routes a_mo_leave a_mo_leases a_mo_uses a_mo_arcFrom a_mo_arcTo a_mo_arcRoom a_mo_arcCost a_mo_far a_mo_by a_mo_best a_mo_tape a_mo_kept m_arcs m_tapeMany m_tokenKind m_tokenAt m_tokenEnd m_tokenValue m_fault m_seen m_isKept m_place (upd m_numbers v7.toNatClampNeg ((m_numbers v7.toNatClampNeg) + (1 : Int32))) (upd (upd (upd (upd (upd m_turns (t0 + t1).toNatClampNeg v2) ((t0 + t1) + (1 : Int32)).toNatClampNeg v3) ((t0 + t1) + (2 : Int32)).toNatClampNeg v4) ((t0 + t1) + (3 : Int32)).toNatClampNeg v5) ((t0 + t1) + (4 : Int32)).toNatClampNeg v6))) 1 rfl g43 rfl dX7_turn_158 (fun H locs hW => ?_)
  refine lv_aload_n hx hb dX7_turn_159 rfl (lv_at hl 1 rfl) ?_
  refine g_get X hW eX7_turn_7 0 rfl rfl dX7_turn_160 ?_
  refine lv_iload hx hb dX7_turn_163 (lv_at hl 7 rfl) ?_
  obtain ⟨g47, h⟩ := gd_some h
  refine g_ald X hW 1 rfl g47 dX7_turn_165 ?_
  refine lv_iconst hx hb dX7_turn_166 qI_1 ?_
  refine lv_isub hx hb dX7_turn_167 ?_
  obtain rfl := Option.some.inj h
  exact g_iret X hW dX7_turn_168
set_option maxHeartbeats 4000000 in
set_option maxRecDepth 100000 in
theorem tX7_turn_58 (X : Bx p s m args meth c cX7_turn 9 wsX7_turn RX7 (some .int)) (v1 : Int32) (v2 : Int32) (v3 : Int32) (v4 : Int32) (v5 : Int32) (v6 : Int32) (t0 : Int32) (m_numbers : (Nat → Int32)) (m_turns : (Nat → Int32))   (h : fX7_turn_58 v1 v2 v3 v4 v5 v6 t0 m_numbers m_turns = some res) : ∀ (H : Heap) (locs : List Loc), Wo G A s (wX7_turn G a_mo a_mo_numbers a_mo_turns a_mo_boxes a_mo_words a_mo_weeks a_mo_routes a_mo_leave a_mo_leases a_mo_uses a_mo_arcFrom a_mo_arcTo a_mo_arcRoom a_mo_arcCost a_mo_far a_mo_by a_mo_best a_mo_tape a_mo_kept m_arcs m_tapeMany m_tokenKind m_tokenAt m_tokenEnd m_tokenValue m_fault m_seen m_isKept m_place m_numbers m_turns) H locs → ∀ ls : Array Slot, lv_has ls 9 [(0, .ref a_mo), (1, .int v1), (2, .int v2), (3, .int v3), (4, .int v4), (5, .int v5), (6, .int v6)] → W p l e rmX7_turn s m args below meth c H locs 0 0 (QI G A below args s res.1 (wX7_turn G a_mo a_mo_numbers a_mo_turns a_mo_boxes a_mo_words a_mo_weeks a_mo_routes a_mo_leave a_mo_leases a_mo_uses a_mo_arcFrom a_mo_arcTo a_mo_arcRoom a_mo_arcCost a_mo_far a_mo_by a_mo_best a_mo_tape a_mo_kept m_arcs m_tapeMany m_tokenKind m_tokenAt m_tokenEnd m_tokenValue m_fault m_seen m_isKept m_place res.2.1 res.2.2)) (F0 m 58 ls [.int t0]) := by
  obtain ⟨hx, hb, -⟩ := id X.1
  intro H locs hW ls hl
  rw [fX7_turn_58] at h
  refine lv_istore (lv' := [(7, .int t0), (0, .ref a_mo), (1, .int v1), (2, .int v2), (3, .int v3), (4, .int v4), (5, .int v5), (6, .int v6)]) hx hb dX7_turn_58 hl (by decide) rfl (fun ls hl => ?_)
  refine lv_aload_n hx hb dX7_turn_60 rfl (lv_at hl 1 rfl) ?_
  refine g_get X hW eX7_turn_7 0 rfl rfl dX7_turn_61 ?_
  refine lv_iload hx hb dX7_turn_64 (lv_at hl 0 rfl) ?_
  obtain ⟨g55, h⟩ := gd_some h
  refine g_ald X hW 1 rfl g55 dX7_turn_66 ?_
  refine lv_bipush hx hb dX7_turn_67 qB_7 ?_
  refine lv_icmp_ne (tgt := 75) hx hb dX7_turn_69 (by decide) (fun c57 => ?_) (fun c57 => ?_)
  · have h := (if_neg c57).symm.trans h
    refine lv_iconst hx hb dX7_turn_75 qI_5 ?_
    refine lv_aload_n hx hb dX7_turn_76 rfl (lv_at hl 1 rfl) ?_
    refine g_get X hW eX7_turn_7 0 rfl rfl dX7_turn_77 ?_
    refine lv_iload hx hb dX7_turn_80 (lv_at hl 0 rfl) ?_
    obtain ⟨g62, h⟩ := gd_some h
    refine g_ald X hW 1 rfl g62 dX7_turn_82 ?_
    refine lv_imul hx hb dX7_turn_83 ?_
    refine lv_iload_n hx hb dX7_turn_84 rfl (lv_at hl 2 rfl) ?_
    refine lv_if_eq (tgt := 93) hx hb dX7_turn_85 (by decide) (fun c65 => ?_) (fun c65 => ?_)
    · have h := (if_pos c65).symm.trans h
      refine lv_iconst hx hb dX7_turn_93 qI_0 ?_
      exact tX7_turn_94 X v2 v3 v4 v5 v6 t0 ((5 : Int32) * (m_numbers t0.toNatClampNeg)) (0 : Int32) m_numbers m_turns h H locs hW ls (lv_sub hl [1, 3, 4, 5, 6, 7, 0] rfl)
    · have h := (if_neg c65).symm.trans h
      refine lv_bipush hx hb dX7_turn_88 qB_35 ?_
      refine lv_goto (tgt := 94) hx hb dX7_turn_90 (by decide) ?_
      exact tX7_turn_94 X v2 v3 v4 v5 v6 t0 ((5 : Int32) * (m_numbers t0.toNatClampNeg)) (35 : Int32) m_numbers m_turns h H locs hW ls (lv_sub hl [1, 3, 4, 5, 6, 7, 0] rfl)
  · have h := (if_pos c57).symm.trans h
    refine lv_bipush hx hb dX7_turn_72 qB_m2 ?_
    obtain rfl := Option.some.inj h
    exact g_iret X hW dX7_turn_74
set_option maxHeartbeats 4000000 in
set_option maxRecDepth 100000 in
theorem k0X7_turn {l : Launch} (G : Gt) (a_mo a_mo_numbers a_mo_turns a_mo_boxes a_mo_words a_mo_weeks a_mo_routes a_mo_leave a_mo_leases a_mo_uses a_mo_arcFrom a_mo_arcTo a_mo_arcRoom a_mo_arcCost a_mo_far a_mo_by a_mo_best a_mo_tape a_mo_kept : Nat) (v1 : Int32) (v2 : Int32) (v3 : Int32) (v4 : Int32) (v5 : Int32) (v6 : Int32) (m_arcs : Int32) (m_tapeMany : Int32) (m_tokenKind : Int32) (m_tokenAt : Int32) (m_tokenEnd : Int32) (m_tokenValue : Int32) (m_fault : Int32) (m_seen : Int32) (m_isKept : Int32) (m_place : Int32) (m_numbers : (Nat → Int32)) (m_turns : (Nat → Int32)) {res : Int32 × (Nat → Int32) × (Nat → Int32)} (h : fX7_turn v1 v2 v3 v4 v5 v6 m_numbers m_turns = some res) : CtI G l yX7_turn wsX7_turn rmX7_turn [.ref a_mo, .int v1, .int v2, .int v3, .int v4, .int v5, .int v6] (wX7_turn G a_mo a_mo_numbers a_mo_turns a_mo_boxes a_mo_words a_mo_weeks a_mo_routes a_mo_leave a_mo_leases a_mo_uses a_mo_arcFrom a_mo_arcTo a_mo_arcRoom a_mo_arcCost a_mo_far a_mo_by a_mo_best a_mo_tape a_mo_kept m_arcs m_tapeMany m_tokenKind m_tokenAt m_tokenEnd m_tokenValue m_fault m_seen m_isKept m_place m_numbers m_turns) res.1 (wX7_turn G a_mo a_mo_numbers a_mo_turns a_mo_boxes a_mo_words a_mo_weeks a_mo_routes a_mo_leave a_mo_leases a_mo_uses a_mo_arcFrom a_mo_arcTo a_mo_arcRoom a_mo_arcCost a_mo_far a_mo_by a_mo_best a_mo_tape a_mo_kept m_arcs m_tapeMany m_tokenKind m_tokenAt m_tokenEnd m_tokenValue m_fault m_seen m_isKept m_place res.2.1 res.2.2) := by
  refine CtI.mk (cc := cX7_turn) (maxL := 9) (ret := (some .int)) (own := RX7) (by decide) rfl rfl (Nat.le_of_ble_eq_true rfl) ?_
  intro p e s m below meth c A X ls hl hW
  obtain ⟨hx, hb, -⟩ := id X.1
  have hl : lv_has ls 9 [(0, .ref a_mo), (1, .int v1), (2, .int v2), (3, .int v3), (4, .int v4), (5, .int v5), (6, .int v6)] := hl
  generalize hH : s.heap = H at hW ⊢
  generalize hLo : ([] : List Loc) = locs at hW ⊢
  rw [fX7_turn] at h
  refine lv_iload_n hx hb dX7_turn_0 rfl (lv_at hl 2 rfl) ?_
  obtain ⟨r72, hq, h⟩ := bn1_some h
  refine g_csi X hW (As := [.int v2]) (ws' := (wX7_turn G a_mo a_mo_numbers a_mo_turns a_mo_boxes a_mo_words a_mo_weeks a_mo_routes a_mo_leave a_mo_leases a_mo_uses a_mo_arcFrom a_mo_arcTo a_mo_arcRoom a_mo_arcCost a_mo_far a_mo_by a_mo_best a_mo_tape a_mo_kept m_arcs m_tapeMany m_tokenKind m_tokenAt m_tokenEnd m_tokenValue m_fault m_seen m_isKept m_place m_numbers m_turns)) ckX7_turn_X7_isPlace_90 (kcX7_isPlace (l := l) G v2 hq) ⟨rfl, rfl, Nat.le_of_ble_eq_true rfl, Nat.le_of_ble_eq_true rfl⟩ [] rfl rfl rfl rfl rfl rfl hl.1 (Nat.le_of_ble_eq_true rfl) ⟨Nat.zero_le _, Nat.zero_le _⟩ dX7_turn_1 (fun H locs hW => ?_)
  refine lv_if_eq (tgt := 47) hx hb dX7_turn_4 (by decide) (fun c73 => ?_) (fun c73 => ?_)
  · have h := (if_pos c73).symm.trans h
    refine lv_iconst hx hb dX7_turn_47 qI_m1 ?_
    obtain rfl := Option.some.inj h
    exact g_iret X hW dX7_turn_48
  · have h := (if_neg c73).symm.trans h
    refine lv_iload_n hx hb dX7_turn_7 rfl (lv_at hl 3 rfl) ?_
    obtain ⟨r77, hq, h⟩ := bn1_some h
    refine g_csi X hW (As := [.int v3]) (ws' := (wX7_turn G a_mo a_mo_numbers a_mo_turns a_mo_boxes a_mo_words a_mo_weeks a_mo_routes a_mo_leave a_mo_leases a_mo_uses a_mo_arcFrom a_mo_arcTo a_mo_arcRoom a_mo_arcCost a_mo_far a_mo_by a_mo_best a_mo_tape a_mo_kept m_arcs m_tapeMany m_tokenKind m_tokenAt m_tokenEnd m_tokenValue m_fault m_seen m_isKept m_place m_numbers m_turns)) ckX7_turn_X7_isLine_72 (kcX7_isLine (l := l) G v3 hq) ⟨rfl, rfl, Nat.le_of_ble_eq_true rfl, Nat.le_of_ble_eq_true rfl⟩ [] rfl rfl rfl rfl rfl rfl hl.1 (Nat.le_of_ble_eq_true rfl) ⟨Nat.zero_le _, Nat.zero_le _⟩ dX7_turn_8 (fun H locs hW => ?_)
    refine lv_if_eq (tgt := 47) hx hb dX7_turn_11 (by decide) (fun c78 => ?_) (fun c78 => ?_)
    · have h := (if_pos c78).symm.trans h
      refine lv_iconst hx hb dX7_turn_47 qI_m1 ?_
      obtain rfl := Option.some.inj h
      exact g_iret X hW dX7_turn_48
    · have h := (if_neg c78).symm.trans h
      refine lv_iload hx hb dX7_turn_14 (lv_at hl 4 rfl) ?_
      refine lv_iconst hx hb dX7_turn_16 qI_0 ?_
      refine lv_iconst hx hb dX7_turn_17 qI_2 ?_
      obtain ⟨r84, hq, h⟩ := bn1_some h
      refine g_csi X hW (As := [.int v4, .int (0 : Int32), .int (2 : Int32)]) (ws' := (wX7_turn G a_mo a_mo_numbers a_mo_turns a_mo_boxes a_mo_words a_mo_weeks a_mo_routes a_mo_leave a_mo_leases a_mo_uses a_mo_arcFrom a_mo_arcTo a_mo_arcRoom a_mo_arcCost a_mo_far a_mo_by a_mo_best a_mo_tape a_mo_kept m_arcs m_tapeMany m_tokenKind m_tokenAt m_tokenEnd m_tokenValue m_fault m_seen m_isKept m_place m_numbers m_turns)) ckX7_turn_X7_in_64 (kcX7_in (l := l) G v4 (0 : Int32) (2 : Int32) hq) ⟨rfl, rfl, Nat.le_of_ble_eq_true rfl, Nat.le_of_ble_eq_true rfl⟩ [] rfl rfl rfl rfl rfl rfl hl.1 (Nat.le_of_ble_eq_true rfl) ⟨Nat.zero_le _, Nat.zero_le _⟩ dX7_turn_18 (fun H locs hW => ?_)
      refine lv_if_eq (tgt := 47) hx hb dX7_turn_21 (by decide) (fun c85 => ?_) (fun c85 => ?_)
      · have h := (if_pos c85).symm.trans h
        refine lv_iconst hx hb dX7_turn_47 qI_m1 ?_
        obtain rfl := Option.some.inj h
        exact g_iret X hW dX7_turn_48
      · have h := (if_neg c85).symm.trans h
        refine lv_iload hx hb dX7_turn_24 (lv_at hl 5 rfl) ?_
        obtain ⟨r89, hq, h⟩ := bn1_some h
        refine g_csi X hW (As := [.int v5]) (ws' := (wX7_turn G a_mo a_mo_numbers a_mo_turns a_mo_boxes a_mo_words a_mo_weeks a_mo_routes a_mo_leave a_mo_leases a_mo_uses a_mo_arcFrom a_mo_arcTo a_mo_arcRoom a_mo_arcCost a_mo_far a_mo_by a_mo_best a_mo_tape a_mo_kept m_arcs m_tapeMany m_tokenKind m_tokenAt m_tokenEnd m_tokenValue m_fault m_seen m_isKept m_place m_numbers m_turns)) ckX7_turn_X7_isDay_97 (kcX7_isDay (l := l) G v5 hq) ⟨rfl, rfl, Nat.le_of_ble_eq_true rfl, Nat.le_of_ble_eq_true rfl⟩ [] rfl rfl rfl rfl rfl rfl hl.1 (Nat.le_of_ble_eq_true rfl) ⟨Nat.zero_le _, Nat.zero_le _⟩ dX7_turn_26 (fun H locs hW => ?_)
        refine lv_if_eq (tgt := 47) hx hb dX7_turn_29 (by decide) (fun c90 => ?_) (fun c90 => ?_)
        · have h := (if_pos c90).symm.trans h
          refine lv_iconst hx hb dX7_turn_47 qI_m1 ?_
          obtain rfl := Option.some.inj h
          exact g_iret X hW dX7_turn_48
        · have h := (if_neg c90).symm.trans h
          refine lv_iload hx hb dX7_turn_32 (lv_at hl 6 rfl) ?_
          obtain ⟨r94, hq, h⟩ := bn1_some h
          refine g_csi X hW (As := [.int v6]) (ws' := (wX7_turn G a_mo a_mo_numbers a_mo_turns a_mo_boxes a_mo_words a_mo_weeks a_mo_routes a_mo_leave a_mo_leases a_mo_uses a_mo_arcFrom a_mo_arcTo a_mo_arcRoom a_mo_arcCost a_mo_far a_mo_by a_mo_best a_mo_tape a_mo_kept m_arcs m_tapeMany m_tokenKind m_tokenAt m_tokenEnd m_tokenValue m_fault m_seen m_isKept m_place m_numbers m_turns)) ckX7_turn_X7_isDay_97 (kcX7_isDay (l := l) G v6 hq) ⟨rfl, rfl, Nat.le_of_ble_eq_true rfl, Nat.le_of_ble_eq_true rfl⟩ [] rfl rfl rfl rfl rfl rfl hl.1 (Nat.le_of_ble_eq_true rfl) ⟨Nat.zero_le _, Nat.zero_le _⟩ dX7_turn_34 (fun H locs hW => ?_)
          refine lv_if_eq (tgt := 47) hx hb dX7_turn_37 (by decide) (fun c95 => ?_) (fun c95 => ?_)
          · have h := (if_pos c95).symm.trans h
            refine lv_iconst hx hb dX7_turn_47 qI_m1 ?_
            obtain rfl := Option.some.inj h
            exact g_iret X hW dX7_turn_48
          · have h := (if_neg c95).symm.trans h
            refine lv_iload hx hb dX7_turn_40 (lv_at hl 6 rfl) ?_
            refine lv_iload hx hb dX7_turn_42 (lv_at hl 5 rfl) ?_
            refine lv_icmp_ge (tgt := 49) hx hb dX7_turn_44 (by decide) (fun c100 => ?_) (fun c100 => ?_)
            · have h := (if_pos c100).symm.trans h
              refine lv_iload_n hx hb dX7_turn_49 rfl (lv_at hl 1 rfl) ?_
              refine lv_if_eq (tgt := 57) hx hb dX7_turn_50 (by decide) (fun c102 => ?_) (fun c102 => ?_)
              · have h := (if_pos c102).symm.trans h
                refine lv_iconst hx hb dX7_turn_57 qI_4 ?_
                exact tX7_turn_58 X v1 v2 v3 v4 v5 v6 (4 : Int32) m_numbers m_turns h H locs hW ls hl
              · have h := (if_neg c102).symm.trans h
                refine lv_iconst hx hb dX7_turn_53 qI_5 ?_
                refine lv_goto (tgt := 58) hx hb dX7_turn_54 (by decide) ?_
                exact tX7_turn_58 X v1 v2 v3 v4 v5 v6 (5 : Int32) m_numbers m_turns h H locs hW ls hl
            · have h := (if_neg c100).symm.trans h
              refine lv_iconst hx hb dX7_turn_47 qI_m1 ?_
              obtain rfl := Option.some.inj h
              exact g_iret X hW dX7_turn_48
theorem kcX7_turn {l : Launch} (G : Gt) (a_mo a_mo_numbers a_mo_turns a_mo_boxes a_mo_words a_mo_weeks a_mo_routes a_mo_leave a_mo_leases a_mo_uses a_mo_arcFrom a_mo_arcTo a_mo_arcRoom a_mo_arcCost a_mo_far a_mo_by a_mo_best a_mo_tape a_mo_kept : Nat) (v1 : Int32) (v2 : Int32) (v3 : Int32) (v4 : Int32) (v5 : Int32) (v6 : Int32) (m_arcs : Int32) (m_tapeMany : Int32) (m_tokenKind : Int32) (m_tokenAt : Int32) (m_tokenEnd : Int32) (m_tokenValue : Int32) (m_fault : Int32) (m_seen : Int32) (m_isKept : Int32) (m_place : Int32) (m_numbers : (Nat → Int32)) (m_turns : (Nat → Int32)) {r : Int32} {z_m_numbers : (Nat → Int32)} {z_m_turns : (Nat → Int32)} (h : fX7_turn v1 v2 v3 v4 v5 v6 m_numbers m_turns = some (r, z_m_numbers, z_m_turns)) : CtI G l yX7_turn wsX7_turn rmX7_turn [.ref a_mo, .int v1, .int v2, .int v3, .int v4, .int v5, .int v6] (wX7_turn G a_mo a_mo_numbers a_mo_turns a_mo_boxes a_mo_words a_mo_weeks a_mo_routes a_mo_leave a_mo_leases a_mo_uses a_mo_arcFrom a_mo_arcTo a_mo_arcRoom a_mo_arcCost a_mo_far a_mo_by a_mo_best a_mo_tape a_mo_kept m_arcs m_tapeMany m_tokenKind m_tokenAt m_tokenEnd m_tokenValue m_fault m_seen m_isKept m_place m_numbers m_turns) r (wX7_turn G a_mo a_mo_numbers a_mo_turns a_mo_boxes a_mo_words a_mo_weeks a_mo_routes a_mo_leave a_mo_leases a_mo_uses a_mo_arcFrom a_mo_arcTo a_mo_arcRoom a_mo_arcCost a_mo_far a_mo_by a_mo_best a_mo_tape a_mo_kept m_arcs m_tapeMany m_tokenKind m_tokenAt m_tokenEnd m_tokenValue m_fault m_seen m_isKept m_place z_m_numbers z_m_turns) := k0X7_turn G a_mo a_mo_numbers a_mo_turns a_mo_boxes a_mo_words a_mo_weeks a_mo_routes a_mo_leave a_mo_leases a_mo_uses a_mo_arcFrom a_mo_arcTo a_mo_arcRoom a_mo_arcCost a_mo_far a_mo_by a_mo_best a_mo_tape a_mo_kept v1 v2 v3 v4 v5 v6 m_arcs m_tapeMany m_tokenKind m_tokenAt m_tokenEnd m_tokenValue m_fault m_seen m_isKept m_place m_numbers m_turns h
end MX7_turn
/-! EmptyBoxesModel.leave -/
section MX7_leave
theorem hdX7_leave : yX7_leave.cls = RX7 ∧ yX7_leave.cls ≠ "java/lang/invoke/MethodHandle" ∧ yX7_leave.cls ≠ "java/lang/invoke/VarHandle" ∧ (parseMethodDescriptor yX7_leave.desc).map (fun d => d.parameters.length) = some 3 := by decide +kernel
abbrev wX7_leave (G : Gt) (a_mo a_mo_leave a_mo_numbers a_mo_boxes a_mo_words a_mo_weeks a_mo_routes a_mo_turns a_mo_leases a_mo_uses a_mo_arcFrom a_mo_arcTo a_mo_arcRoom a_mo_arcCost a_mo_far a_mo_by a_mo_best a_mo_tape a_mo_kept : Nat) (m_arcs : Int32) (m_tapeMany : Int32) (m_tokenKind : Int32) (m_tokenAt : Int32) (m_tokenEnd : Int32) (m_tokenValue : Int32) (m_fault : Int32) (m_seen : Int32) (m_isKept : Int32) (m_place : Int32) (m_leave : (Nat → Int32)) : va_W := [(a_mo, .inr (7, [.ref a_mo_numbers, .ref a_mo_boxes, .ref a_mo_words, .ref a_mo_weeks, .ref a_mo_routes, .ref a_mo_turns, .ref a_mo_leave, .ref a_mo_leases, .ref a_mo_uses, .ref a_mo_arcFrom, .ref a_mo_arcTo, .ref a_mo_arcRoom, .ref a_mo_arcCost, .int m_arcs, .ref a_mo_far, .ref a_mo_by, .ref a_mo_best, .ref a_mo_tape, .int m_tapeMany, .int m_tokenKind, .int m_tokenAt, .int m_tokenEnd, .int m_tokenValue, .int m_fault, .int m_seen, .int m_isKept, .ref a_mo_kept, .int m_place])), (a_mo_leave, .inl (G.2.1, 16, .inl m_leave))]
abbrev rmX7_leave : Room := { frames := 2, cells := 0, slots := 0, locals := 42 }
theorem iX7_leave_X7 : ∀ w ∈ wsX70, w ∈ wsX7_leave := by decide +kernel
theorem eX7_leave_28 : Fk wsX7_leave RX7 28 7 6 := ⟨RX7, TX7, 28, rfl, iX7_leave_X7, by decide, by decide +kernel⟩
theorem ckX7_leave_X7_isLine_72 : CkS wsX7_leave RX7 72 yX7_isLine wsX7_isLine cX7_isLine 1 (some .boolean) 1 := ⟨_, gX7_leave_X7_isLine, rfl, hdX7_isLine.2⟩
variable {p : Program} {l : Launch} {e : Env} {s : State} {m : MethodId} {args : Array Value} {below : List Frame} {meth : Method} {c : Code} {A : Nat → Prop} {G : Gt} {a_mo a_mo_leave a_mo_numbers a_mo_boxes a_mo_words a_mo_weeks a_mo_routes a_mo_turns a_mo_leases a_mo_uses a_mo_arcFrom a_mo_arcTo a_mo_arcRoom a_mo_arcCost a_mo_far a_mo_by a_mo_best a_mo_tape a_mo_kept : Nat} {m_arcs : Int32} {m_tapeMany : Int32} {m_tokenKind : Int32} {m_tokenAt : Int32} {m_tokenEnd : Int32} {m_tokenValue : Int32} {m_fault : Int32} {m_seen : Int32} {m_isKept : Int32} {m_place : Int32} {res : Int32 × (Nat → Int32)}
set_option maxHeartbeats 4000000 in
set_option maxRecDepth 100000 in
theorem tX7_leave_52 (X : Bx p s m args meth c cX7_leave 6 wsX7_leave RX7 (some .int)) (v1 : Int32) (v2 : Int32) (v4 : Int32) (t0 : Int32) (m_leave : (Nat → Int32))   (h : fX7_leave_52 v1 v2 v4 t0 m_leave = some res) : ∀ (H : Heap) (locs : List Loc), Wo G A s (wX7_leave G a_mo a_mo_leave a_mo_numbers a_mo_boxes a_mo_words a_mo_weeks a_mo_routes a_mo_turns a_mo_leases a_mo_uses a_mo_arcFrom a_mo_arcTo a_mo_arcRoom a_mo_arcCost a_mo_far a_mo_by a_mo_best a_mo_tape a_mo_kept m_arcs m_tapeMany m_tokenKind m_tokenAt m_tokenEnd m_tokenValue m_fault m_seen m_isKept m_place m_leave) H locs → ∀ ls : Array Slot, lv_has ls 6 [(0, .ref a_mo), (1, .int v1), (2, .int v2), (4, .int v4)] → W p l e rmX7_leave s m args below meth c H locs 0 0 (QI G A below args s res.1 (wX7_leave G a_mo a_mo_leave a_mo_numbers a_mo_boxes a_mo_words a_mo_weeks a_mo_routes a_mo_turns a_mo_leases a_mo_uses a_mo_arcFrom a_mo_arcTo a_mo_arcRoom a_mo_arcCost a_mo_far a_mo_by a_mo_best a_mo_tape a_mo_kept m_arcs m_tapeMany m_tokenKind m_tokenAt m_tokenEnd m_tokenValue m_fault m_seen m_isKept m_place res.2)) (F0 m 52 ls [.int t0]) := by
  obtain ⟨hx, hb, -⟩ := id X.1
  intro H locs hW ls hl
  rw [fX7_leave_52] at h
  refine lv_istore (lv' := [(5, .int t0), (0, .ref a_mo), (1, .int v1), (2, .int v2), (4, .int v4)]) hx hb dX7_leave_52 hl (by decide) rfl (fun ls hl => ?_)
  refine lv_aload_n hx hb dX7_leave_54 rfl (lv_at hl 1 rfl) ?_
  refine g_get X hW eX7_leave_28 0 rfl rfl dX7_leave_55 ?_
  refine lv_iconst hx hb dX7_leave_58 qI_4 ?_
  refine lv_iload_n hx hb dX7_leave_59 rfl (lv_at hl 2 rfl) ?_
  refine lv_imul hx hb dX7_leave_60 ?_
  refine lv_iload_n hx hb dX7_leave_61 rfl (lv_at hl 3 rfl) ?_
  refine lv_iadd hx hb dX7_leave_62 ?_
  refine lv_iload hx hb dX7_leave_63 (lv_at hl 4 rfl) ?_
  obtain ⟨g10, h⟩ := gd_some h
  refine g_ast X hW (ws' := (wX7_leave G a_mo a_mo_leave a_mo_numbers a_mo_boxes a_mo_words a_mo_weeks a_mo_routes a_mo_turns a_mo_leases a_mo_uses a_mo_arcFrom a_mo_arcTo a_mo_arcRoom a_mo_arcCost a_mo_far a_mo_by a_mo_best a_mo_tape a_mo_kept m_arcs m_tapeMany m_tokenKind m_tokenAt m_tokenEnd m_tokenValue m_fault m_seen m_isKept m_place (upd m_leave (((4 : Int32) * v1) + v2).toNatClampNeg v4))) 1 rfl g10 rfl dX7_leave_65 (fun H locs hW => ?_)
  refine lv_aload_n hx hb dX7_leave_66 rfl (lv_at hl 1 rfl) ?_
  refine g_get X hW eX7_leave_28 0 rfl rfl dX7_leave_67 ?_
  refine lv_iconst hx hb dX7_leave_70 qI_4 ?_
  refine lv_iload_n hx hb dX7_leave_71 rfl (lv_at hl 3 rfl) ?_
  refine lv_imul hx hb dX7_leave_72 ?_
  refine lv_iload_n hx hb dX7_leave_73 rfl (lv_at hl 2 rfl) ?_
  refine lv_iadd hx hb dX7_leave_74 ?_
  refine lv_iload hx hb dX7_leave_75 (lv_at hl 4 rfl) ?_
  obtain ⟨g19, h⟩ := gd_some h
  refine g_ast X hW (ws' := (wX7_leave G a_mo a_mo_leave a_mo_numbers a_mo_boxes a_mo_words a_mo_weeks a_mo_routes a_mo_turns a_mo_leases a_mo_uses a_mo_arcFrom a_mo_arcTo a_mo_arcRoom a_mo_arcCost a_mo_far a_mo_by a_mo_best a_mo_tape a_mo_kept m_arcs m_tapeMany m_tokenKind m_tokenAt m_tokenEnd m_tokenValue m_fault m_seen m_isKept m_place (upd (upd m_leave (((4 : Int32) * v1) + v2).toNatClampNeg v4) (((4 : Int32) * v2) + v1).toNatClampNeg v4))) 1 rfl g19 rfl dX7_leave_77 (fun H locs hW => ?_)
  refine lv_iload hx hb dX7_leave_78 (lv_at hl 0 rfl) ?_
  obtain rfl := Option.some.inj h
  exact g_iret X hW dX7_leave_80
set_option maxHeartbeats 4000000 in
set_option maxRecDepth 100000 in
theorem tX7_leave_30 (X : Bx p s m args meth c cX7_leave 6 wsX7_leave RX7 (some .int)) (v1 : Int32) (v2 : Int32) (t0 : Int32) (m_leave : (Nat → Int32))   (h : fX7_leave_30 v1 v2 t0 m_leave = some res) : ∀ (H : Heap) (locs : List Loc), Wo G A s (wX7_leave G a_mo a_mo_leave a_mo_numbers a_mo_boxes a_mo_words a_mo_weeks a_mo_routes a_mo_turns a_mo_leases a_mo_uses a_mo_arcFrom a_mo_arcTo a_mo_arcRoom a_mo_arcCost a_mo_far a_mo_by a_mo_best a_mo_tape a_mo_kept m_arcs m_tapeMany m_tokenKind m_tokenAt m_tokenEnd m_tokenValue m_fault m_seen m_isKept m_place m_leave) H locs → ∀ ls : Array Slot, lv_has ls 6 [(0, .ref a_mo), (1, .int v1), (2, .int v2)] → W p l e rmX7_leave s m args below meth c H locs 0 0 (QI G A below args s res.1 (wX7_leave G a_mo a_mo_leave a_mo_numbers a_mo_boxes a_mo_words a_mo_weeks a_mo_routes a_mo_turns a_mo_leases a_mo_uses a_mo_arcFrom a_mo_arcTo a_mo_arcRoom a_mo_arcCost a_mo_far a_mo_by a_mo_best a_mo_tape a_mo_kept m_arcs m_tapeMany m_tokenKind m_tokenAt m_tokenEnd m_tokenValue m_fault m_seen m_isKept m_place res.2)) (F0 m 30 ls [.int t0]) := by
  obtain ⟨hx, hb, -⟩ := id X.1
  intro H locs hW ls hl
  rw [fX7_leave_30] at h
  refine lv_istore (lv' := [(4, .int t0), (0, .ref a_mo), (1, .int v1), (2, .int v2)]) hx hb dX7_leave_30 hl (by decide) rfl (fun ls hl => ?_)
  refine lv_aload_n hx hb dX7_leave_32 rfl (lv_at hl 1 rfl) ?_
  refine g_get X hW eX7_leave_28 0 rfl rfl dX7_leave_33 ?_
  refine lv_iconst hx hb dX7_leave_36 qI_4 ?_
  refine lv_iload_n hx hb dX7_leave_37 rfl (lv_at hl 2 rfl) ?_
  refine lv_imul hx hb dX7_leave_38 ?_
  refine lv_iload_n hx hb dX7_leave_39 rfl (lv_at hl 3 rfl) ?_
  refine lv_iadd hx hb dX7_leave_40 ?_
  obtain ⟨g30, h⟩ := gd_some h
  refine g_ald X hW 1 rfl g30 dX7_leave_41 ?_
  refine lv_iload hx hb dX7_leave_42 (lv_at hl 0 rfl) ?_
  refine lv_icmp_ne (tgt := 51) hx hb dX7_leave_44 (by decide) (fun c32 => ?_) (fun c32 => ?_)
  · have h := (if_neg c32).symm.trans h
    refine lv_iconst hx hb dX7_leave_51 qI_1 ?_
    exact tX7_leave_52 X v1 v2 t0 (1 : Int32) m_leave h H locs hW ls (lv_sub hl [1, 2, 3, 0] rfl)
  · have h := (if_pos c32).symm.trans h
    refine lv_iconst hx hb dX7_leave_47 qI_0 ?_
    refine lv_goto (tgt := 52) hx hb dX7_leave_48 (by decide) ?_
    exact tX7_leave_52 X v1 v2 t0 (0 : Int32) m_leave h H locs hW ls (lv_sub hl [1, 2, 3, 0] rfl)
set_option maxHeartbeats 4000000 in
set_option maxRecDepth 100000 in
theorem k0X7_leave {l : Launch} (G : Gt) (a_mo a_mo_leave a_mo_numbers a_mo_boxes a_mo_words a_mo_weeks a_mo_routes a_mo_turns a_mo_leases a_mo_uses a_mo_arcFrom a_mo_arcTo a_mo_arcRoom a_mo_arcCost a_mo_far a_mo_by a_mo_best a_mo_tape a_mo_kept : Nat) (v1 : Int32) (v2 : Int32) (v3 : Int32) (m_arcs : Int32) (m_tapeMany : Int32) (m_tokenKind : Int32) (m_tokenAt : Int32) (m_tokenEnd : Int32) (m_tokenValue : Int32) (m_fault : Int32) (m_seen : Int32) (m_isKept : Int32) (m_place : Int32) (m_leave : (Nat → Int32)) {res : Int32 × (Nat → Int32)} (h : fX7_leave v1 v2 v3 m_leave = some res) : CtI G l yX7_leave wsX7_leave rmX7_leave [.ref a_mo, .int v1, .int v2, .int v3] (wX7_leave G a_mo a_mo_leave a_mo_numbers a_mo_boxes a_mo_words a_mo_weeks a_mo_routes a_mo_turns a_mo_leases a_mo_uses a_mo_arcFrom a_mo_arcTo a_mo_arcRoom a_mo_arcCost a_mo_far a_mo_by a_mo_best a_mo_tape a_mo_kept m_arcs m_tapeMany m_tokenKind m_tokenAt m_tokenEnd m_tokenValue m_fault m_seen m_isKept m_place m_leave) res.1 (wX7_leave G a_mo a_mo_leave a_mo_numbers a_mo_boxes a_mo_words a_mo_weeks a_mo_routes a_mo_turns a_mo_leases a_mo_uses a_mo_arcFrom a_mo_arcTo a_mo_arcRoom a_mo_arcCost a_mo_far a_mo_by a_mo_best a_mo_tape a_mo_kept m_arcs m_tapeMany m_tokenKind m_tokenAt m_tokenEnd m_tokenValue m_fault m_seen m_isKept m_place res.2) := by
  refine CtI.mk (cc := cX7_leave) (maxL := 6) (ret := (some .int)) (own := RX7) (by decide) rfl rfl (Nat.le_of_ble_eq_true rfl) ?_
  intro p e s m below meth c A X ls hl hW
  obtain ⟨hx, hb, -⟩ := id X.1
  have hl : lv_has ls 6 [(0, .ref a_mo), (1, .int v1), (2, .int v2), (3, .int v3)] := hl
  generalize hH : s.heap = H at hW ⊢
  generalize hLo : ([] : List Loc) = locs at hW ⊢
  rw [fX7_leave] at h
  refine lv_iload_n hx hb dX7_leave_0 rfl (lv_at hl 1 rfl) ?_
  obtain ⟨r37, hq, h⟩ := bn1_some h
  refine g_csi X hW (As := [.int v1]) (ws' := (wX7_leave G a_mo a_mo_leave a_mo_numbers a_mo_boxes a_mo_words a_mo_weeks a_mo_routes a_mo_turns a_mo_leases a_mo_uses a_mo_arcFrom a_mo_arcTo a_mo_arcRoom a_mo_arcCost a_mo_far a_mo_by a_mo_best a_mo_tape a_mo_kept m_arcs m_tapeMany m_tokenKind m_tokenAt m_tokenEnd m_tokenValue m_fault m_seen m_isKept m_place m_leave)) ckX7_leave_X7_isLine_72 (kcX7_isLine (l := l) G v1 hq) ⟨rfl, rfl, Nat.le_of_ble_eq_true rfl, Nat.le_of_ble_eq_true rfl⟩ [] rfl rfl rfl rfl rfl rfl hl.1 (Nat.le_of_ble_eq_true rfl) ⟨Nat.zero_le _, Nat.zero_le _⟩ dX7_leave_1 (fun H locs hW => ?_)
  refine lv_if_eq (tgt := 19) hx hb dX7_leave_4 (by decide) (fun c38 => ?_) (fun c38 => ?_)
  · have h := (if_pos c38).symm.trans h
    refine lv_iconst hx hb dX7_leave_19 qI_m1 ?_
    obtain rfl := Option.some.inj h
    exact g_iret X hW dX7_leave_20
  · have h := (if_neg c38).symm.trans h
    refine lv_iload_n hx hb dX7_leave_7 rfl (lv_at hl 2 rfl) ?_
    obtain ⟨r42, hq, h⟩ := bn1_some h
    refine g_csi X hW (As := [.int v2]) (ws' := (wX7_leave G a_mo a_mo_leave a_mo_numbers a_mo_boxes a_mo_words a_mo_weeks a_mo_routes a_mo_turns a_mo_leases a_mo_uses a_mo_arcFrom a_mo_arcTo a_mo_arcRoom a_mo_arcCost a_mo_far a_mo_by a_mo_best a_mo_tape a_mo_kept m_arcs m_tapeMany m_tokenKind m_tokenAt m_tokenEnd m_tokenValue m_fault m_seen m_isKept m_place m_leave)) ckX7_leave_X7_isLine_72 (kcX7_isLine (l := l) G v2 hq) ⟨rfl, rfl, Nat.le_of_ble_eq_true rfl, Nat.le_of_ble_eq_true rfl⟩ [] rfl rfl rfl rfl rfl rfl hl.1 (Nat.le_of_ble_eq_true rfl) ⟨Nat.zero_le _, Nat.zero_le _⟩ dX7_leave_8 (fun H locs hW => ?_)
    refine lv_if_eq (tgt := 19) hx hb dX7_leave_11 (by decide) (fun c43 => ?_) (fun c43 => ?_)
    · have h := (if_pos c43).symm.trans h
      refine lv_iconst hx hb dX7_leave_19 qI_m1 ?_
      obtain rfl := Option.some.inj h
      exact g_iret X hW dX7_leave_20
    · have h := (if_neg c43).symm.trans h
      refine lv_iload_n hx hb dX7_leave_14 rfl (lv_at hl 1 rfl) ?_
      refine lv_iload_n hx hb dX7_leave_15 rfl (lv_at hl 2 rfl) ?_
      refine lv_icmp_ne (tgt := 21) hx hb dX7_leave_16 (by decide) (fun c48 => ?_) (fun c48 => ?_)
      · have h := (if_neg c48).symm.trans h
        refine lv_iload_n hx hb dX7_leave_21 rfl (lv_at hl 3 rfl) ?_
        refine lv_if_eq (tgt := 29) hx hb dX7_leave_22 (by decide) (fun c50 => ?_) (fun c50 => ?_)
        · have h := (if_pos c50).symm.trans h
          refine lv_iconst hx hb dX7_leave_29 qI_0 ?_
          exact tX7_leave_30 X v1 v2 (0 : Int32) m_leave h H locs hW ls (lv_sub hl [0, 1, 2] rfl)
        · have h := (if_neg c50).symm.trans h
          refine lv_iconst hx hb dX7_leave_25 qI_1 ?_
          refine lv_goto (tgt := 30) hx hb dX7_leave_26 (by decide) ?_
          exact tX7_leave_30 X v1 v2 (1 : Int32) m_leave h H locs hW ls (lv_sub hl [0, 1, 2] rfl)
      · have h := (if_pos c48).symm.trans h
        refine lv_iconst hx hb dX7_leave_19 qI_m1 ?_
        obtain rfl := Option.some.inj h
        exact g_iret X hW dX7_leave_20
theorem kcX7_leave {l : Launch} (G : Gt) (a_mo a_mo_leave a_mo_numbers a_mo_boxes a_mo_words a_mo_weeks a_mo_routes a_mo_turns a_mo_leases a_mo_uses a_mo_arcFrom a_mo_arcTo a_mo_arcRoom a_mo_arcCost a_mo_far a_mo_by a_mo_best a_mo_tape a_mo_kept : Nat) (v1 : Int32) (v2 : Int32) (v3 : Int32) (m_arcs : Int32) (m_tapeMany : Int32) (m_tokenKind : Int32) (m_tokenAt : Int32) (m_tokenEnd : Int32) (m_tokenValue : Int32) (m_fault : Int32) (m_seen : Int32) (m_isKept : Int32) (m_place : Int32) (m_leave : (Nat → Int32)) {r : Int32} {z_m_leave : (Nat → Int32)} (h : fX7_leave v1 v2 v3 m_leave = some (r, z_m_leave)) : CtI G l yX7_leave wsX7_leave rmX7_leave [.ref a_mo, .int v1, .int v2, .int v3] (wX7_leave G a_mo a_mo_leave a_mo_numbers a_mo_boxes a_mo_words a_mo_weeks a_mo_routes a_mo_turns a_mo_leases a_mo_uses a_mo_arcFrom a_mo_arcTo a_mo_arcRoom a_mo_arcCost a_mo_far a_mo_by a_mo_best a_mo_tape a_mo_kept m_arcs m_tapeMany m_tokenKind m_tokenAt m_tokenEnd m_tokenValue m_fault m_seen m_isKept m_place m_leave) r (wX7_leave G a_mo a_mo_leave a_mo_numbers a_mo_boxes a_mo_words a_mo_weeks a_mo_routes a_mo_turns a_mo_leases a_mo_uses a_mo_arcFrom a_mo_arcTo a_mo_arcRoom a_mo_arcCost a_mo_far a_mo_by a_mo_best a_mo_tape a_mo_kept m_arcs m_tapeMany m_tokenKind m_tokenAt m_tokenEnd m_tokenValue m_fault m_seen m_isKept m_place z_m_leave) := k0X7_leave G a_mo a_mo_leave a_mo_numbers a_mo_boxes a_mo_words a_mo_weeks a_mo_routes a_mo_turns a_mo_leases a_mo_uses a_mo_arcFrom a_mo_arcTo a_mo_arcRoom a_mo_arcCost a_mo_far a_mo_by a_mo_best a_mo_tape a_mo_kept v1 v2 v3 m_arcs m_tapeMany m_tokenKind m_tokenAt m_tokenEnd m_tokenValue m_fault m_seen m_isKept m_place m_leave h
end MX7_leave
