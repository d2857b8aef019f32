/-! EmptyBoxesModel.isNear -/
section MX7_isNear
theorem hdX7_isNear : yX7_isNear.cls = RX7 ∧ yX7_isNear.cls ≠ "java/lang/invoke/MethodHandle" ∧ yX7_isNear.cls ≠ "java/lang/invoke/VarHandle" ∧ (parseMethodDescriptor yX7_isNear.desc).map (fun d => d.parameters.length) = some 2 := by decide +kernel
abbrev wX7_isNear (G : Gt) (a_mo a_mo_numbers a_mo_routes a_mo_boxes a_mo_words a_mo_weeks a_mo_turns a_mo_leave a_mo_leases a_mo_uses a_mo_arcFrom a_mo_arcTo a_mo_arcRoom a_mo_arcCost a_mo_far a_mo_by a_mo_best a_mo_tape a_mo_kept : Nat) (m_arcs : Int32) (m_tapeMany : Int32) (m_tokenKind : Int32) (m_tokenAt : Int32) (m_tokenEnd : Int32) (m_tokenValue : Int32) (m_fault : Int32) (m_seen : Int32) (m_isKept : Int32) (m_place : Int32) (m_numbers : (Nat → Int32)) (m_routes : (Nat → Int32)) : va_W := [(a_mo, .inr (7, [.ref a_mo_numbers, .ref a_mo_boxes, .ref a_mo_words, .ref a_mo_weeks, .ref a_mo_routes, .ref a_mo_turns, .ref a_mo_leave, .ref a_mo_leases, .ref a_mo_uses, .ref a_mo_arcFrom, .ref a_mo_arcTo, .ref a_mo_arcRoom, .ref a_mo_arcCost, .int m_arcs, .ref a_mo_far, .ref a_mo_by, .ref a_mo_best, .ref a_mo_tape, .int m_tapeMany, .int m_tokenKind, .int m_tokenAt, .int m_tokenEnd, .int m_tokenValue, .int m_fault, .int m_seen, .int m_isKept, .ref a_mo_kept, .int m_place])), (a_mo_numbers, .inl (G.2.1, 10, .inl m_numbers)), (a_mo_routes, .inl (G.2.1, 50, .inl m_routes))]
abbrev rmX7_isNear : Room := { frames := 0, cells := 0, slots := 0, locals := 0 }
theorem iX7_isNear_X7 : ∀ w ∈ wsX70, w ∈ wsX7_isNear := by decide +kernel
theorem eX7_isNear_22 : Fk wsX7_isNear RX7 22 7 4 := ⟨RX7, TX7, 28, rfl, iX7_isNear_X7, by decide, by decide +kernel⟩
theorem eX7_isNear_7 : Fk wsX7_isNear RX7 7 7 0 := ⟨RX7, TX7, 28, rfl, iX7_isNear_X7, by decide, by decide +kernel⟩
variable {p : Program} {l : Launch} {e : Env} {s : State} {m : MethodId} {args : Array Value} {below : List Frame} {meth : Method} {c : Code} {A : Nat → Prop} {G : Gt} {a_mo a_mo_numbers a_mo_routes a_mo_boxes a_mo_words a_mo_weeks a_mo_turns a_mo_leave a_mo_leases a_mo_uses a_mo_arcFrom a_mo_arcTo a_mo_arcRoom a_mo_arcCost a_mo_far a_mo_by a_mo_best a_mo_tape a_mo_kept : Nat} {m_arcs : Int32} {m_tapeMany : Int32} {m_tokenKind : Int32} {m_tokenAt : Int32} {m_tokenEnd : Int32} {m_tokenValue : Int32} {m_fault : Int32} {m_seen : Int32} {m_isKept : Int32} {m_place : Int32} {m_numbers : (Nat → Int32)} {m_routes : (Nat → Int32)} {res : Int32}
set_option maxHeartbeats 4000000 in
set_option maxRecDepth 100000 in
theorem tX7_isNear_102 (X : Bx p s m args meth c cX7_isNear 6 wsX7_isNear RX7 (some .boolean)) (v1 : Int32) (v2 : Int32) (v4 : Int32) (t0 : Int32) (k_14 : Int32 → Int32 → Option (Int32)) (Hk_14 : ∀ (v3 : Int32) (v4 : Int32), k_14 v3 v4 = some res → ∀ (H : Heap) (locs : List Loc), Wo G A s (wX7_isNear G a_mo a_mo_numbers a_mo_routes a_mo_boxes a_mo_words a_mo_weeks a_mo_turns a_mo_leave a_mo_leases a_mo_uses a_mo_arcFrom a_mo_arcTo a_mo_arcRoom a_mo_arcCost a_mo_far a_mo_by a_mo_best a_mo_tape a_mo_kept m_arcs m_tapeMany m_tokenKind m_tokenAt m_tokenEnd m_tokenValue m_fault m_seen m_isKept m_place m_numbers m_routes) H locs → ∀ ls : Array Slot, lv_has ls 6 [(0, .ref a_mo), (1, .int v1), (2, .int v2), (3, .int v3), (4, .int v4)] → W p l e rmX7_isNear s m args below meth c H locs 0 0 (QI G A below args s res (wX7_isNear G a_mo a_mo_numbers a_mo_routes a_mo_boxes a_mo_words a_mo_weeks a_mo_turns a_mo_leave a_mo_leases a_mo_uses a_mo_arcFrom a_mo_arcTo a_mo_arcRoom a_mo_arcCost a_mo_far a_mo_by a_mo_best a_mo_tape a_mo_kept m_arcs m_tapeMany m_tokenKind m_tokenAt m_tokenEnd m_tokenValue m_fault m_seen m_isKept m_place m_numbers m_routes)) (F0 m 14 ls [])) (h : fX7_isNear_102 k_14 v4 t0 = some res) : ∀ (H : Heap) (locs : List Loc), Wo G A s (wX7_isNear G a_mo a_mo_numbers a_mo_routes a_mo_boxes a_mo_words a_mo_weeks a_mo_turns a_mo_leave a_mo_leases a_mo_uses a_mo_arcFrom a_mo_arcTo a_mo_arcRoom a_mo_arcCost a_mo_far a_mo_by a_mo_best a_mo_tape a_mo_kept m_arcs m_tapeMany m_tokenKind m_tokenAt m_tokenEnd m_tokenValue m_fault m_seen m_isKept m_place m_numbers m_routes) H locs → ∀ ls : Array Slot, lv_has ls 6 [(0, .ref a_mo), (1, .int v1), (2, .int v2), (4, .int v4)] → W p l e rmX7_isNear s m args below meth c H locs 0 0 (QI G A below args s res (wX7_isNear G a_mo a_mo_numbers a_mo_routes a_mo_boxes a_mo_words a_mo_weeks a_mo_turns a_mo_leave a_mo_leases a_mo_uses a_mo_arcFrom a_mo_arcTo a_mo_arcRoom a_mo_arcCost a_mo_far a_mo_by a_mo_best a_mo_tape a_mo_kept m_arcs m_tapeMany m_tokenKind m_tokenAt m_tokenEnd m_tokenValue m_fault m_seen m_isKept m_place m_numbers m_routes)) (F0 m 102 ls [.int t0]) := by
  obtain ⟨hx, hb, -⟩ := id X.1
  intro H locs hW ls hl
  rw [fX7_isNear_102] at h
  refine lv_istore_n (lv' := [(3, .int t0), (0, .ref a_mo), (1, .int v1), (2, .int v2), (4, .int v4)]) hx hb dX7_isNear_102 rfl hl (by decide) rfl (fun ls hl => ?_)
  refine lv_iinc (v := (v4 + (1 : Int32))) (lv' := [(4, .int (v4 + (1 : Int32))), (3, .int t0), (0, .ref a_mo), (1, .int v1), (2, .int v2)]) hx hb dX7_isNear_103 hl (k := 4) rfl (congrArg (fun z => v4 + z) qI_1) (by decide) rfl (fun ls hl => ?_)
  refine lv_goto (tgt := 14) hx hb dX7_isNear_106 (by decide) ?_
  exact Hk_14 t0 (v4 + (1 : Int32)) h H locs hW ls (lv_sub hl [2, 3, 4, 1, 0] rfl)
set_option maxHeartbeats 4000000 in
set_option maxRecDepth 100000 in
theorem tX7_isNear_97 (X : Bx p s m args meth c cX7_isNear 6 wsX7_isNear RX7 (some .boolean)) (v1 : Int32) (v2 : Int32) (v4 : Int32) (k_14 : Int32 → Int32 → Option (Int32)) (Hk_14 : ∀ (v3 : Int32) (v4 : Int32), k_14 v3 v4 = some res → ∀ (H : Heap) (locs : List Loc), Wo G A s (wX7_isNear G a_mo a_mo_numbers a_mo_routes a_mo_boxes a_mo_words a_mo_weeks a_mo_turns a_mo_leave a_mo_leases a_mo_uses a_mo_arcFrom a_mo_arcTo a_mo_arcRoom a_mo_arcCost a_mo_far a_mo_by a_mo_best a_mo_tape a_mo_kept m_arcs m_tapeMany m_tokenKind m_tokenAt m_tokenEnd m_tokenValue m_fault m_seen m_isKept m_place m_numbers m_routes) H locs → ∀ ls : Array Slot, lv_has ls 6 [(0, .ref a_mo), (1, .int v1), (2, .int v2), (3, .int v3), (4, .int v4)] → W p l e rmX7_isNear s m args below meth c H locs 0 0 (QI G A below args s res (wX7_isNear G a_mo a_mo_numbers a_mo_routes a_mo_boxes a_mo_words a_mo_weeks a_mo_turns a_mo_leave a_mo_leases a_mo_uses a_mo_arcFrom a_mo_arcTo a_mo_arcRoom a_mo_arcCost a_mo_far a_mo_by a_mo_best a_mo_tape a_mo_kept m_arcs m_tapeMany m_tokenKind m_tokenAt m_tokenEnd m_tokenValue m_fault m_seen m_isKept m_place m_numbers m_routes)) (F0 m 14 ls [])) (h : fX7_isNear_97 k_14 v4 = some res) : ∀ (H : Heap) (locs : List Loc), Wo G A s (wX7_isNear G a_mo a_mo_numbers a_mo_routes a_mo_boxes a_mo_words a_mo_weeks a_mo_turns a_mo_leave a_mo_leases a_mo_uses a_mo_arcFrom a_mo_arcTo a_mo_arcRoom a_mo_arcCost a_mo_far a_mo_by a_mo_best a_mo_tape a_mo_kept m_arcs m_tapeMany m_tokenKind m_tokenAt m_tokenEnd m_tokenValue m_fault m_seen m_isKept m_place m_numbers m_routes) H locs → ∀ ls : Array Slot, lv_has ls 6 [(0, .ref a_mo), (1, .int v1), (2, .int v2), (4, .int v4)] → W p l e rmX7_isNear s m args below meth c H locs 0 0 (QI G A below args s res (wX7_isNear G a_mo a_mo_numbers a_mo_routes a_mo_boxes a_mo_words a_mo_weeks a_mo_turns a_mo_leave a_mo_leases a_mo_uses a_mo_arcFrom a_mo_arcTo a_mo_arcRoom a_mo_arcCost a_mo_far a_mo_by a_mo_best a_mo_tape a_mo_kept m_arcs m_tapeMany m_tokenKind m_tokenAt m_tokenEnd m_tokenValue m_fault m_seen m_isKept m_place m_numbers m_routes)) (F0 m 97 ls []) := by
  obtain ⟨hx, hb, -⟩ := id X.1
  intro H locs hW ls hl
  rw [fX7_isNear_97] at h
  refine lv_iconst hx hb dX7_isNear_97 qI_1 ?_
  refine lv_goto (tgt := 102) hx hb dX7_isNear_98 (by decide) ?_
  exact tX7_isNear_102 X v1 v2 v4 (1 : Int32) k_14 Hk_14 h H locs hW ls hl
set_option maxHeartbeats 4000000 in
set_option maxRecDepth 100000 in
theorem tX7_isNear_101 (X : Bx p s m args meth c cX7_isNear 6 wsX7_isNear RX7 (some .boolean)) (v1 : Int32) (v2 : Int32) (v4 : Int32) (k_14 : Int32 → Int32 → Option (Int32)) (Hk_14 : ∀ (v3 : Int32) (v4 : Int32), k_14 v3 v4 = some res → ∀ (H : Heap) (locs : List Loc), Wo G A s (wX7_isNear G a_mo a_mo_numbers a_mo_routes a_mo_boxes a_mo_words a_mo_weeks a_mo_turns a_mo_leave a_mo_leases a_mo_uses a_mo_arcFrom a_mo_arcTo a_mo_arcRoom a_mo_arcCost a_mo_far a_mo_by a_mo_best a_mo_tape a_mo_kept m_arcs m_tapeMany m_tokenKind m_tokenAt m_tokenEnd m_tokenValue m_fault m_seen m_isKept m_place m_numbers m_routes) H locs → ∀ ls : Array Slot, lv_has ls 6 [(0, .ref a_mo), (1, .int v1), (2, .int v2), (3, .int v3), (4, .int v4)] → W p l e rmX7_isNear s m args below meth c H locs 0 0 (QI G A below args s res (wX7_isNear G a_mo a_mo_numbers a_mo_routes a_mo_boxes a_mo_words a_mo_weeks a_mo_turns a_mo_leave a_mo_leases a_mo_uses a_mo_arcFrom a_mo_arcTo a_mo_arcRoom a_mo_arcCost a_mo_far a_mo_by a_mo_best a_mo_tape a_mo_kept m_arcs m_tapeMany m_tokenKind m_tokenAt m_tokenEnd m_tokenValue m_fault m_seen m_isKept m_place m_numbers m_routes)) (F0 m 14 ls [])) (h : fX7_isNear_101 k_14 v4 = some res) : ∀ (H : Heap) (locs : List Loc), Wo G A s (wX7_isNear G a_mo a_mo_numbers a_mo_routes a_mo_boxes a_mo_words a_mo_weeks a_mo_turns a_mo_leave a_mo_leases a_mo_uses a_mo_arcFrom a_mo_arcTo a_mo_arcRoom a_mo_arcCost a_mo_far a_mo_by a_mo_best a_mo_tape a_mo_kept m_arcs m_tapeMany m_tokenKind m_tokenAt m_tokenEnd m_tokenValue m_fault m_seen m_isKept m_place m_numbers m_routes) H locs → ∀ ls : Array Slot, lv_has ls 6 [(0, .ref a_mo), (1, .int v1), (2, .int v2), (4, .int v4)] → W p l e rmX7_isNear s m args below meth c H locs 0 0 (QI G A below args s res (wX7_isNear G a_mo a_mo_numbers a_mo_routes a_mo_boxes a_mo_words a_mo_weeks a_mo_turns a_mo_leave a_mo_leases a_mo_uses a_mo_arcFrom a_mo_arcTo a_mo_arcRoom a_mo_arcCost a_mo_far a_mo_by a_mo_best a_mo_tape a_mo_kept m_arcs m_tapeMany m_tokenKind m_tokenAt m_tokenEnd m_tokenValue m_fault m_seen m_isKept m_place m_numbers m_routes)) (F0 m 101 ls []) := by
  obtain ⟨hx, hb, -⟩ := id X.1
  intro H locs hW ls hl
  rw [fX7_isNear_101] at h
  refine lv_iconst hx hb dX7_isNear_101 qI_0 ?_
  exact tX7_isNear_102 X v1 v2 v4 (0 : Int32) k_14 Hk_14 h H locs hW ls hl
set_option maxHeartbeats 4000000 in
set_option maxRecDepth 100000 in
theorem tX7_isNear_58 (X : Bx p s m args meth c cX7_isNear 6 wsX7_isNear RX7 (some .boolean)) (v1 : Int32) (v2 : Int32) (v3 : Int32) (v4 : Int32) (t0 : Int32) (k_14 : Int32 → Int32 → Option (Int32)) (Hk_14 : ∀ (v3 : Int32) (v4 : Int32), k_14 v3 v4 = some res → ∀ (H : Heap) (locs : List Loc), Wo G A s (wX7_isNear G a_mo a_mo_numbers a_mo_routes a_mo_boxes a_mo_words a_mo_weeks a_mo_turns a_mo_leave a_mo_leases a_mo_uses a_mo_arcFrom a_mo_arcTo a_mo_arcRoom a_mo_arcCost a_mo_far a_mo_by a_mo_best a_mo_tape a_mo_kept m_arcs m_tapeMany m_tokenKind m_tokenAt m_tokenEnd m_tokenValue m_fault m_seen m_isKept m_place m_numbers m_routes) H locs → ∀ ls : Array Slot, lv_has ls 6 [(0, .ref a_mo), (1, .int v1), (2, .int v2), (3, .int v3), (4, .int v4)] → W p l e rmX7_isNear s m args below meth c H locs 0 0 (QI G A below args s res (wX7_isNear G a_mo a_mo_numbers a_mo_routes a_mo_boxes a_mo_words a_mo_weeks a_mo_turns a_mo_leave a_mo_leases a_mo_uses a_mo_arcFrom a_mo_arcTo a_mo_arcRoom a_mo_arcCost a_mo_far a_mo_by a_mo_best a_mo_tape a_mo_kept m_arcs m_tapeMany m_tokenKind m_tokenAt m_tokenEnd m_tokenValue m_fault m_seen m_isKept m_place m_numbers m_routes)) (F0 m 14 ls [])) (h : fX7_isNear_58 k_14 v1 v2 v3 v4 t0 m_routes = some res) : ∀ (H : Heap) (locs : List Loc), Wo G A s (wX7_isNear G a_mo a_mo_numbers a_mo_routes a_mo_boxes a_mo_words a_mo_weeks a_mo_turns a_mo_leave a_mo_leases a_mo_uses a_mo_arcFrom a_mo_arcTo a_mo_arcRoom a_mo_arcCost a_mo_far a_mo_by a_mo_best a_mo_tape a_mo_kept m_arcs m_tapeMany m_tokenKind m_tokenAt m_tokenEnd m_tokenValue m_fault m_seen m_isKept m_place m_numbers m_routes) H locs → ∀ ls : Array Slot, lv_has ls 6 [(0, .ref a_mo), (1, .int v1), (2, .int v2), (3, .int v3), (4, .int v4)] → W p l e rmX7_isNear s m args below meth c H locs 0 0 (QI G A below args s res (wX7_isNear G a_mo a_mo_numbers a_mo_routes a_mo_boxes a_mo_words a_mo_weeks a_mo_turns a_mo_leave a_mo_leases a_mo_uses a_mo_arcFrom a_mo_arcTo a_mo_arcRoom a_mo_arcCost a_mo_far a_mo_by a_mo_best a_mo_tape a_mo_kept m_arcs m_tapeMany m_tokenKind m_tokenAt m_tokenEnd m_tokenValue m_fault m_seen m_isKept m_place m_numbers m_routes)) (F0 m 58 ls [.int t0]) := by
  obtain ⟨hx, hb, -⟩ := id X.1
  intro H locs hW ls hl
  rw [fX7_isNear_58] at h
  refine lv_istore (lv' := [(5, .int t0), (0, .ref a_mo), (1, .int v1), (2, .int v2), (3, .int v3), (4, .int v4)]) hx hb dX7_isNear_58 hl (by decide) rfl (fun ls hl => ?_)
  refine lv_iload_n hx hb dX7_isNear_60 rfl (lv_at hl 4 rfl) ?_
  refine lv_if_ne (tgt := 97) hx hb dX7_isNear_61 (by decide) (fun c9 => ?_) (fun c9 => ?_)
  · have h := (if_neg c9).symm.trans h
    exact tX7_isNear_97 X v1 v2 v4 k_14 Hk_14 h H locs hW ls (lv_sub hl [1, 2, 3, 5] rfl)
  · have h := (if_pos c9).symm.trans h
    refine lv_iload hx hb dX7_isNear_64 (lv_at hl 0 rfl) ?_
    refine lv_if_ne (tgt := 97) hx hb dX7_isNear_66 (by decide) (fun c11 => ?_) (fun c11 => ?_)
    · have h := (if_neg c11).symm.trans h
      exact tX7_isNear_97 X v1 v2 v4 k_14 Hk_14 h H locs hW ls (lv_sub hl [1, 2, 3, 5] rfl)
    · have h := (if_pos c11).symm.trans h
      refine lv_aload_n hx hb dX7_isNear_69 rfl (lv_at hl 1 rfl) ?_
      refine g_get X hW eX7_isNear_22 0 rfl rfl dX7_isNear_70 ?_
      refine lv_iconst hx hb dX7_isNear_73 qI_5 ?_
      refine lv_iload hx hb dX7_isNear_74 (lv_at hl 5 rfl) ?_
      refine lv_imul hx hb dX7_isNear_76 ?_
      obtain ⟨g17, h⟩ := gd_some h
      refine g_ald X hW 2 rfl g17 dX7_isNear_77 ?_
      refine lv_iload_n hx hb dX7_isNear_78 rfl (lv_at hl 3 rfl) ?_
      refine lv_icmp_ne (tgt := 101) hx hb dX7_isNear_79 (by decide) (fun c19 => ?_) (fun c19 => ?_)
      · have h := (if_neg c19).symm.trans h
        exact tX7_isNear_101 X v1 v2 v4 k_14 Hk_14 h H locs hW ls (lv_sub hl [1, 2, 3, 5] rfl)
      · have h := (if_pos c19).symm.trans h
        refine lv_aload_n hx hb dX7_isNear_82 rfl (lv_at hl 1 rfl) ?_
        refine g_get X hW eX7_isNear_22 0 rfl rfl dX7_isNear_83 ?_
        refine lv_iconst hx hb dX7_isNear_86 qI_5 ?_
        refine lv_iload hx hb dX7_isNear_87 (lv_at hl 5 rfl) ?_
        refine lv_imul hx hb dX7_isNear_89 ?_
        refine lv_iconst hx hb dX7_isNear_90 qI_1 ?_
        refine lv_iadd hx hb dX7_isNear_91 ?_
        obtain ⟨g27, h⟩ := gd_some h
        refine g_ald X hW 2 rfl g27 dX7_isNear_92 ?_
        refine lv_iload_n hx hb dX7_isNear_93 rfl (lv_at hl 2 rfl) ?_
        refine lv_icmp_ne (tgt := 101) hx hb dX7_isNear_94 (by decide) (fun c29 => ?_) (fun c29 => ?_)
        · have h := (if_neg c29).symm.trans h
          exact tX7_isNear_101 X v1 v2 v4 k_14 Hk_14 h H locs hW ls (lv_sub hl [1, 2, 3, 5] rfl)
        · have h := (if_pos c29).symm.trans h
          exact tX7_isNear_97 X v1 v2 v4 k_14 Hk_14 h H locs hW ls (lv_sub hl [1, 2, 3, 5] rfl)
set_option maxHeartbeats 4000000 in
set_option maxRecDepth 100000 in
theorem tX7_isNear_57 (X : Bx p s m args meth c cX7_isNear 6 wsX7_isNear RX7 (some .boolean)) (v1 : Int32) (v2 : Int32) (v3 : Int32) (v4 : Int32) (k_14 : Int32 → Int32 → Option (Int32)) (Hk_14 : ∀ (v3 : Int32) (v4 : Int32), k_14 v3 v4 = some res → ∀ (H : Heap) (locs : List Loc), Wo G A s (wX7_isNear G a_mo a_mo_numbers a_mo_routes a_mo_boxes a_mo_words a_mo_weeks a_mo_turns a_mo_leave a_mo_leases a_mo_uses a_mo_arcFrom a_mo_arcTo a_mo_arcRoom a_mo_arcCost a_mo_far a_mo_by a_mo_best a_mo_tape a_mo_kept m_arcs m_tapeMany m_tokenKind m_tokenAt m_tokenEnd m_tokenValue m_fault m_seen m_isKept m_place m_numbers m_routes) H locs → ∀ ls : Array Slot, lv_has ls 6 [(0, .ref a_mo), (1, .int v1), (2, .int v2), (3, .int v3), (4, .int v4)] → W p l e rmX7_isNear s m args below meth c H locs 0 0 (QI G A below args s res (wX7_isNear G a_mo a_mo_numbers a_mo_routes a_mo_boxes a_mo_words a_mo_weeks a_mo_turns a_mo_leave a_mo_leases a_mo_uses a_mo_arcFrom a_mo_arcTo a_mo_arcRoom a_mo_arcCost a_mo_far a_mo_by a_mo_best a_mo_tape a_mo_kept m_arcs m_tapeMany m_tokenKind m_tokenAt m_tokenEnd m_tokenValue m_fault m_seen m_isKept m_place m_numbers m_routes)) (F0 m 14 ls [])) (h : fX7_isNear_57 k_14 v1 v2 v3 v4 m_routes = some res) : ∀ (H : Heap) (locs : List Loc), Wo G A s (wX7_isNear G a_mo a_mo_numbers a_mo_routes a_mo_boxes a_mo_words a_mo_weeks a_mo_turns a_mo_leave a_mo_leases a_mo_uses a_mo_arcFrom a_mo_arcTo a_mo_arcRoom a_mo_arcCost a_mo_far a_mo_by a_mo_best a_mo_tape a_mo_kept m_arcs m_tapeMany m_tokenKind m_tokenAt m_tokenEnd m_tokenValue m_fault m_seen m_isKept m_place m_numbers m_routes) H locs → ∀ ls : Array Slot, lv_has ls 6 [(0, .ref a_mo), (1, .int v1), (2, .int v2), (3, .int v3), (4, .int v4)] → W p l e rmX7_isNear s m args below meth c H locs 0 0 (QI G A below args s res (wX7_isNear G a_mo a_mo_numbers a_mo_routes a_mo_boxes a_mo_words a_mo_weeks a_mo_turns a_mo_leave a_mo_leases a_mo_uses a_mo_arcFrom a_mo_arcTo a_mo_arcRoom a_mo_arcCost a_mo_far a_mo_by a_mo_best a_mo_tape a_mo_kept m_arcs m_tapeMany m_tokenKind m_tokenAt m_tokenEnd m_tokenValue m_fault m_seen m_isKept m_place m_numbers m_routes)) (F0 m 57 ls []) := by
  obtain ⟨hx, hb, -⟩ := id X.1
  intro H locs hW ls hl
  rw [fX7_isNear_57] at h
  refine lv_iconst hx hb dX7_isNear_57 qI_0 ?_
  exact tX7_isNear_58 X v1 v2 v3 v4 (0 : Int32) k_14 Hk_14 h H locs hW ls hl
set_option maxHeartbeats 4000000 in
set_option maxRecDepth 100000 in
theorem tX7_isNear_14 (X : Bx p s m args meth c cX7_isNear 6 wsX7_isNear RX7 (some .boolean)) (v1 : Int32) (v2 : Int32)   : ∀ (n : Nat) (v3 : Int32) (v4 : Int32), fX7_isNear_14 v1 v2 m_numbers m_routes n v3 v4 = some res → ∀ (H : Heap) (locs : List Loc), Wo G A s (wX7_isNear G a_mo a_mo_numbers a_mo_routes a_mo_boxes a_mo_words a_mo_weeks a_mo_turns a_mo_leave a_mo_leases a_mo_uses a_mo_arcFrom a_mo_arcTo a_mo_arcRoom a_mo_arcCost a_mo_far a_mo_by a_mo_best a_mo_tape a_mo_kept m_arcs m_tapeMany m_tokenKind m_tokenAt m_tokenEnd m_tokenValue m_fault m_seen m_isKept m_place m_numbers m_routes) H locs → ∀ ls : Array Slot, lv_has ls 6 [(0, .ref a_mo), (1, .int v1), (2, .int v2), (3, .int v3), (4, .int v4)] → W p l e rmX7_isNear s m args below meth c H locs 0 0 (QI G A below args s res (wX7_isNear G a_mo a_mo_numbers a_mo_routes a_mo_boxes a_mo_words a_mo_weeks a_mo_turns a_mo_leave a_mo_leases a_mo_uses a_mo_arcFrom a_mo_arcTo a_mo_arcRoom a_mo_arcCost a_mo_far a_mo_by a_mo_best a_mo_tape a_mo_kept m_arcs m_tapeMany m_tokenKind m_tokenAt m_tokenEnd m_tokenValue m_fault m_seen m_isKept m_place m_numbers m_routes)) (F0 m 14 ls []) := by
  obtain ⟨hx, hb, -⟩ := id X.1
  intro n
  induction n with
  | zero => intro v3 v4 h; rw [fX7_isNear_14] at h; cases h
  | succ n ih =>
    intro v3 v4 h H locs hW ls hl
    rw [fX7_isNear_14] at h
    refine lv_iload hx hb dX7_isNear_14 (lv_at hl 4 rfl) ?_
    refine lv_aload_n hx hb dX7_isNear_16 rfl (lv_at hl 0 rfl) ?_
    refine g_get X hW eX7_isNear_7 0 rfl rfl dX7_isNear_17 ?_
    refine lv_iconst hx hb dX7_isNear_20 qI_3 ?_
    obtain ⟨g35, h⟩ := gd_some h
    refine g_ald X hW 1 rfl g35 dX7_isNear_21 ?_
    refine lv_icmp_ge (tgt := 109) hx hb dX7_isNear_22 (by decide) (fun c36 => ?_) (fun c36 => ?_)
    · have h := (if_pos c36).symm.trans h
      refine lv_iload_n hx hb dX7_isNear_109 rfl (lv_at hl 3 rfl) ?_
      obtain ⟨g38, h⟩ := gd_some h
      obtain rfl := Option.some.inj h
      exact g_zret X hW g38 dX7_isNear_110
    · have h := (if_neg c36).symm.trans h
      refine lv_aload_n hx hb dX7_isNear_25 rfl (lv_at hl 0 rfl) ?_
      refine g_get X hW eX7_isNear_22 0 rfl rfl dX7_isNear_26 ?_
      refine lv_iconst hx hb dX7_isNear_29 qI_5 ?_
      refine lv_iload hx hb dX7_isNear_30 (lv_at hl 4 rfl) ?_
      refine lv_imul hx hb dX7_isNear_32 ?_
      obtain ⟨g44, h⟩ := gd_some h
      refine g_ald X hW 2 rfl g44 dX7_isNear_33 ?_
      refine lv_iload_n hx hb dX7_isNear_34 rfl (lv_at hl 1 rfl) ?_
      refine lv_icmp_ne (tgt := 57) hx hb dX7_isNear_35 (by decide) (fun c46 => ?_) (fun c46 => ?_)
      · have h := (if_neg c46).symm.trans h
        exact tX7_isNear_57 X v1 v2 v3 v4 (fun v3 v4 => fX7_isNear_14 v1 v2 m_numbers m_routes n v3 v4) ih h H locs hW ls hl
      · have h := (if_pos c46).symm.trans h
        refine lv_aload_n hx hb dX7_isNear_38 rfl (lv_at hl 0 rfl) ?_
        refine g_get X hW eX7_isNear_22 0 rfl rfl dX7_isNear_39 ?_
        refine lv_iconst hx hb dX7_isNear_42 qI_5 ?_
        refine lv_iload hx hb dX7_isNear_43 (lv_at hl 4 rfl) ?_
        refine lv_imul hx hb dX7_isNear_45 ?_
        refine lv_iconst hx hb dX7_isNear_46 qI_1 ?_
        refine lv_iadd hx hb dX7_isNear_47 ?_
        obtain ⟨g54, h⟩ := gd_some h
        refine g_ald X hW 2 rfl g54 dX7_isNear_48 ?_
        refine lv_iload_n hx hb dX7_isNear_49 rfl (lv_at hl 2 rfl) ?_
        refine lv_icmp_ne (tgt := 57) hx hb dX7_isNear_50 (by decide) (fun c56 => ?_) (fun c56 => ?_)
        · have h := (if_neg c56).symm.trans h
          exact tX7_isNear_57 X v1 v2 v3 v4 (fun v3 v4 => fX7_isNear_14 v1 v2 m_numbers m_routes n v3 v4) ih h H locs hW ls hl
        · have h := (if_pos c56).symm.trans h
          refine lv_iconst hx hb dX7_isNear_53 qI_1 ?_
          refine lv_goto (tgt := 58) hx hb dX7_isNear_54 (by decide) ?_
          exact tX7_isNear_58 X v1 v2 v3 v4 (1 : Int32) (fun v3 v4 => fX7_isNear_14 v1 v2 m_numbers m_routes n v3 v4) ih h H locs hW ls hl
set_option maxHeartbeats 4000000 in
set_option maxRecDepth 100000 in
theorem tX7_isNear_10 (X : Bx p s m args meth c cX7_isNear 6 wsX7_isNear RX7 (some .boolean)) (v1 : Int32) (v2 : Int32) (t0 : Int32)   (h : fX7_isNear_10 v1 v2 t0 m_numbers m_routes = some res) : ∀ (H : Heap) (locs : List Loc), Wo G A s (wX7_isNear G a_mo a_mo_numbers a_mo_routes a_mo_boxes a_mo_words a_mo_weeks a_mo_turns a_mo_leave a_mo_leases a_mo_uses a_mo_arcFrom a_mo_arcTo a_mo_arcRoom a_mo_arcCost a_mo_far a_mo_by a_mo_best a_mo_tape a_mo_kept m_arcs m_tapeMany m_tokenKind m_tokenAt m_tokenEnd m_tokenValue m_fault m_seen m_isKept m_place m_numbers m_routes) H locs → ∀ ls : Array Slot, lv_has ls 6 [(0, .ref a_mo), (1, .int v1), (2, .int v2)] → W p l e rmX7_isNear s m args below meth c H locs 0 0 (QI G A below args s res (wX7_isNear G a_mo a_mo_numbers a_mo_routes a_mo_boxes a_mo_words a_mo_weeks a_mo_turns a_mo_leave a_mo_leases a_mo_uses a_mo_arcFrom a_mo_arcTo a_mo_arcRoom a_mo_arcCost a_mo_far a_mo_by a_mo_best a_mo_tape a_mo_kept m_arcs m_tapeMany m_tokenKind m_tokenAt m_tokenEnd m_tokenValue m_fault m_seen m_isKept m_place m_numbers m_routes)) (F0 m 10 ls [.int t0]) := by
  obtain ⟨hx, hb, -⟩ := id X.1
  intro H locs hW ls hl
  rw [fX7_isNear_10] at h
  refine lv_istore_n (lv' := [(3, .int t0), (0, .ref a_mo), (1, .int v1), (2, .int v2)]) hx hb dX7_isNear_10 rfl hl (by decide) rfl (fun ls hl => ?_)
  refine lv_iconst hx hb dX7_isNear_11 qI_0 ?_
  refine lv_istore (lv' := [(4, .int (0 : Int32)), (3, .int t0), (0, .ref a_mo), (1, .int v1), (2, .int v2)]) hx hb dX7_isNear_12 hl (by decide) rfl (fun ls hl => ?_)
  exact tX7_isNear_14 X v1 v2 FU t0 (0 : Int32) h H locs hW ls (lv_sub hl [2, 3, 4, 1, 0] rfl)
set_option maxHeartbeats 4000000 in
set_option maxRecDepth 100000 in
theorem k0X7_isNear {l : Launch} (G : Gt) (a_mo a_mo_numbers a_mo_routes a_mo_boxes a_mo_words a_mo_weeks a_mo_turns a_mo_leave a_mo_leases a_mo_uses a_mo_arcFrom a_mo_arcTo a_mo_arcRoom a_mo_arcCost a_mo_far a_mo_by a_mo_best a_mo_tape a_mo_kept : Nat) (v1 : Int32) (v2 : Int32) (m_arcs : Int32) (m_tapeMany : Int32) (m_tokenKind : Int32) (m_tokenAt : Int32) (m_tokenEnd : Int32) (m_tokenValue : Int32) (m_fault : Int32) (m_seen : Int32) (m_isKept : Int32) (m_place : Int32) (m_numbers : (Nat → Int32)) (m_routes : (Nat → Int32)) {res : Int32} (h : fX7_isNear v1 v2 m_numbers m_routes = some res) : CtI G l yX7_isNear wsX7_isNear rmX7_isNear [.ref a_mo, .int v1, .int v2] (wX7_isNear G a_mo a_mo_numbers a_mo_routes a_mo_boxes a_mo_words a_mo_weeks a_mo_turns a_mo_leave a_mo_leases a_mo_uses a_mo_arcFrom a_mo_arcTo a_mo_arcRoom a_mo_arcCost a_mo_far a_mo_by a_mo_best a_mo_tape a_mo_kept m_arcs m_tapeMany m_tokenKind m_tokenAt m_tokenEnd m_tokenValue m_fault m_seen m_isKept m_place m_numbers m_routes) res (wX7_isNear G a_mo a_mo_numbers a_mo_routes a_mo_boxes a_mo_words a_mo_weeks a_mo_turns a_mo_leave a_mo_leases a_mo_uses a_mo_arcFrom a_mo_arcTo a_mo_arcRoom a_mo_arcCost a_mo_far a_mo_by a_mo_best a_mo_tape a_mo_kept m_arcs m_tapeMany m_tokenKind m_tokenAt m_tokenEnd m_tokenValue m_fault m_seen m_isKept m_place m_numbers m_routes) := by
  refine CtI.mk (cc := cX7_isNear) (maxL := 6) (ret := (some .boolean)) (own := RX7) (by decide) rfl rfl (Nat.le_of_ble_eq_true rfl) ?_
  intro p e s m below meth c A X ls hl hW
  obtain ⟨hx, hb, -⟩ := id X.1
  have hl : lv_has ls 6 [(0, .ref a_mo), (1, .int v1), (2, .int v2)] := hl
  generalize hH : s.heap = H at hW ⊢
  generalize hLo : ([] : List Loc) = locs at hW ⊢
  rw [fX7_isNear] at h
  refine lv_iload_n hx hb dX7_isNear_0 rfl (lv_at hl 1 rfl) ?_
  refine lv_iload_n hx hb dX7_isNear_1 rfl (lv_at hl 2 rfl) ?_
  refine lv_icmp_ne (tgt := 9) hx hb dX7_isNear_2 (by decide) (fun c64 => ?_) (fun c64 => ?_)
  · have h := (if_neg c64).symm.trans h
    refine lv_iconst hx hb dX7_isNear_9 qI_0 ?_
    exact tX7_isNear_10 X v1 v2 (0 : Int32) h H locs hW ls hl
  · have h := (if_pos c64).symm.trans h
    refine lv_iconst hx hb dX7_isNear_5 qI_1 ?_
    refine lv_goto (tgt := 10) hx hb dX7_isNear_6 (by decide) ?_
    exact tX7_isNear_10 X v1 v2 (1 : Int32) h H locs hW ls hl
theorem kcX7_isNear {l : Launch} (G : Gt) (a_mo a_mo_numbers a_mo_routes a_mo_boxes a_mo_words a_mo_weeks a_mo_turns a_mo_leave a_mo_leases a_mo_uses a_mo_arcFrom a_mo_arcTo a_mo_arcRoom a_mo_arcCost a_mo_far a_mo_by a_mo_best a_mo_tape a_mo_kept : Nat) (v1 : Int32) (v2 : Int32) (m_arcs : Int32) (m_tapeMany : Int32) (m_tokenKind : Int32) (m_tokenAt : Int32) (m_tokenEnd : Int32) (m_tokenValue : Int32) (m_fault : Int32) (m_seen : Int32) (m_isKept : Int32) (m_place : Int32) (m_numbers : (Nat → Int32)) (m_routes : (Nat → Int32)) {r : Int32}  (h : fX7_isNear v1 v2 m_numbers m_routes = some r) : CtI G l yX7_isNear wsX7_isNear rmX7_isNear [.ref a_mo, .int v1, .int v2] (wX7_isNear G a_mo a_mo_numbers a_mo_routes a_mo_boxes a_mo_words a_mo_weeks a_mo_turns a_mo_leave a_mo_leases a_mo_uses a_mo_arcFrom a_mo_arcTo a_mo_arcRoom a_mo_arcCost a_mo_far a_mo_by a_mo_best a_mo_tape a_mo_kept m_arcs m_tapeMany m_tokenKind m_tokenAt m_tokenEnd m_tokenValue m_fault m_seen m_isKept m_place m_numbers m_routes) r (wX7_isNear G a_mo a_mo_numbers a_mo_routes a_mo_boxes a_mo_words a_mo_weeks a_mo_turns a_mo_leave a_mo_leases a_mo_uses a_mo_arcFrom a_mo_arcTo a_mo_arcRoom a_mo_arcCost a_mo_far a_mo_by a_mo_best a_mo_tape a_mo_kept m_arcs m_tapeMany m_tokenKind m_tokenAt m_tokenEnd m_tokenValue m_fault m_seen m_isKept m_place m_numbers m_routes) := k0X7_isNear G a_mo a_mo_numbers a_mo_routes a_mo_boxes a_mo_words a_mo_weeks a_mo_turns a_mo_leave a_mo_leases a_mo_uses a_mo_arcFrom a_mo_arcTo a_mo_arcRoom a_mo_arcCost a_mo_far a_mo_by a_mo_best a_mo_tape a_mo_kept v1 v2 m_arcs m_tapeMany m_tokenKind m_tokenAt m_tokenEnd m_tokenValue m_fault m_seen m_isKept m_place m_numbers m_routes h
end MX7_isNear
/-! EmptyBoxesModel.suitsIt -/
section MX7_suitsIt
theorem hdX7_suitsIt : yX7_suitsIt.cls = RX7 ∧ yX7_suitsIt.cls ≠ "java/lang/invoke/MethodHandle" ∧ yX7_suitsIt.cls ≠ "java/lang/invoke/VarHandle" ∧ (parseMethodDescriptor yX7_suitsIt.desc).map (fun d => d.parameters.length) = some 2 := by decide +kernel
abbrev wX7_suitsIt (G : Gt) (a_mo a_mo_numbers a_mo_routes a_mo_turns a_mo_leave a_mo_boxes a_mo_words a_mo_weeks a_mo_leases a_mo_uses a_mo_arcFrom a_mo_arcTo a_mo_arcRoom a_mo_arcCost a_mo_far a_mo_by a_mo_best a_mo_tape a_mo_kept : Nat) (m_arcs : Int32) (m_tapeMany : Int32) (m_tokenKind : Int32) (m_tokenAt : Int32) (m_tokenEnd : Int32) (m_tokenValue : Int32) (m_fault : Int32) (m_seen : Int32) (m_isKept : Int32) (m_place : Int32) (m_numbers : (Nat → Int32)) (m_routes : (Nat → Int32)) (m_turns : (Nat → Int32)) (m_leave : (Nat → Int32)) : va_W := [(a_mo, .inr (7, [.ref a_mo_numbers, .ref a_mo_boxes, .ref a_mo_words, .ref a_mo_weeks, .ref a_mo_routes, .ref a_mo_turns, .ref a_mo_leave, .ref a_mo_leases, .ref a_mo_uses, .ref a_mo_arcFrom, .ref a_mo_arcTo, .ref a_mo_arcRoom, .ref a_mo_arcCost, .int m_arcs, .ref a_mo_far, .ref a_mo_by, .ref a_mo_best, .ref a_mo_tape, .int m_tapeMany, .int m_tokenKind, .int m_tokenAt, .int m_tokenEnd, .int m_tokenValue, .int m_fault, .int m_seen, .int m_isKept, .ref a_mo_kept, .int m_place])), (a_mo_numbers, .inl (G.2.1, 10, .inl m_numbers)), (a_mo_routes, .inl (G.2.1, 50, .inl m_routes)), (a_mo_turns, .inl (G.2.1, 70, .inl m_turns)), (a_mo_leave, .inl (G.2.1, 16, .inl m_leave))]
abbrev rmX7_suitsIt : Room := { frames := 1, cells := 0, slots := 0, locals := 25 }
theorem iX7_suitsIt_X7 : ∀ w ∈ wsX70, w ∈ wsX7_suitsIt := by decide +kernel
theorem eX7_suitsIt_25 : Fk wsX7_suitsIt RX7 25 7 5 := ⟨RX7, TX7, 28, rfl, iX7_suitsIt_X7, by decide, by decide +kernel⟩
theorem eX7_suitsIt_28 : Fk wsX7_suitsIt RX7 28 7 6 := ⟨RX7, TX7, 28, rfl, iX7_suitsIt_X7, by decide, by decide +kernel⟩
theorem ckX7_suitsIt_X7_isNear_129 : CkV wsX7_suitsIt RX7 129 yX7_isNear wsX7_isNear cX7_isNear 6 (some .boolean) 2 7 := ⟨RX7, TX7, 28, _, rfl, gX7_suitsIt_X7_isNear, rfl, hdX7_isNear⟩
variable {p : Program} {l : Launch} {e : Env} {s : State} {m : MethodId} {args : Array Value} {below : List Frame} {meth : Method} {c : Code} {A : Nat → Prop} {G : Gt} {a_mo a_mo_numbers a_mo_routes a_mo_turns a_mo_leave a_mo_boxes a_mo_words a_mo_weeks a_mo_leases a_mo_uses a_mo_arcFrom a_mo_arcTo a_mo_arcRoom a_mo_arcCost a_mo_far a_mo_by a_mo_best a_mo_tape a_mo_kept : Nat} {m_arcs : Int32} {m_tapeMany : Int32} {m_tokenKind : Int32} {m_tokenAt : Int32} {m_tokenEnd : Int32} {m_tokenValue : Int32} {m_fault : Int32} {m_seen : Int32} {m_isKept : Int32} {m_place : Int32} {m_numbers : (Nat → Int32)} {m_routes : (Nat → Int32)} {m_turns : (Nat → Int32)} {m_leave : (Nat → Int32)} {res : Int32}
set_option maxHeartbeats 4000000 in
set_option maxRecDepth 100000 in
theorem tX7_suitsIt_113 (X : Bx p s m args meth c cX7_suitsIt 7 wsX7_suitsIt RX7 (some .boolean)) (v3 : Int32) (v4 : Int32) (v5 : Int32) (t0 : Int32)   (h : fX7_suitsIt_113 v3 v4 v5 t0 m_numbers m_routes m_turns = some res) : ∀ (H : Heap) (locs : List Loc), Wo G A s (wX7_suitsIt G a_mo a_mo_numbers a_mo_routes a_mo_turns a_mo_leave a_mo_boxes a_mo_words a_mo_weeks a_mo_leases a_mo_uses a_mo_arcFrom a_mo_arcTo a_mo_arcRoom a_mo_arcCost a_mo_far a_mo_by a_mo_best a_mo_tape a_mo_kept m_arcs m_tapeMany m_tokenKind m_tokenAt m_tokenEnd m_tokenValue m_fault m_seen m_isKept m_place m_numbers m_routes m_turns m_leave) H locs → ∀ ls : Array Slot, lv_has ls 7 [(0, .ref a_mo), (3, .int v3), (4, .int v4), (5, .int v5)] → W p l e rmX7_suitsIt s m args below meth c H locs 0 0 (QI G A below args s res (wX7_suitsIt G a_mo a_mo_numbers a_mo_routes a_mo_turns a_mo_leave a_mo_boxes a_mo_words a_mo_weeks a_mo_leases a_mo_uses a_mo_arcFrom a_mo_arcTo a_mo_arcRoom a_mo_arcCost a_mo_far a_mo_by a_mo_best a_mo_tape a_mo_kept m_arcs m_tapeMany m_tokenKind m_tokenAt m_tokenEnd m_tokenValue m_fault m_seen m_isKept m_place m_numbers m_routes m_turns m_leave)) (F0 m 113 ls [.int t0]) := by
  obtain ⟨hx, hb, -⟩ := id X.1
  intro H locs hW ls hl
  rw [fX7_suitsIt_113] at h
  refine lv_istore (lv' := [(6, .int t0), (0, .ref a_mo), (3, .int v3), (4, .int v4), (5, .int v5)]) hx hb dX7_suitsIt_113 hl (by decide) rfl (fun ls hl => ?_)
  refine lv_aload_n hx hb dX7_suitsIt_115 rfl (lv_at hl 1 rfl) ?_
  refine g_get X hW eX7_suitsIt_25 0 rfl rfl dX7_suitsIt_116 ?_
  refine lv_iload_n hx hb dX7_suitsIt_119 rfl (lv_at hl 2 rfl) ?_
  refine lv_iconst hx hb dX7_suitsIt_120 qI_2 ?_
  refine lv_iadd hx hb dX7_suitsIt_121 ?_
  obtain ⟨g7, h⟩ := gd_some h
  refine g_ald X hW 3 rfl g7 dX7_suitsIt_122 ?_
  refine lv_aload_n hx hb dX7_suitsIt_123 rfl (lv_at hl 1 rfl) ?_
  refine g_get X hW eX7_suitsIt_25 0 rfl rfl dX7_suitsIt_124 ?_
  refine lv_iload hx hb dX7_suitsIt_127 (lv_at hl 3 rfl) ?_
  refine lv_iconst hx hb dX7_suitsIt_129 qI_2 ?_
  refine lv_iadd hx hb dX7_suitsIt_130 ?_
  obtain ⟨g13, h⟩ := gd_some h
  refine g_ald X hW 3 rfl g13 dX7_suitsIt_131 ?_
  refine lv_icmp_ne (tgt := 169) hx hb dX7_suitsIt_132 (by decide) (fun c14 => ?_) (fun c14 => ?_)
  · have h := (if_neg c14).symm.trans h
    refine lv_iconst hx hb dX7_suitsIt_169 qI_0 ?_
    obtain rfl := Option.some.inj h
    exact g_zret X hW rfl dX7_suitsIt_170
  · have h := (if_pos c14).symm.trans h
    refine lv_iload hx hb dX7_suitsIt_135 (lv_at hl 4 rfl) ?_
    refine lv_if_eq (tgt := 169) hx hb dX7_suitsIt_137 (by decide) (fun c18 => ?_) (fun c18 => ?_)
    · have h := (if_pos c18).symm.trans h
      refine lv_iconst hx hb dX7_suitsIt_169 qI_0 ?_
      obtain rfl := Option.some.inj h
      exact g_zret X hW rfl dX7_suitsIt_170
    · have h := (if_neg c18).symm.trans h
      refine lv_iload hx hb dX7_suitsIt_140 (lv_at hl 0 rfl) ?_
      refine lv_if_eq (tgt := 169) hx hb dX7_suitsIt_142 (by decide) (fun c22 => ?_) (fun c22 => ?_)
      · have h := (if_pos c22).symm.trans h
        refine lv_iconst hx hb dX7_suitsIt_169 qI_0 ?_
        obtain rfl := Option.some.inj h
        exact g_zret X hW rfl dX7_suitsIt_170
      · have h := (if_neg c22).symm.trans h
        refine lv_aload_n hx hb dX7_suitsIt_145 rfl (lv_at hl 1 rfl) ?_
        refine lv_aload_n hx hb dX7_suitsIt_146 rfl (lv_at hl 1 rfl) ?_
        refine g_get X hW eX7_suitsIt_25 0 rfl rfl dX7_suitsIt_147 ?_
        refine lv_iload_n hx hb dX7_suitsIt_150 rfl (lv_at hl 2 rfl) ?_
        obtain ⟨g29, h⟩ := gd_some h
        refine g_ald X hW 3 rfl g29 dX7_suitsIt_151 ?_
        refine lv_aload_n hx hb dX7_suitsIt_152 rfl (lv_at hl 1 rfl) ?_
        refine g_get X hW eX7_suitsIt_25 0 rfl rfl dX7_suitsIt_153 ?_
        refine lv_iload hx hb dX7_suitsIt_156 (lv_at hl 3 rfl) ?_
        obtain ⟨g33, h⟩ := gd_some h
        refine g_ald X hW 3 rfl g33 dX7_suitsIt_158 ?_
        obtain ⟨r34, hq, h⟩ := bn1_some h
        refine g_cvi X hW (As := [.int (m_turns v3.toNatClampNeg), .int (m_turns v4.toNatClampNeg)]) (ws' := (wX7_suitsIt G a_mo a_mo_numbers a_mo_routes a_mo_turns a_mo_leave a_mo_boxes a_mo_words a_mo_weeks a_mo_leases a_mo_uses a_mo_arcFrom a_mo_arcTo a_mo_arcRoom a_mo_arcCost a_mo_far a_mo_by a_mo_best a_mo_tape a_mo_kept m_arcs m_tapeMany m_tokenKind m_tokenAt m_tokenEnd m_tokenValue m_fault m_seen m_isKept m_place m_numbers m_routes m_turns m_leave)) ckX7_suitsIt_X7_isNear_129 (kcX7_isNear (l := l) G a_mo a_mo_numbers a_mo_routes a_mo_boxes a_mo_words a_mo_weeks a_mo_turns a_mo_leave a_mo_leases a_mo_uses a_mo_arcFrom a_mo_arcTo a_mo_arcRoom a_mo_arcCost a_mo_far a_mo_by a_mo_best a_mo_tape a_mo_kept (m_turns v3.toNatClampNeg) (m_turns v4.toNatClampNeg) m_arcs m_tapeMany m_tokenKind m_tokenAt m_tokenEnd m_tokenValue m_fault m_seen m_isKept m_place m_numbers m_routes hq) ⟨rfl, rfl, Nat.le_of_ble_eq_true rfl, Nat.le_of_ble_eq_true rfl⟩ [0, 1, 2] rfl rfl rfl rfl rfl rfl rfl hl.1 (Nat.le_of_ble_eq_true rfl) ⟨Nat.zero_le _, Nat.zero_le _⟩ dX7_suitsIt_159 (fun H locs hW => ?_)
        refine lv_if_eq (tgt := 169) hx hb dX7_suitsIt_162 (by decide) (fun c35 => ?_) (fun c35 => ?_)
        · have h := (if_pos c35).symm.trans h
          refine lv_iconst hx hb dX7_suitsIt_169 qI_0 ?_
          obtain rfl := Option.some.inj h
          exact g_zret X hW rfl dX7_suitsIt_170
        · have h := (if_neg c35).symm.trans h
          refine lv_iconst hx hb dX7_suitsIt_165 qI_1 ?_
          refine lv_goto (tgt := 170) hx hb dX7_suitsIt_166 (by decide) ?_
          obtain rfl := Option.some.inj h
          exact g_zret X hW rfl dX7_suitsIt_170
set_option maxHeartbeats 4000000 in
set_option maxRecDepth 100000 in
theorem tX7_suitsIt_112 (X : Bx p s m args meth c cX7_suitsIt 7 wsX7_suitsIt RX7 (some .boolean)) (v3 : Int32) (v4 : Int32) (v5 : Int32)   (h : fX7_suitsIt_112 v3 v4 v5 m_numbers m_routes m_turns = some res) : ∀ (H : Heap) (locs : List Loc), Wo G A s (wX7_suitsIt G a_mo a_mo_numbers a_mo_routes a_mo_turns a_mo_leave a_mo_boxes a_mo_words a_mo_weeks a_mo_leases a_mo_uses a_mo_arcFrom a_mo_arcTo a_mo_arcRoom a_mo_arcCost a_mo_far a_mo_by a_mo_best a_mo_tape a_mo_kept m_arcs m_tapeMany m_tokenKind m_tokenAt m_tokenEnd m_tokenValue m_fault m_seen m_isKept m_place m_numbers m_routes m_turns m_leave) H locs → ∀ ls : Array Slot, lv_has ls 7 [(0, .ref a_mo), (3, .int v3), (4, .int v4), (5, .int v5)] → W p l e rmX7_suitsIt s m args below meth c H locs 0 0 (QI G A below args s res (wX7_suitsIt G a_mo a_mo_numbers a_mo_routes a_mo_turns a_mo_leave a_mo_boxes a_mo_words a_mo_weeks a_mo_leases a_mo_uses a_mo_arcFrom a_mo_arcTo a_mo_arcRoom a_mo_arcCost a_mo_far a_mo_by a_mo_best a_mo_tape a_mo_kept m_arcs m_tapeMany m_tokenKind m_tokenAt m_tokenEnd m_tokenValue m_fault m_seen m_isKept m_place m_numbers m_routes m_turns m_leave)) (F0 m 112 ls []) := by
  obtain ⟨hx, hb, -⟩ := id X.1
  intro H locs hW ls hl
  rw [fX7_suitsIt_112] at h
  refine lv_iconst hx hb dX7_suitsIt_112 qI_0 ?_
  exact tX7_suitsIt_113 X v3 v4 v5 (0 : Int32) h H locs hW ls hl
set_option maxHeartbeats 4000000 in
set_option maxRecDepth 100000 in
theorem tX7_suitsIt_66 (X : Bx p s m args meth c cX7_suitsIt 7 wsX7_suitsIt RX7 (some .boolean)) (v3 : Int32) (v4 : Int32) (t0 : Int32)   (h : fX7_suitsIt_66 v3 v4 t0 m_numbers m_routes m_turns = some res) : ∀ (H : Heap) (locs : List Loc), Wo G A s (wX7_suitsIt G a_mo a_mo_numbers a_mo_routes a_mo_turns a_mo_leave a_mo_boxes a_mo_words a_mo_weeks a_mo_leases a_mo_uses a_mo_arcFrom a_mo_arcTo a_mo_arcRoom a_mo_arcCost a_mo_far a_mo_by a_mo_best a_mo_tape a_mo_kept m_arcs m_tapeMany m_tokenKind m_tokenAt m_tokenEnd m_tokenValue m_fault m_seen m_isKept m_place m_numbers m_routes m_turns m_leave) H locs → ∀ ls : Array Slot, lv_has ls 7 [(0, .ref a_mo), (3, .int v3), (4, .int v4)] → W p l e rmX7_suitsIt s m args below meth c H locs 0 0 (QI G A below args s res (wX7_suitsIt G a_mo a_mo_numbers a_mo_routes a_mo_turns a_mo_leave a_mo_boxes a_mo_words a_mo_weeks a_mo_leases a_mo_uses a_mo_arcFrom a_mo_arcTo a_mo_arcRoom a_mo_arcCost a_mo_far a_mo_by a_mo_best a_mo_tape a_mo_kept m_arcs m_tapeMany m_tokenKind m_tokenAt m_tokenEnd m_tokenValue m_fault m_seen m_isKept m_place m_numbers m_routes m_turns m_leave)) (F0 m 66 ls [.int t0]) := by
  obtain ⟨hx, hb, -⟩ := id X.1
  intro H locs hW ls hl
  rw [fX7_suitsIt_66] at h
  refine lv_istore (lv' := [(5, .int t0), (0, .ref a_mo), (3, .int v3), (4, .int v4)]) hx hb dX7_suitsIt_66 hl (by decide) rfl (fun ls hl => ?_)
  refine lv_aload_n hx hb dX7_suitsIt_68 rfl (lv_at hl 1 rfl) ?_
  refine g_get X hW eX7_suitsIt_25 0 rfl rfl dX7_suitsIt_69 ?_
  refine lv_iload_n hx hb dX7_suitsIt_72 rfl (lv_at hl 2 rfl) ?_
  refine lv_iconst hx hb dX7_suitsIt_73 qI_3 ?_
  refine lv_iadd hx hb dX7_suitsIt_74 ?_
  obtain ⟨g48, h⟩ := gd_some h
  refine g_ald X hW 3 rfl g48 dX7_suitsIt_75 ?_
  refine lv_aload_n hx hb dX7_suitsIt_76 rfl (lv_at hl 1 rfl) ?_
  refine g_get X hW eX7_suitsIt_25 0 rfl rfl dX7_suitsIt_77 ?_
  refine lv_iload hx hb dX7_suitsIt_80 (lv_at hl 3 rfl) ?_
  refine lv_iconst hx hb dX7_suitsIt_82 qI_4 ?_
  refine lv_iadd hx hb dX7_suitsIt_83 ?_
  obtain ⟨g54, h⟩ := gd_some h
  refine g_ald X hW 3 rfl g54 dX7_suitsIt_84 ?_
  refine lv_icmp_gt (tgt := 112) hx hb dX7_suitsIt_85 (by decide) (fun c55 => ?_) (fun c55 => ?_)
  · have h := (if_pos c55).symm.trans h
    exact tX7_suitsIt_112 X v3 v4 t0 h H locs hW ls (lv_sub hl [1, 2, 3, 0] rfl)
  · have h := (if_neg c55).symm.trans h
    refine lv_aload_n hx hb dX7_suitsIt_88 rfl (lv_at hl 1 rfl) ?_
    refine g_get X hW eX7_suitsIt_25 0 rfl rfl dX7_suitsIt_89 ?_
    refine lv_iload hx hb dX7_suitsIt_92 (lv_at hl 3 rfl) ?_
    refine lv_iconst hx hb dX7_suitsIt_94 qI_3 ?_
    refine lv_iadd hx hb dX7_suitsIt_95 ?_
    obtain ⟨g61, h⟩ := gd_some h
    refine g_ald X hW 3 rfl g61 dX7_suitsIt_96 ?_
    refine lv_aload_n hx hb dX7_suitsIt_97 rfl (lv_at hl 1 rfl) ?_
    refine g_get X hW eX7_suitsIt_25 0 rfl rfl dX7_suitsIt_98 ?_
    refine lv_iload_n hx hb dX7_suitsIt_101 rfl (lv_at hl 2 rfl) ?_
    refine lv_iconst hx hb dX7_suitsIt_102 qI_4 ?_
    refine lv_iadd hx hb dX7_suitsIt_103 ?_
    obtain ⟨g67, h⟩ := gd_some h
    refine g_ald X hW 3 rfl g67 dX7_suitsIt_104 ?_
    refine lv_icmp_gt (tgt := 112) hx hb dX7_suitsIt_105 (by decide) (fun c68 => ?_) (fun c68 => ?_)
    · have h := (if_pos c68).symm.trans h
      exact tX7_suitsIt_112 X v3 v4 t0 h H locs hW ls (lv_sub hl [1, 2, 3, 0] rfl)
    · have h := (if_neg c68).symm.trans h
      refine lv_iconst hx hb dX7_suitsIt_108 qI_1 ?_
      refine lv_goto (tgt := 113) hx hb dX7_suitsIt_109 (by decide) ?_
      exact tX7_suitsIt_113 X v3 v4 t0 (1 : Int32) h H locs hW ls (lv_sub hl [1, 2, 3, 0] rfl)
set_option maxHeartbeats 4000000 in
set_option maxRecDepth 100000 in
theorem tX7_suitsIt_61 (X : Bx p s m args meth c cX7_suitsIt 7 wsX7_suitsIt RX7 (some .boolean)) (v3 : Int32) (v4 : Int32)   (h : fX7_suitsIt_61 v3 v4 m_numbers m_routes m_turns = some res) : ∀ (H : Heap) (locs : List Loc), Wo G A s (wX7_suitsIt G a_mo a_mo_numbers a_mo_routes a_mo_turns a_mo_leave a_mo_boxes a_mo_words a_mo_weeks a_mo_leases a_mo_uses a_mo_arcFrom a_mo_arcTo a_mo_arcRoom a_mo_arcCost a_mo_far a_mo_by a_mo_best a_mo_tape a_mo_kept m_arcs m_tapeMany m_tokenKind m_tokenAt m_tokenEnd m_tokenValue m_fault m_seen m_isKept m_place m_numbers m_routes m_turns m_leave) H locs → ∀ ls : Array Slot, lv_has ls 7 [(0, .ref a_mo), (3, .int v3), (4, .int v4)] → W p l e rmX7_suitsIt s m args below meth c H locs 0 0 (QI G A below args s res (wX7_suitsIt G a_mo a_mo_numbers a_mo_routes a_mo_turns a_mo_leave a_mo_boxes a_mo_words a_mo_weeks a_mo_leases a_mo_uses a_mo_arcFrom a_mo_arcTo a_mo_arcRoom a_mo_arcCost a_mo_far a_mo_by a_mo_best a_mo_tape a_mo_kept m_arcs m_tapeMany m_tokenKind m_tokenAt m_tokenEnd m_tokenValue m_fault m_seen m_isKept m_place m_numbers m_routes m_turns m_leave)) (F0 m 61 ls []) := by
  obtain ⟨hx, hb, -⟩ := id X.1
  intro H locs hW ls hl
  rw [fX7_suitsIt_61] at h
  refine lv_iconst hx hb dX7_suitsIt_61 qI_1 ?_
  refine lv_goto (tgt := 66) hx hb dX7_suitsIt_62 (by decide) ?_
  exact tX7_suitsIt_66 X v3 v4 (1 : Int32) h H locs hW ls hl
set_option maxHeartbeats 4000000 in
set_option maxRecDepth 100000 in
theorem k0X7_suitsIt {l : Launch} (G : Gt) (a_mo a_mo_numbers a_mo_routes a_mo_turns a_mo_leave a_mo_boxes a_mo_words a_mo_weeks a_mo_leases a_mo_uses a_mo_arcFrom a_mo_arcTo a_mo_arcRoom a_mo_arcCost a_mo_far a_mo_by a_mo_best a_mo_tape a_mo_kept : Nat) (v1 : Int32) (v2 : Int32) (m_arcs : Int32) (m_tapeMany : Int32) (m_tokenKind : Int32) (m_tokenAt : Int32) (m_tokenEnd : Int32) (m_tokenValue : Int32) (m_fault : Int32) (m_seen : Int32) (m_isKept : Int32) (m_place : Int32) (m_numbers : (Nat → Int32)) (m_routes : (Nat → Int32)) (m_turns : (Nat → Int32)) (m_leave : (Nat → Int32)) {res : Int32} (h : fX7_suitsIt v1 v2 m_numbers m_routes m_turns m_leave = some res) : CtI G l yX7_suitsIt wsX7_suitsIt rmX7_suitsIt [.ref a_mo, .int v1, .int v2] (wX7_suitsIt G a_mo a_mo_numbers a_mo_routes a_mo_turns a_mo_leave a_mo_boxes a_mo_words a_mo_weeks a_mo_leases a_mo_uses a_mo_arcFrom a_mo_arcTo a_mo_arcRoom a_mo_arcCost a_mo_far a_mo_by a_mo_best a_mo_tape a_mo_kept m_arcs m_tapeMany m_tokenKind m_tokenAt m_tokenEnd m_tokenValue m_fault m_seen m_isKept m_place m_numbers m_routes m_turns m_leave) res (wX7_suitsIt G a_mo a_mo_numbers a_mo_routes a_mo_turns a_mo_leave a_mo_boxes a_mo_words a_mo_weeks a_mo_leases a_mo_uses a_mo_arcFrom a_mo_arcTo a_mo_arcRoom a_mo_arcCost a_mo_far a_mo_by a_mo_best a_mo_tape a_mo_kept m_arcs m_tapeMany m_tokenKind m_tokenAt m_tokenEnd m_tokenValue m_fault m_seen m_isKept m_place m_numbers m_routes m_turns m_leave) := by
  refine CtI.mk (cc := cX7_suitsIt) (maxL := 7) (ret := (some .boolean)) (own := RX7) (by decide) rfl rfl (Nat.le_of_ble_eq_true rfl) ?_
  intro p e s m below meth c A X ls hl hW
  obtain ⟨hx, hb, -⟩ := id X.1
  have hl : lv_has ls 7 [(0, .ref a_mo), (1, .int v1), (2, .int v2)] := hl
  generalize hH : s.heap = H at hW ⊢
  generalize hLo : ([] : List Loc) = locs at hW ⊢
  rw [fX7_suitsIt] at h
  refine lv_iconst hx hb dX7_suitsIt_0 qI_5 ?_
  refine lv_iload_n hx hb dX7_suitsIt_1 rfl (lv_at hl 1 rfl) ?_
  refine lv_imul hx hb dX7_suitsIt_2 ?_
  refine lv_istore_n (lv' := [(3, .int ((5 : Int32) * v1)), (0, .ref a_mo), (1, .int v1), (2, .int v2)]) hx hb dX7_suitsIt_3 rfl hl (by decide) rfl (fun ls hl => ?_)
  refine lv_bipush hx hb dX7_suitsIt_4 qB_35 ?_
  refine lv_iconst hx hb dX7_suitsIt_6 qI_5 ?_
  refine lv_iload_n hx hb dX7_suitsIt_7 rfl (lv_at hl 3 rfl) ?_
  refine lv_imul hx hb dX7_suitsIt_8 ?_
  refine lv_iadd hx hb dX7_suitsIt_9 ?_
  refine lv_istore (lv' := [(4, .int ((35 : Int32) + ((5 : Int32) * v2))), (3, .int ((5 : Int32) * v1)), (0, .ref a_mo), (1, .int v1), (2, .int v2)]) hx hb dX7_suitsIt_10 hl (by decide) rfl (fun ls hl => ?_)
  refine lv_aload_n hx hb dX7_suitsIt_12 rfl (lv_at hl 2 rfl) ?_
  refine g_get X hW eX7_suitsIt_25 0 rfl rfl dX7_suitsIt_13 ?_
  refine lv_iload_n hx hb dX7_suitsIt_16 rfl (lv_at hl 1 rfl) ?_
  refine lv_iconst hx hb dX7_suitsIt_17 qI_1 ?_
  refine lv_iadd hx hb dX7_suitsIt_18 ?_
  obtain ⟨g88, h⟩ := gd_some h
  refine g_ald X hW 3 rfl g88 dX7_suitsIt_19 ?_
  refine lv_aload_n hx hb dX7_suitsIt_20 rfl (lv_at hl 2 rfl) ?_
  refine g_get X hW eX7_suitsIt_25 0 rfl rfl dX7_suitsIt_21 ?_
  refine lv_iload hx hb dX7_suitsIt_24 (lv_at hl 0 rfl) ?_
  refine lv_iconst hx hb dX7_suitsIt_26 qI_1 ?_
  refine lv_iadd hx hb dX7_suitsIt_27 ?_
  obtain ⟨g94, h⟩ := gd_some h
  refine g_ald X hW 3 rfl g94 dX7_suitsIt_28 ?_
  refine lv_icmp_eq (tgt := 61) hx hb dX7_suitsIt_29 (by decide) (fun c95 => ?_) (fun c95 => ?_)
  · have h := (if_pos c95).symm.trans h
    exact tX7_suitsIt_61 X ((5 : Int32) * v1) ((35 : Int32) + ((5 : Int32) * v2)) h H locs hW ls (lv_sub hl [2, 1, 0] rfl)
  · have h := (if_neg c95).symm.trans h
    refine lv_aload_n hx hb dX7_suitsIt_32 rfl (lv_at hl 2 rfl) ?_
    refine g_get X hW eX7_suitsIt_28 0 rfl rfl dX7_suitsIt_33 ?_
    refine lv_iconst hx hb dX7_suitsIt_36 qI_4 ?_
    refine lv_aload_n hx hb dX7_suitsIt_37 rfl (lv_at hl 2 rfl) ?_
    refine g_get X hW eX7_suitsIt_25 0 rfl rfl dX7_suitsIt_38 ?_
    refine lv_iload_n hx hb dX7_suitsIt_41 rfl (lv_at hl 1 rfl) ?_
    refine lv_iconst hx hb dX7_suitsIt_42 qI_1 ?_
    refine lv_iadd hx hb dX7_suitsIt_43 ?_
    obtain ⟨g104, h⟩ := gd_some h
    refine g_ald X hW 3 rfl g104 dX7_suitsIt_44 ?_
    refine lv_imul hx hb dX7_suitsIt_45 ?_
    refine lv_aload_n hx hb dX7_suitsIt_46 rfl (lv_at hl 2 rfl) ?_
    refine g_get X hW eX7_suitsIt_25 0 rfl rfl dX7_suitsIt_47 ?_
    refine lv_iload hx hb dX7_suitsIt_50 (lv_at hl 0 rfl) ?_
    refine lv_iconst hx hb dX7_suitsIt_52 qI_1 ?_
    refine lv_iadd hx hb dX7_suitsIt_53 ?_
    obtain ⟨g111, h⟩ := gd_some h
    refine g_ald X hW 3 rfl g111 dX7_suitsIt_54 ?_
    refine lv_iadd hx hb dX7_suitsIt_55 ?_
    obtain ⟨g113, h⟩ := gd_some h
    refine g_ald X hW 4 rfl g113 dX7_suitsIt_56 ?_
    refine lv_iconst hx hb dX7_suitsIt_57 qI_1 ?_
    refine lv_icmp_ne (tgt := 65) hx hb dX7_suitsIt_58 (by decide) (fun c115 => ?_) (fun c115 => ?_)
    · have h := (if_neg c115).symm.trans h
      refine lv_iconst hx hb dX7_suitsIt_65 qI_0 ?_
      exact tX7_suitsIt_66 X ((5 : Int32) * v1) ((35 : Int32) + ((5 : Int32) * v2)) (0 : Int32) h H locs hW ls (lv_sub hl [2, 1, 0] rfl)
    · have h := (if_pos c115).symm.trans h
      exact tX7_suitsIt_61 X ((5 : Int32) * v1) ((35 : Int32) + ((5 : Int32) * v2)) h H locs hW ls (lv_sub hl [2, 1, 0] rfl)
theorem kcX7_suitsIt {l : Launch} (G : Gt) (a_mo a_mo_numbers a_mo_routes a_mo_turns a_mo_leave a_mo_boxes a_mo_words a_mo_weeks a_mo_leases a_mo_uses a_mo_arcFrom a_mo_arcTo a_mo_arcRoom a_mo_arcCost a_mo_far a_mo_by a_mo_best a_mo_tape a_mo_kept : Nat) (v1 : Int32) (v2 : Int32) (m_arcs : Int32) (m_tapeMany : Int32) (m_tokenKind : Int32) (m_tokenAt : Int32) (m_tokenEnd : Int32) (m_tokenValue : Int32) (m_fault : Int32) (m_seen : Int32) (m_isKept : Int32) (m_place : Int32) (m_numbers : (Nat → Int32)) (m_routes : (Nat → Int32)) (m_turns : (Nat → Int32)) (m_leave : (Nat → Int32)) {r : Int32}  (h : fX7_suitsIt v1 v2 m_numbers m_routes m_turns m_leave = some r) : CtI G l yX7_suitsIt wsX7_suitsIt rmX7_suitsIt [.ref a_mo, .int v1, .int v2] (wX7_suitsIt G a_mo a_mo_numbers a_mo_routes a_mo_turns a_mo_leave a_mo_boxes a_mo_words a_mo_weeks a_mo_leases a_mo_uses a_mo_arcFrom a_mo_arcTo a_mo_arcRoom a_mo_arcCost a_mo_far a_mo_by a_mo_best a_mo_tape a_mo_kept m_arcs m_tapeMany m_tokenKind m_tokenAt m_tokenEnd m_tokenValue m_fault m_seen m_isKept m_place m_numbers m_routes m_turns m_leave) r (wX7_suitsIt G a_mo a_mo_numbers a_mo_routes a_mo_turns a_mo_leave a_mo_boxes a_mo_words a_mo_weeks a_mo_leases a_mo_uses a_mo_arcFrom a_mo_arcTo a_mo_arcRoom a_mo_arcCost a_mo_far a_mo_by a_mo_best a_mo_tape a_mo_kept m_arcs m_tapeMany m_tokenKind m_tokenAt m_tokenEnd m_tokenValue m_fault m_seen m_isKept m_place m_numbers m_routes m_turns m_leave) := k0X7_suitsIt G a_mo a_mo_numbers a_mo_routes a_mo_turns a_mo_leave a_mo_boxes a_mo_words a_mo_weeks a_mo_leases a_mo_uses a_mo_arcFrom a_mo_arcTo a_mo_arcRoom a_mo_arcCost a_mo_far a_mo_by a_mo_best a_mo_tape a_mo_kept v1 v2 m_arcs m_tapeMany m_tokenKind m_tokenAt m_tokenEnd m_tokenValue m_fault m_seen m_isKept m_place m_numbers m_routes m_turns m_leave h
end MX7_suitsIt
/-! EmptyBoxesModel.suits -/
section MX7_suits
theorem hdX7_suits : yX7_suits.cls = RX7 ∧ yX7_suits.cls ≠ "java/lang/invoke/MethodHandle" ∧ yX7_suits.cls ≠ "java/lang/invoke/VarHandle" ∧ (parseMethodDescriptor yX7_suits.desc).map (fun d => d.parameters.length) = some 2 := by decide +kernel
abbrev wX7_suits (G : Gt) (a_mo a_mo_numbers a_mo_routes a_mo_turns a_mo_leave a_mo_boxes a_mo_words a_mo_weeks a_mo_leases a_mo_uses a_mo_arcFrom a_mo_arcTo a_mo_arcRoom a_mo_arcCost a_mo_far a_mo_by a_mo_best a_mo_tape a_mo_kept : Nat) (m_arcs : Int32) (m_tapeMany : Int32) (m_tokenKind : Int32) (m_tokenAt : Int32) (m_tokenEnd : Int32) (m_tokenValue : Int32) (m_fault : Int32) (m_seen : Int32) (m_isKept : Int32) (m_place : Int32) (m_numbers : (Nat → Int32)) (m_routes : (Nat → Int32)) (m_turns : (Nat → Int32)) (m_leave : (Nat → Int32)) : va_W := [(a_mo, .inr (7, [.ref a_mo_numbers, .ref a_mo_boxes, .ref a_mo_words, .ref a_mo_weeks, .ref a_mo_routes, .ref a_mo_turns, .ref a_mo_leave, .ref a_mo_leases, .ref a_mo_uses, .ref a_mo_arcFrom, .ref a_mo_arcTo, .ref a_mo_arcRoom, .ref a_mo_arcCost, .int m_arcs, .ref a_mo_far, .ref a_mo_by, .ref a_mo_best, .ref a_mo_tape, .int m_tapeMany, .int m_tokenKind, .int m_tokenAt, .int m_tokenEnd, .int m_tokenValue, .int m_fault, .int m_seen, .int m_isKept, .ref a_mo_kept, .int m_place])), (a_mo_numbers, .inl (G.2.1, 10, .inl m_numbers)), (a_mo_routes, .inl (G.2.1, 50, .inl m_routes)), (a_mo_turns, .inl (G.2.1, 70, .inl m_turns)), (a_mo_leave, .inl (G.2.1, 16, .inl m_leave))]
abbrev rmX7_suits : Room := { frames := 2, cells := 0, slots := 0, locals := 51 }
theorem iX7_suits_X7 : ∀ w ∈ wsX70, w ∈ wsX7_suits := by decide +kernel
theorem eX7_suits_7 : Fk wsX7_suits RX7 7 7 0 := ⟨RX7, TX7, 28, rfl, iX7_suits_X7, by decide, by decide +kernel⟩
theorem ckX7_suits_X7_in_64 : CkS wsX7_suits RX7 64 yX7_in wsX7_in cX7_in 3 (some .boolean) 3 := ⟨_, gX7_suits_X7_in, rfl, hdX7_in.2⟩
theorem ckX7_suits_X7_suitsIt_133 : CkV wsX7_suits RX7 133 yX7_suitsIt wsX7_suitsIt cX7_suitsIt 7 (some .boolean) 2 7 := ⟨RX7, TX7, 28, _, rfl, gX7_suits_X7_suitsIt, rfl, hdX7_suitsIt⟩
variable {p : Program} {l : Launch} {e : Env} {s : State} {m : MethodId} {args : Array Value} {below : List Frame} {meth : Method} {c : Code} {A : Nat → Prop} {G : Gt} {a_mo a_mo_numbers a_mo_routes a_mo_turns a_mo_leave a_mo_boxes a_mo_words a_mo_weeks a_mo_leases a_mo_uses a_mo_arcFrom a_mo_arcTo a_mo_arcRoom a_mo_arcCost a_mo_far a_mo_by a_mo_best a_mo_tape a_mo_kept : Nat} {m_arcs : Int32} {m_tapeMany : Int32} {m_tokenKind : Int32} {m_tokenAt : Int32} {m_tokenEnd : Int32} {m_tokenValue : Int32} {m_fault : Int32} {m_seen : Int32} {m_isKept : Int32} {m_place : Int32} {m_numbers : (Nat → Int32)} {m_routes : (Nat → Int32)} {m_turns : (Nat → Int32)} {m_leave : (Nat → Int32)} {res : Int32}
set_option maxHeartbeats 4000000 in
set_option maxRecDepth 100000 in
theorem k0X7_suits {l : Launch} (G : Gt) (a_mo a_mo_numbers a_mo_routes a_mo_turns a_mo_leave a_mo_boxes a_mo_words a_mo_weeks a_mo_leases a_mo_uses a_mo_arcFrom a_mo_arcTo a_mo_arcRoom a_mo_arcCost a_mo_far a_mo_by a_mo_best a_mo_tape a_mo_kept : Nat) (v1 : Int32) (v2 : Int32) (m_arcs : Int32) (m_tapeMany : Int32) (m_tokenKind : Int32) (m_tokenAt : Int32) (m_tokenEnd : Int32) (m_tokenValue : Int32) (m_fault : Int32) (m_seen : Int32) (m_isKept : Int32) (m_place : Int32) (m_numbers : (Nat → Int32)) (m_routes : (Nat → Int32)) (m_turns : (Nat → Int32)) (m_leave : (Nat → Int32)) {res : Int32} (h : fX7_suits v1 v2 m_numbers m_routes m_turns m_leave = some res) : CtI G l yX7_suits wsX7_suits rmX7_suits [.ref a_mo, .int v1, .int v2] (wX7_suits G a_mo a_mo_numbers a_mo_routes a_mo_turns a_mo_leave a_mo_boxes a_mo_words a_mo_weeks a_mo_leases a_mo_uses a_mo_arcFrom a_mo_arcTo a_mo_arcRoom a_mo_arcCost a_mo_far a_mo_by a_mo_best a_mo_tape a_mo_kept m_arcs m_tapeMany m_tokenKind m_tokenAt m_tokenEnd m_tokenValue m_fault m_seen m_isKept m_place m_numbers m_routes m_turns m_leave) res (wX7_suits G a_mo a_mo_numbers a_mo_routes a_mo_turns a_mo_leave a_mo_boxes a_mo_words a_mo_weeks a_mo_leases a_mo_uses a_mo_arcFrom a_mo_arcTo a_mo_arcRoom a_mo_arcCost a_mo_far a_mo_by a_mo_best a_mo_tape a_mo_kept m_arcs m_tapeMany m_tokenKind m_tokenAt m_tokenEnd m_tokenValue m_fault m_seen m_isKept m_place m_numbers m_routes m_turns m_leave) := by
  refine CtI.mk (cc := cX7_suits) (maxL := 3) (ret := (some .int)) (own := RX7) (by decide) rfl rfl (Nat.le_of_ble_eq_true rfl) ?_
  intro p e s m below meth c A X ls hl hW
  obtain ⟨hx, hb, -⟩ := id X.1
  have hl : lv_has ls 3 [(0, .ref a_mo), (1, .int v1), (2, .int v2)] := hl
  generalize hH : s.heap = H at hW ⊢
  generalize hLo : ([] : List Loc) = locs at hW ⊢
  rw [fX7_suits] at h
  refine lv_iload_n hx hb dX7_suits_0 rfl (lv_at hl 1 rfl) ?_
  refine lv_iconst hx hb dX7_suits_1 qI_0 ?_
  refine lv_aload_n hx hb dX7_suits_2 rfl (lv_at hl 0 rfl) ?_
  refine g_get X hW eX7_suits_7 0 rfl rfl dX7_suits_3 ?_
  refine lv_iconst hx hb dX7_suits_6 qI_4 ?_
  obtain ⟨g6, h⟩ := gd_some h
  refine g_ald X hW 1 rfl g6 dX7_suits_7 ?_
  refine lv_iconst hx hb dX7_suits_8 qI_1 ?_
  refine lv_isub hx hb dX7_suits_9 ?_
  obtain ⟨r9, hq, h⟩ := bn1_some h
  refine g_csi X hW (As := [.int v1, .int (0 : Int32), .int ((m_numbers (4 : Int32).toNatClampNeg) - (1 : Int32))]) (ws' := (wX7_suits G a_mo a_mo_numbers a_mo_routes a_mo_turns a_mo_leave a_mo_boxes a_mo_words a_mo_weeks a_mo_leases a_mo_uses a_mo_arcFrom a_mo_arcTo a_mo_arcRoom a_mo_arcCost a_mo_far a_mo_by a_mo_best a_mo_tape a_mo_kept m_arcs m_tapeMany m_tokenKind m_tokenAt m_tokenEnd m_tokenValue m_fault m_seen m_isKept m_place m_numbers m_routes m_turns m_leave)) ckX7_suits_X7_in_64 (kcX7_in (l := l) G v1 (0 : Int32) ((m_numbers (4 : Int32).toNatClampNeg) - (1 : Int32)) hq) ⟨rfl, rfl, Nat.le_of_ble_eq_true rfl, Nat.le_of_ble_eq_true rfl⟩ [] rfl rfl rfl rfl rfl rfl hl.1 (Nat.le_of_ble_eq_true rfl) ⟨Nat.zero_le _, Nat.zero_le _⟩ dX7_suits_10 (fun H locs hW => ?_)
  refine lv_if_eq (tgt := 32) hx hb dX7_suits_13 (by decide) (fun c10 => ?_) (fun c10 => ?_)
  · have h := (if_pos c10).symm.trans h
    refine lv_iconst hx hb dX7_suits_32 qI_m1 ?_
    obtain rfl := Option.some.inj h
    exact g_iret X hW dX7_suits_33
  · have h := (if_neg c10).symm.trans h
    refine lv_iload_n hx hb dX7_suits_16 rfl (lv_at hl 2 rfl) ?_
    refine lv_iconst hx hb dX7_suits_17 qI_0 ?_
    refine lv_aload_n hx hb dX7_suits_18 rfl (lv_at hl 0 rfl) ?_
    refine g_get X hW eX7_suits_7 0 rfl rfl dX7_suits_19 ?_
    refine lv_iconst hx hb dX7_suits_22 qI_5 ?_
    obtain ⟨g18, h⟩ := gd_some h
    refine g_ald X hW 1 rfl g18 dX7_suits_23 ?_
    refine lv_iconst hx hb dX7_suits_24 qI_1 ?_
    refine lv_isub hx hb dX7_suits_25 ?_
    obtain ⟨r21, hq, h⟩ := bn1_some h
    refine g_csi X hW (As := [.int v2, .int (0 : Int32), .int ((m_numbers (5 : Int32).toNatClampNeg) - (1 : Int32))]) (ws' := (wX7_suits G a_mo a_mo_numbers a_mo_routes a_mo_turns a_mo_leave a_mo_boxes a_mo_words a_mo_weeks a_mo_leases a_mo_uses a_mo_arcFrom a_mo_arcTo a_mo_arcRoom a_mo_arcCost a_mo_far a_mo_by a_mo_best a_mo_tape a_mo_kept m_arcs m_tapeMany m_tokenKind m_tokenAt m_tokenEnd m_tokenValue m_fault m_seen m_isKept m_place m_numbers m_routes m_turns m_leave)) ckX7_suits_X7_in_64 (kcX7_in (l := l) G v2 (0 : Int32) ((m_numbers (5 : Int32).toNatClampNeg) - (1 : Int32)) hq) ⟨rfl, rfl, Nat.le_of_ble_eq_true rfl, Nat.le_of_ble_eq_true rfl⟩ [] rfl rfl rfl rfl rfl rfl hl.1 (Nat.le_of_ble_eq_true rfl) ⟨Nat.zero_le _, Nat.zero_le _⟩ dX7_suits_26 (fun H locs hW => ?_)
    refine lv_if_ne (tgt := 34) hx hb dX7_suits_29 (by decide) (fun c22 => ?_) (fun c22 => ?_)
    · have h := (if_neg c22).symm.trans h
      refine lv_aload_n hx hb dX7_suits_34 rfl (lv_at hl 0 rfl) ?_
      refine lv_iload_n hx hb dX7_suits_35 rfl (lv_at hl 1 rfl) ?_
      refine lv_iload_n hx hb dX7_suits_36 rfl (lv_at hl 2 rfl) ?_
      obtain ⟨r26, hq, h⟩ := bn1_some h
      refine g_cvi X hW (As := [.int v1, .int v2]) (ws' := (wX7_suits G a_mo a_mo_numbers a_mo_routes a_mo_turns a_mo_leave a_mo_boxes a_mo_words a_mo_weeks a_mo_leases a_mo_uses a_mo_arcFrom a_mo_arcTo a_mo_arcRoom a_mo_arcCost a_mo_far a_mo_by a_mo_best a_mo_tape a_mo_kept m_arcs m_tapeMany m_tokenKind m_tokenAt m_tokenEnd m_tokenValue m_fault m_seen m_isKept m_place m_numbers m_routes m_turns m_leave)) ckX7_suits_X7_suitsIt_133 (kcX7_suitsIt (l := l) G a_mo a_mo_numbers a_mo_routes a_mo_turns a_mo_leave a_mo_boxes a_mo_words a_mo_weeks a_mo_leases a_mo_uses a_mo_arcFrom a_mo_arcTo a_mo_arcRoom a_mo_arcCost a_mo_far a_mo_by a_mo_best a_mo_tape a_mo_kept v1 v2 m_arcs m_tapeMany m_tokenKind m_tokenAt m_tokenEnd m_tokenValue m_fault m_seen m_isKept m_place m_numbers m_routes m_turns m_leave hq) ⟨rfl, rfl, Nat.le_of_ble_eq_true rfl, Nat.le_of_ble_eq_true rfl⟩ [0, 1, 2, 3, 4] rfl rfl rfl rfl rfl rfl rfl hl.1 (Nat.le_of_ble_eq_true rfl) ⟨Nat.zero_le _, Nat.zero_le _⟩ dX7_suits_37 (fun H locs hW => ?_)
      refine lv_if_eq (tgt := 47) hx hb dX7_suits_40 (by decide) (fun c27 => ?_) (fun c27 => ?_)
      · have h := (if_pos c27).symm.trans h
        refine lv_iconst hx hb dX7_suits_47 qI_0 ?_
        obtain rfl := Option.some.inj h
        exact g_iret X hW dX7_suits_48
      · have h := (if_neg c27).symm.trans h
        refine lv_iconst hx hb dX7_suits_43 qI_1 ?_
        refine lv_goto (tgt := 48) hx hb dX7_suits_44 (by decide) ?_
        obtain rfl := Option.some.inj h
        exact g_iret X hW dX7_suits_48
    · have h := (if_pos c22).symm.trans h
      refine lv_iconst hx hb dX7_suits_32 qI_m1 ?_
      obtain rfl := Option.some.inj h
      exact g_iret X hW dX7_suits_33
theorem kcX7_suits {l : Launch} (G : Gt) (a_mo a_mo_numbers a_mo_routes a_mo_turns a_mo_leave a_mo_boxes a_mo_words a_mo_weeks a_mo_leases a_mo_uses a_mo_arcFrom a_mo_arcTo a_mo_arcRoom a_mo_arcCost a_mo_far a_mo_by a_mo_best a_mo_tape a_mo_kept : Nat) (v1 : Int32) (v2 : Int32) (m_arcs : Int32) (m_tapeMany : Int32) (m_tokenKind : Int32) (m_tokenAt : Int32) (m_tokenEnd : Int32) (m_tokenValue : Int32) (m_fault : Int32) (m_seen : Int32) (m_isKept : Int32) (m_place : Int32) (m_numbers : (Nat → Int32)) (m_routes : (Nat → Int32)) (m_turns : (Nat → Int32)) (m_leave : (Nat → Int32)) {r : Int32}  (h : fX7_suits v1 v2 m_numbers m_routes m_turns m_leave = some r) : CtI G l yX7_suits wsX7_suits rmX7_suits [.ref a_mo, .int v1, .int v2] (wX7_suits G a_mo a_mo_numbers a_mo_routes a_mo_turns a_mo_leave a_mo_boxes a_mo_words a_mo_weeks a_mo_leases a_mo_uses a_mo_arcFrom a_mo_arcTo a_mo_arcRoom a_mo_arcCost a_mo_far a_mo_by a_mo_best a_mo_tape a_mo_kept m_arcs m_tapeMany m_tokenKind m_tokenAt m_tokenEnd m_tokenValue m_fault m_seen m_isKept m_place m_numbers m_routes m_turns m_leave) r (wX7_suits G a_mo a_mo_numbers a_mo_routes a_mo_turns a_mo_leave a_mo_boxes a_mo_words a_mo_weeks a_mo_leases a_mo_uses a_mo_arcFrom a_mo_arcTo a_mo_arcRoom a_mo_arcCost a_mo_far a_mo_by a_mo_best a_mo_tape a_mo_kept m_arcs m_tapeMany m_tokenKind m_tokenAt m_tokenEnd m_tokenValue m_fault m_seen m_isKept m_place m_numbers m_routes m_turns m_leave) := k0X7_suits G a_mo a_mo_numbers a_mo_routes a_mo_turns a_mo_leave a_mo_boxes a_mo_words a_mo_weeks a_mo_leases a_mo_uses a_mo_arcFrom a_mo_arcTo a_mo_arcRoom a_mo_arcCost a_mo_far a_mo_by a_mo_best a_mo_tape a_mo_kept v1 v2 m_arcs m_tapeMany m_tokenKind m_tokenAt m_tokenEnd m_tokenValue m_fault m_seen m_isKept m_place m_numbers m_routes m_turns m_leave h
end MX7_suits
/-! EmptyBoxesModel.gapOf -/
section MX7_gapOf
theorem hdX7_gapOf : yX7_gapOf.cls = RX7 ∧ yX7_gapOf.cls ≠ "java/lang/invoke/MethodHandle" ∧ yX7_gapOf.cls ≠ "java/lang/invoke/VarHandle" ∧ (parseMethodDescriptor yX7_gapOf.desc).map (fun d => d.parameters.length) = some 2 := by decide +kernel
abbrev wX7_gapOf (G : Gt) (a_mo a_mo_turns a_mo_numbers a_mo_boxes a_mo_words a_mo_weeks a_mo_routes a_mo_leave a_mo_leases a_mo_uses a_mo_arcFrom a_mo_arcTo a_mo_arcRoom a_mo_arcCost a_mo_far a_mo_by a_mo_best a_mo_tape a_mo_kept : Nat) (m_arcs : Int32) (m_tapeMany : Int32) (m_tokenKind : Int32) (m_tokenAt : Int32) (m_tokenEnd : Int32) (m_tokenValue : Int32) (m_fault : Int32) (m_seen : Int32) (m_isKept : Int32) (m_place : Int32) (m_turns : (Nat → Int32)) : va_W := [(a_mo, .inr (7, [.ref a_mo_numbers, .ref a_mo_boxes, .ref a_mo_words, .ref a_mo_weeks, .ref a_mo_routes, .ref a_mo_turns, .ref a_mo_leave, .ref a_mo_leases, .ref a_mo_uses, .ref a_mo_arcFrom, .ref a_mo_arcTo, .ref a_mo_arcRoom, .ref a_mo_arcCost, .int m_arcs, .ref a_mo_far, .ref a_mo_by, .ref a_mo_best, .ref a_mo_tape, .int m_tapeMany, .int m_tokenKind, .int m_tokenAt, .int m_tokenEnd, .int m_tokenValue, .int m_fault, .int m_seen, .int m_isKept, .ref a_mo_kept, .int m_place])), (a_mo_turns, .inl (G.2.1, 70, .inl m_turns))]
abbrev rmX7_gapOf : Room := { frames := 0, cells := 0, slots := 0, locals := 0 }
theorem iX7_gapOf_X7 : ∀ w ∈ wsX70, w ∈ wsX7_gapOf := by decide +kernel
theorem eX7_gapOf_25 : Fk wsX7_gapOf RX7 25 7 5 := ⟨RX7, TX7, 28, rfl, iX7_gapOf_X7, by decide, by decide +kernel⟩
variable {p : Program} {l : Launch} {e : Env} {s : State} {m : MethodId} {args : Array Value} {below : List Frame} {meth : Method} {c : Code} {A : Nat → Prop} {G : Gt} {a_mo a_mo_turns a_mo_numbers a_mo_boxes a_mo_words a_mo_weeks a_mo_routes a_mo_leave a_mo_leases a_mo_uses a_mo_arcFrom a_mo_arcTo a_mo_arcRoom a_mo_arcCost a_mo_far a_mo_by a_mo_best a_mo_tape a_mo_kept : Nat} {m_arcs : Int32} {m_tapeMany : Int32} {m_tokenKind : Int32} {m_tokenAt : Int32} {m_tokenEnd : Int32} {m_tokenValue : Int32} {m_fault : Int32} {m_seen : Int32} {m_isKept : Int32} {m_place : Int32} {m_turns : (Nat → Int32)} {res : Int32}
set_option maxHeartbeats 4000000 in
set_option maxRecDepth 100000 in
theorem k0X7_gapOf {l : Launch} (G : Gt) (a_mo a_mo_turns a_mo_numbers a_mo_boxes a_mo_words a_mo_weeks a_mo_routes a_mo_leave a_mo_leases a_mo_uses a_mo_arcFrom a_mo_arcTo a_mo_arcRoom a_mo_arcCost a_mo_far a_mo_by a_mo_best a_mo_tape a_mo_kept : Nat) (v1 : Int32) (v2 : Int32) (m_arcs : Int32) (m_tapeMany : Int32) (m_tokenKind : Int32) (m_tokenAt : Int32) (m_tokenEnd : Int32) (m_tokenValue : Int32) (m_fault : Int32) (m_seen : Int32) (m_isKept : Int32) (m_place : Int32) (m_turns : (Nat → Int32)) {res : Int32} (h : fX7_gapOf v1 v2 m_turns = some res) : CtI G l yX7_gapOf wsX7_gapOf rmX7_gapOf [.ref a_mo, .int v1, .int v2] (wX7_gapOf G a_mo a_mo_turns a_mo_numbers a_mo_boxes a_mo_words a_mo_weeks a_mo_routes a_mo_leave a_mo_leases a_mo_uses a_mo_arcFrom a_mo_arcTo a_mo_arcRoom a_mo_arcCost a_mo_far a_mo_by a_mo_best a_mo_tape a_mo_kept m_arcs m_tapeMany m_tokenKind m_tokenAt m_tokenEnd m_tokenValue m_fault m_seen m_isKept m_place m_turns) res (wX7_gapOf G a_mo a_mo_turns a_mo_numbers a_mo_boxes a_mo_words a_mo_weeks a_mo_routes a_mo_leave a_mo_leases a_mo_uses a_mo_arcFrom a_mo_arcTo a_mo_arcRoom a_mo_arcCost a_mo_far a_mo_by a_mo_best a_mo_tape a_mo_kept m_arcs m_tapeMany m_tokenKind m_tokenAt m_tokenEnd m_tokenValue m_fault m_seen m_isKept m_place m_turns) := by
  refine CtI.mk (cc := cX7_gapOf) (maxL := 4) (ret := (some .int)) (own := RX7) (by decide) rfl rfl (Nat.le_of_ble_eq_true rfl) ?_
  intro p e s m below meth c A X ls hl hW
  obtain ⟨hx, hb, -⟩ := id X.1
  have hl : lv_has ls 4 [(0, .ref a_mo), (1, .int v1), (2, .int v2)] := hl
  generalize hH : s.heap = H at hW ⊢
  generalize hLo : ([] : List Loc) = locs at hW ⊢
  rw [fX7_gapOf] at h
  refine lv_aload_n hx hb dX7_gapOf_0 rfl (lv_at hl 0 rfl) ?_
  refine g_get X hW eX7_gapOf_25 0 rfl rfl dX7_gapOf_1 ?_
  refine lv_iconst hx hb dX7_gapOf_4 qI_5 ?_
  refine lv_iload_n hx hb dX7_gapOf_5 rfl (lv_at hl 1 rfl) ?_
  refine lv_imul hx hb dX7_gapOf_6 ?_
  refine lv_iconst hx hb dX7_gapOf_7 qI_3 ?_
  refine lv_iadd hx hb dX7_gapOf_8 ?_
  obtain ⟨g8, h⟩ := gd_some h
  refine g_ald X hW 1 rfl g8 dX7_gapOf_9 ?_
  refine lv_aload_n hx hb dX7_gapOf_10 rfl (lv_at hl 0 rfl) ?_
  refine g_get X hW eX7_gapOf_25 0 rfl rfl dX7_gapOf_11 ?_
  refine lv_bipush hx hb dX7_gapOf_14 qB_35 ?_
  refine lv_iconst hx hb dX7_gapOf_16 qI_5 ?_
  refine lv_iload_n hx hb dX7_gapOf_17 rfl (lv_at hl 2 rfl) ?_
  refine lv_imul hx hb dX7_gapOf_18 ?_
  refine lv_iadd hx hb dX7_gapOf_19 ?_
  refine lv_iconst hx hb dX7_gapOf_20 qI_3 ?_
  refine lv_iadd hx hb dX7_gapOf_21 ?_
  obtain ⟨g18, h⟩ := gd_some h
  refine g_ald X hW 1 rfl g18 dX7_gapOf_22 ?_
  refine lv_isub hx hb dX7_gapOf_23 ?_
  refine lv_istore_n (lv' := [(3, .int ((m_turns (((5 : Int32) * v1) + (3 : Int32)).toNatClampNeg) - (m_turns (((35 : Int32) + ((5 : Int32) * v2)) + (3 : Int32)).toNatClampNeg))), (0, .ref a_mo), (1, .int v1), (2, .int v2)]) hx hb dX7_gapOf_24 rfl hl (by decide) rfl (fun ls hl => ?_)
  refine lv_iload_n hx hb dX7_gapOf_25 rfl (lv_at hl 0 rfl) ?_
  refine lv_if_ge (tgt := 34) hx hb dX7_gapOf_26 (by decide) (fun c22 => ?_) (fun c22 => ?_)
  · have h := (if_pos c22).symm.trans h
    refine lv_iload_n hx hb dX7_gapOf_34 rfl (lv_at hl 0 rfl) ?_
    obtain rfl := Option.some.inj h
    exact g_iret X hW dX7_gapOf_35
  · have h := (if_neg c22).symm.trans h
    refine lv_iload_n hx hb dX7_gapOf_29 rfl (lv_at hl 0 rfl) ?_
    refine lv_ineg hx hb dX7_gapOf_30 ?_
    refine lv_goto (tgt := 35) hx hb dX7_gapOf_31 (by decide) ?_
    obtain rfl := Option.some.inj h
    exact g_iret X hW dX7_gapOf_35
theorem kcX7_gapOf {l : Launch} (G : Gt) (a_mo a_mo_turns a_mo_numbers a_mo_boxes a_mo_words a_mo_weeks a_mo_routes a_mo_leave a_mo_leases a_mo_uses a_mo_arcFrom a_mo_arcTo a_mo_arcRoom a_mo_arcCost a_mo_far a_mo_by a_mo_best a_mo_tape a_mo_kept : Nat) (v1 : Int32) (v2 : Int32) (m_arcs : Int32) (m_tapeMany : Int32) (m_tokenKind : Int32) (m_tokenAt : Int32) (m_tokenEnd : Int32) (m_tokenValue : Int32) (m_fault : Int32) (m_seen : Int32) (m_isKept : Int32) (m_place : Int32) (m_turns : (Nat → Int32)) {r : Int32}  (h : fX7_gapOf v1 v2 m_turns = some r) : CtI G l yX7_gapOf wsX7_gapOf rmX7_gapOf [.ref a_mo, .int v1, .int v2] (wX7_gapOf G a_mo a_mo_turns a_mo_numbers a_mo_boxes a_mo_words a_mo_weeks a_mo_routes a_mo_leave a_mo_leases a_mo_uses a_mo_arcFrom a_mo_arcTo a_mo_arcRoom a_mo_arcCost a_mo_far a_mo_by a_mo_best a_mo_tape a_mo_kept m_arcs m_tapeMany m_tokenKind m_tokenAt m_tokenEnd m_tokenValue m_fault m_seen m_isKept m_place m_turns) r (wX7_gapOf G a_mo a_mo_turns a_mo_numbers a_mo_boxes a_mo_words a_mo_weeks a_mo_routes a_mo_leave a_mo_leases a_mo_uses a_mo_arcFrom a_mo_arcTo a_mo_arcRoom a_mo_arcCost a_mo_far a_mo_by a_mo_best a_mo_tape a_mo_kept m_arcs m_tapeMany m_tokenKind m_tokenAt m_tokenEnd m_tokenValue m_fault m_seen m_isKept m_place m_turns) := k0X7_gapOf G a_mo a_mo_turns a_mo_numbers a_mo_boxes a_mo_words a_mo_weeks a_mo_routes a_mo_leave a_mo_leases a_mo_uses a_mo_arcFrom a_mo_arcTo a_mo_arcRoom a_mo_arcCost a_mo_far a_mo_by a_mo_best a_mo_tape a_mo_kept v1 v2 m_arcs m_tapeMany m_tokenKind m_tokenAt m_tokenEnd m_tokenValue m_fault m_seen m_isKept m_place m_turns h
end MX7_gapOf
/-! EmptyBoxesModel.goesWith -/
section MX7_goesWith
theorem hdX7_goesWith : yX7_goesWith.cls = RX7 ∧ yX7_goesWith.cls ≠ "java/lang/invoke/MethodHandle" ∧ yX7_goesWith.cls ≠ "java/lang/invoke/VarHandle" ∧ (parseMethodDescriptor yX7_goesWith.desc).map (fun d => d.parameters.length) = some 3 := by decide +kernel
abbrev wX7_goesWith (G : Gt) (a_mo a_mo_numbers a_mo_routes a_mo_turns a_mo_leave a_mo_best a_mo_boxes a_mo_words a_mo_weeks a_mo_leases a_mo_uses a_mo_arcFrom a_mo_arcTo a_mo_arcRoom a_mo_arcCost a_mo_far a_mo_by a_mo_tape a_mo_kept : Nat) (m_arcs : Int32) (m_tapeMany : Int32) (m_tokenKind : Int32) (m_tokenAt : Int32) (m_tokenEnd : Int32) (m_tokenValue : Int32) (m_fault : Int32) (m_seen : Int32) (m_isKept : Int32) (m_place : Int32) (m_numbers : (Nat → Int32)) (m_routes : (Nat → Int32)) (m_turns : (Nat → Int32)) (m_leave : (Nat → Int32)) (m_best : (Nat → Int32)) : va_W := [(a_mo, .inr (7, [.ref a_mo_numbers, .ref a_mo_boxes, .ref a_mo_words, .ref a_mo_weeks, .ref a_mo_routes, .ref a_mo_turns, .ref a_mo_leave, .ref a_mo_leases, .ref a_mo_uses, .ref a_mo_arcFrom, .ref a_mo_arcTo, .ref a_mo_arcRoom, .ref a_mo_arcCost, .int m_arcs, .ref a_mo_far, .ref a_mo_by, .ref a_mo_best, .ref a_mo_tape, .int m_tapeMany, .int m_tokenKind, .int m_tokenAt, .int m_tokenEnd, .int m_tokenValue, .int m_fault, .int m_seen, .int m_isKept, .ref a_mo_kept, .int m_place])), (a_mo_numbers, .inl (G.2.1, 10, .inl m_numbers)), (a_mo_routes, .inl (G.2.1, 50, .inl m_routes)), (a_mo_turns, .inl (G.2.1, 70, .inl m_turns)), (a_mo_leave, .inl (G.2.1, 16, .inl m_leave)), (a_mo_best, .inl (G.2.1, 1024, .inl m_best))]
abbrev rmX7_goesWith : Room := { frames := 2, cells := 0, slots := 0, locals := 51 }
theorem iX7_goesWith_X7 : ∀ w ∈ wsX70, w ∈ wsX7_goesWith := by decide +kernel
theorem eX7_goesWith_55 : Fk wsX7_goesWith RX7 55 7 16 := ⟨RX7, TX7, 28, rfl, iX7_goesWith_X7, by decide, by decide +kernel⟩
theorem ckX7_goesWith_X7_gapOf_139 : CkV wsX7_goesWith RX7 139 yX7_gapOf wsX7_gapOf cX7_gapOf 4 (some .int) 2 7 := ⟨RX7, TX7, 28, _, rfl, gX7_goesWith_X7_gapOf, rfl, hdX7_gapOf⟩
theorem ckX7_goesWith_X7_suitsIt_133 : CkV wsX7_goesWith RX7 133 yX7_suitsIt wsX7_suitsIt cX7_suitsIt 7 (some .boolean) 2 7 := ⟨RX7, TX7, 28, _, rfl, gX7_goesWith_X7_suitsIt, rfl, hdX7_suitsIt⟩
variable {p : Program} {l : Launch} {e : Env} {s : State} {m : MethodId} {args : Array Value} {below : List Frame} {meth : Method} {c : Code} {A : Nat → Prop} {G : Gt} {a_mo a_mo_numbers a_mo_routes a_mo_turns a_mo_leave a_mo_best a_mo_boxes a_mo_words a_mo_weeks a_mo_leases a_mo_uses a_mo_arcFrom a_mo_arcTo a_mo_arcRoom a_mo_arcCost a_mo_far a_mo_by a_mo_tape a_mo_kept : Nat} {m_arcs : Int32} {m_tapeMany : Int32} {m_tokenKind : Int32} {m_tokenAt : Int32} {m_tokenEnd : Int32} {m_tokenValue : Int32} {m_fault : Int32} {m_seen : Int32} {m_isKept : Int32} {m_place : Int32} {m_numbers : (Nat → Int32)} {m_routes : (Nat → Int32)} {m_turns : (Nat → Int32)} {m_leave : (Nat → Int32)} {m_best : (Nat → Int32)} {res : Int32}
set_option maxHeartbeats 4000000 in
set_option maxRecDepth 100000 in
theorem k0X7_goesWith {l : Launch} (G : Gt) (a_mo a_mo_numbers a_mo_routes a_mo_turns a_mo_leave a_mo_best a_mo_boxes a_mo_words a_mo_weeks a_mo_leases a_mo_uses a_mo_arcFrom a_mo_arcTo a_mo_arcRoom a_mo_arcCost a_mo_far a_mo_by a_mo_tape a_mo_kept : Nat) (v1 : Int32) (v2 : Int32) (v3 : Int32) (m_arcs : Int32) (m_tapeMany : Int32) (m_tokenKind : Int32) (m_tokenAt : Int32) (m_tokenEnd : Int32) (m_tokenValue : Int32) (m_fault : Int32) (m_seen : Int32) (m_isKept : Int32) (m_place : Int32) (m_numbers : (Nat → Int32)) (m_routes : (Nat → Int32)) (m_turns : (Nat → Int32)) (m_leave : (Nat → Int32)) (m_best : (Nat → Int32)) {res : Int32} (h : fX7_goesWith v1 v2 v3 m_numbers m_routes m_turns m_leave m_best = some res) : CtI G l yX7_goesWith wsX7_goesWith rmX7_goesWith [.ref a_mo, .int v1, .int v2, .int v3] (wX7_goesWith G a_mo a_mo_numbers a_mo_routes a_mo_turns a_mo_leave a_mo_best a_mo_boxes a_mo_words a_mo_weeks a_mo_leases a_mo_uses a_mo_arcFrom a_mo_arcTo a_mo_arcRoom a_mo_arcCost a_mo_far a_mo_by a_mo_tape a_mo_kept m_arcs m_tapeMany m_tokenKind m_tokenAt m_tokenEnd m_tokenValue m_fault m_seen m_isKept m_place m_numbers m_routes m_turns m_leave m_best) res (wX7_goesWith G a_mo a_mo_numbers a_mo_routes a_mo_turns a_mo_leave a_mo_best a_mo_boxes a_mo_words a_mo_weeks a_mo_leases a_mo_uses a_mo_arcFrom a_mo_arcTo a_mo_arcRoom a_mo_arcCost a_mo_far a_mo_by a_mo_tape a_mo_kept m_arcs m_tapeMany m_tokenKind m_tokenAt m_tokenEnd m_tokenValue m_fault m_seen m_isKept m_place m_numbers m_routes m_turns m_leave m_best) := by
  refine CtI.mk (cc := cX7_goesWith) (maxL := 4) (ret := (some .int)) (own := RX7) (by decide) rfl rfl (Nat.le_of_ble_eq_true rfl) ?_
  intro p e s m below meth c A X ls hl hW
  obtain ⟨hx, hb, -⟩ := id X.1
  have hl : lv_has ls 4 [(0, .ref a_mo), (1, .int v1), (2, .int v2), (3, .int v3)] := hl
  generalize hH : s.heap = H at hW ⊢
  generalize hLo : ([] : List Loc) = locs at hW ⊢
  rw [fX7_goesWith] at h
  refine lv_iload_n hx hb dX7_goesWith_0 rfl (lv_at hl 3 rfl) ?_
  refine lv_iload_n hx hb dX7_goesWith_1 rfl (lv_at hl 2 rfl) ?_
  refine g_ishr hx hb dX7_goesWith_2 ?_
  refine lv_iconst hx hb dX7_goesWith_3 qI_1 ?_
  refine lv_iand hx hb dX7_goesWith_4 ?_
  refine lv_iconst hx hb dX7_goesWith_5 qI_1 ?_
  refine lv_icmp_eq (tgt := 18) hx hb dX7_goesWith_6 (by decide) (fun c7 => ?_) (fun c7 => ?_)
  · have h := (if_pos c7).symm.trans h
    refine lv_iconst hx hb dX7_goesWith_18 qI_m1 ?_
    obtain rfl := Option.some.inj h
    exact g_iret X hW dX7_goesWith_19
  · have h := (if_neg c7).symm.trans h
    refine lv_aload_n hx hb dX7_goesWith_9 rfl (lv_at hl 0 rfl) ?_
    refine lv_iload_n hx hb dX7_goesWith_10 rfl (lv_at hl 1 rfl) ?_
    refine lv_iload_n hx hb dX7_goesWith_11 rfl (lv_at hl 2 rfl) ?_
    obtain ⟨r13, hq, h⟩ := bn1_some h
    refine g_cvi X hW (As := [.int v1, .int v2]) (ws' := (wX7_goesWith G a_mo a_mo_numbers a_mo_routes a_mo_turns a_mo_leave a_mo_best a_mo_boxes a_mo_words a_mo_weeks a_mo_leases a_mo_uses a_mo_arcFrom a_mo_arcTo a_mo_arcRoom a_mo_arcCost a_mo_far a_mo_by a_mo_tape a_mo_kept m_arcs m_tapeMany m_tokenKind m_tokenAt m_tokenEnd m_tokenValue m_fault m_seen m_isKept m_place m_numbers m_routes m_turns m_leave m_best)) ckX7_goesWith_X7_suitsIt_133 (kcX7_suitsIt (l := l) G a_mo a_mo_numbers a_mo_routes a_mo_turns a_mo_leave a_mo_boxes a_mo_words a_mo_weeks a_mo_leases a_mo_uses a_mo_arcFrom a_mo_arcTo a_mo_arcRoom a_mo_arcCost a_mo_far a_mo_by a_mo_best a_mo_tape a_mo_kept v1 v2 m_arcs m_tapeMany m_tokenKind m_tokenAt m_tokenEnd m_tokenValue m_fault m_seen m_isKept m_place m_numbers m_routes m_turns m_leave hq) ⟨rfl, rfl, Nat.le_of_ble_eq_true rfl, Nat.le_of_ble_eq_true rfl⟩ [0, 1, 2, 3, 4] rfl rfl rfl rfl rfl rfl rfl hl.1 (Nat.le_of_ble_eq_true rfl) ⟨Nat.zero_le _, Nat.zero_le _⟩ dX7_goesWith_12 (fun H locs hW => ?_)
    refine lv_if_ne (tgt := 20) hx hb dX7_goesWith_15 (by decide) (fun c14 => ?_) (fun c14 => ?_)
    · have h := (if_neg c14).symm.trans h
      refine lv_sipush hx hb dX7_goesWith_20 qS_10000 ?_
      refine lv_aload_n hx hb dX7_goesWith_23 rfl (lv_at hl 0 rfl) ?_
      refine lv_iload_n hx hb dX7_goesWith_24 rfl (lv_at hl 1 rfl) ?_
      refine lv_iload_n hx hb dX7_goesWith_25 rfl (lv_at hl 2 rfl) ?_
      obtain ⟨r19, hq, h⟩ := bn1_some h
      refine g_cvi X hW (As := [.int v1, .int v2]) (ws' := (wX7_goesWith G a_mo a_mo_numbers a_mo_routes a_mo_turns a_mo_leave a_mo_best a_mo_boxes a_mo_words a_mo_weeks a_mo_leases a_mo_uses a_mo_arcFrom a_mo_arcTo a_mo_arcRoom a_mo_arcCost a_mo_far a_mo_by a_mo_tape a_mo_kept m_arcs m_tapeMany m_tokenKind m_tokenAt m_tokenEnd m_tokenValue m_fault m_seen m_isKept m_place m_numbers m_routes m_turns m_leave m_best)) ckX7_goesWith_X7_gapOf_139 (kcX7_gapOf (l := l) G a_mo a_mo_turns a_mo_numbers a_mo_boxes a_mo_words a_mo_weeks a_mo_routes a_mo_leave a_mo_leases a_mo_uses a_mo_arcFrom a_mo_arcTo a_mo_arcRoom a_mo_arcCost a_mo_far a_mo_by a_mo_best a_mo_tape a_mo_kept v1 v2 m_arcs m_tapeMany m_tokenKind m_tokenAt m_tokenEnd m_tokenValue m_fault m_seen m_isKept m_place m_turns hq) ⟨rfl, rfl, Nat.le_of_ble_eq_true rfl, Nat.le_of_ble_eq_true rfl⟩ [0, 3] rfl rfl rfl rfl rfl rfl rfl hl.1 (Nat.le_of_ble_eq_true rfl) ⟨Nat.zero_le _, Nat.zero_le _⟩ dX7_goesWith_26 (fun H locs hW => ?_)
      refine lv_isub hx hb dX7_goesWith_29 ?_
      refine lv_aload_n hx hb dX7_goesWith_30 rfl (lv_at hl 0 rfl) ?_
      refine g_get X hW eX7_goesWith_55 0 rfl rfl dX7_goesWith_31 ?_
      refine lv_sipush hx hb dX7_goesWith_34 qS_128 ?_
      refine lv_iload_n hx hb dX7_goesWith_37 rfl (lv_at hl 1 rfl) ?_
      refine lv_iconst hx hb dX7_goesWith_38 qI_1 ?_
      refine lv_iadd hx hb dX7_goesWith_39 ?_
      refine lv_imul hx hb dX7_goesWith_40 ?_
      refine lv_iload_n hx hb dX7_goesWith_41 rfl (lv_at hl 3 rfl) ?_
      refine lv_iconst hx hb dX7_goesWith_42 qI_1 ?_
      refine lv_iload_n hx hb dX7_goesWith_43 rfl (lv_at hl 2 rfl) ?_
      refine g_ishl hx hb dX7_goesWith_44 ?_
      refine lv_ior hx hb dX7_goesWith_45 ?_
      refine lv_iadd hx hb dX7_goesWith_46 ?_
      obtain ⟨g34, h⟩ := gd_some h
      refine g_ald X hW 5 rfl g34 dX7_goesWith_47 ?_
      refine lv_iadd hx hb dX7_goesWith_48 ?_
      obtain rfl := Option.some.inj h
      exact g_iret X hW dX7_goesWith_49
    · have h := (if_pos c14).symm.trans h
      refine lv_iconst hx hb dX7_goesWith_18 qI_m1 ?_
      obtain rfl := Option.some.inj h
      exact g_iret X hW dX7_goesWith_19
theorem kcX7_goesWith {l : Launch} (G : Gt) (a_mo a_mo_numbers a_mo_routes a_mo_turns a_mo_leave a_mo_best a_mo_boxes a_mo_words a_mo_weeks a_mo_leases a_mo_uses a_mo_arcFrom a_mo_arcTo a_mo_arcRoom a_mo_arcCost a_mo_far a_mo_by a_mo_tape a_mo_kept : Nat) (v1 : Int32) (v2 : Int32) (v3 : Int32) (m_arcs : Int32) (m_tapeMany : Int32) (m_tokenKind : Int32) (m_tokenAt : Int32) (m_tokenEnd : Int32) (m_tokenValue : Int32) (m_fault : Int32) (m_seen : Int32) (m_isKept : Int32) (m_place : Int32) (m_numbers : (Nat → Int32)) (m_routes : (Nat → Int32)) (m_turns : (Nat → Int32)) (m_leave : (Nat → Int32)) (m_best : (Nat → Int32)) {r : Int32}  (h : fX7_goesWith v1 v2 v3 m_numbers m_routes m_turns m_leave m_best = some r) : CtI G l yX7_goesWith wsX7_goesWith rmX7_goesWith [.ref a_mo, .int v1, .int v2, .int v3] (wX7_goesWith G a_mo a_mo_numbers a_mo_routes a_mo_turns a_mo_leave a_mo_best a_mo_boxes a_mo_words a_mo_weeks a_mo_leases a_mo_uses a_mo_arcFrom a_mo_arcTo a_mo_arcRoom a_mo_arcCost a_mo_far a_mo_by a_mo_tape a_mo_kept m_arcs m_tapeMany m_tokenKind m_tokenAt m_tokenEnd m_tokenValue m_fault m_seen m_isKept m_place m_numbers m_routes m_turns m_leave m_best) r (wX7_goesWith G a_mo a_mo_numbers a_mo_routes a_mo_turns a_mo_leave a_mo_best a_mo_boxes a_mo_words a_mo_weeks a_mo_leases a_mo_uses a_mo_arcFrom a_mo_arcTo a_mo_arcRoom a_mo_arcCost a_mo_far a_mo_by a_mo_tape a_mo_kept m_arcs m_tapeMany m_tokenKind m_tokenAt m_tokenEnd m_tokenValue m_fault m_seen m_isKept m_place m_numbers m_routes m_turns m_leave m_best) := k0X7_goesWith G a_mo a_mo_numbers a_mo_routes a_mo_turns a_mo_leave a_mo_best a_mo_boxes a_mo_words a_mo_weeks a_mo_leases a_mo_uses a_mo_arcFrom a_mo_arcTo a_mo_arcRoom a_mo_arcCost a_mo_far a_mo_by a_mo_tape a_mo_kept v1 v2 v3 m_arcs m_tapeMany m_tokenKind m_tokenAt m_tokenEnd m_tokenValue m_fault m_seen m_isKept m_place m_numbers m_routes m_turns m_leave m_best h
end MX7_goesWith
/-! EmptyBoxesModel.weigh -/
section MX7_weigh
theorem hdX7_weigh : yX7_weigh.cls = RX7 ∧ yX7_weigh.cls ≠ "java/lang/invoke/MethodHandle" ∧ yX7_weigh.cls ≠ "java/lang/invoke/VarHandle" ∧ (parseMethodDescriptor yX7_weigh.desc).map (fun d => d.parameters.length) = some 0 := by decide +kernel
abbrev wX7_weigh (G : Gt) (a_mo a_mo_numbers a_mo_routes a_mo_turns a_mo_leave a_mo_best a_mo_boxes a_mo_words a_mo_weeks a_mo_leases a_mo_uses a_mo_arcFrom a_mo_arcTo a_mo_arcRoom a_mo_arcCost a_mo_far a_mo_by a_mo_tape a_mo_kept : Nat) (m_arcs : Int32) (m_tapeMany : Int32) (m_tokenKind : Int32) (m_tokenAt : Int32) (m_tokenEnd : Int32) (m_tokenValue : Int32) (m_fault : Int32) (m_seen : Int32) (m_isKept : Int32) (m_place : Int32) (m_numbers : (Nat → Int32)) (m_routes : (Nat → Int32)) (m_turns : (Nat → Int32)) (m_leave : (Nat → Int32)) (m_best : (Nat → Int32)) : va_W := [(a_mo, .inr (7, [.ref a_mo_numbers, .ref a_mo_boxes, .ref a_mo_words, .ref a_mo_weeks, .ref a_mo_routes, .ref a_mo_turns, .ref a_mo_leave, .ref a_mo_leases, .ref a_mo_uses, .ref a_mo_arcFrom, .ref a_mo_arcTo, .ref a_mo_arcRoom, .ref a_mo_arcCost, .int m_arcs, .ref a_mo_far, .ref a_mo_by, .ref a_mo_best, .ref a_mo_tape, .int m_tapeMany, .int m_tokenKind, .int m_tokenAt, .int m_tokenEnd, .int m_tokenValue, .int m_fault, .int m_seen, .int m_isKept, .ref a_mo_kept, .int m_place])), (a_mo_numbers, .inl (G.2.1, 10, .inl m_numbers)), (a_mo_routes, .inl (G.2.1, 50, .inl m_routes)), (a_mo_turns, .inl (G.2.1, 70, .inl m_turns)), (a_mo_leave, .inl (G.2.1, 16, .inl m_leave)), (a_mo_best, .inl (G.2.1, 1024, .inl m_best))]
abbrev rmX7_weigh : Room := { frames := 3, cells := 0, slots := 0, locals := 74 }
theorem iX7_weigh_X7 : ∀ w ∈ wsX70, w ∈ wsX7_weigh := by decide +kernel
theorem eX7_weigh_55 : Fk wsX7_weigh RX7 55 7 16 := ⟨RX7, TX7, 28, rfl, iX7_weigh_X7, by decide, by decide +kernel⟩
theorem eX7_weigh_7 : Fk wsX7_weigh RX7 7 7 0 := ⟨RX7, TX7, 28, rfl, iX7_weigh_X7, by decide, by decide +kernel⟩
theorem ckX7_weigh_X7_goesWith_136 : CkV wsX7_weigh RX7 136 yX7_goesWith wsX7_goesWith cX7_goesWith 4 (some .int) 3 7 := ⟨RX7, TX7, 28, _, rfl, gX7_weigh_X7_goesWith, rfl, hdX7_goesWith⟩
variable {p : Program} {l : Launch} {e : Env} {s : State} {m : MethodId} {args : Array Value} {below : List Frame} {meth : Method} {c : Code} {A : Nat → Prop} {G : Gt} {a_mo a_mo_numbers a_mo_routes a_mo_turns a_mo_leave a_mo_best a_mo_boxes a_mo_words a_mo_weeks a_mo_leases a_mo_uses a_mo_arcFrom a_mo_arcTo a_mo_arcRoom a_mo_arcCost a_mo_far a_mo_by a_mo_tape a_mo_kept : Nat} {m_arcs : Int32} {m_tapeMany : Int32} {m_tokenKind : Int32} {m_tokenAt : Int32} {m_tokenEnd : Int32} {m_tokenValue : Int32} {m_fault : Int32} {m_seen : Int32} {m_isKept : Int32} {m_place : Int32} {m_numbers : (Nat → Int32)} {m_routes : (Nat → Int32)} {m_turns : (Nat → Int32)} {m_leave : (Nat → Int32)} {res : (Nat → Int32)}
set_option maxHeartbeats 4000000 in
set_option maxRecDepth 100000 in
theorem tX7_weigh_134 (X : Bx p s m args meth c cX7_weigh 7 wsX7_weigh RX7 none) (v2 : Int32) (m_best : (Nat → Int32)) (k_39 : Int32 → (Nat → Int32) → Option ((Nat → Int32))) (Hk_39 : ∀ (v2 : Int32) (m_best : (Nat → Int32)), k_39 v2 m_best = some res → ∀ (H : Heap) (locs : List Loc), Wo G A s (wX7_weigh G a_mo a_mo_numbers a_mo_routes a_mo_turns a_mo_leave a_mo_best a_mo_boxes a_mo_words a_mo_weeks a_mo_leases a_mo_uses a_mo_arcFrom a_mo_arcTo a_mo_arcRoom a_mo_arcCost a_mo_far a_mo_by a_mo_tape a_mo_kept m_arcs m_tapeMany m_tokenKind m_tokenAt m_tokenEnd m_tokenValue m_fault m_seen m_isKept m_place m_numbers m_routes m_turns m_leave m_best) H locs → ∀ ls : Array Slot, lv_has ls 7 [(0, .ref a_mo), (2, .int v2)] → W p l e rmX7_weigh s m args below meth c H locs 0 0 (QV G A below args s (wX7_weigh G a_mo a_mo_numbers a_mo_routes a_mo_turns a_mo_leave a_mo_best a_mo_boxes a_mo_words a_mo_weeks a_mo_leases a_mo_uses a_mo_arcFrom a_mo_arcTo a_mo_arcRoom a_mo_arcCost a_mo_far a_mo_by a_mo_tape a_mo_kept m_arcs m_tapeMany m_tokenKind m_tokenAt m_tokenEnd m_tokenValue m_fault m_seen m_isKept m_place m_numbers m_routes m_turns m_leave res)) (F0 m 39 ls [])) (h : fX7_weigh_134 k_39 v2 m_best = some res) : ∀ (H : Heap) (locs : List Loc), Wo G A s (wX7_weigh G a_mo a_mo_numbers a_mo_routes a_mo_turns a_mo_leave a_mo_best a_mo_boxes a_mo_words a_mo_weeks a_mo_leases a_mo_uses a_mo_arcFrom a_mo_arcTo a_mo_arcRoom a_mo_arcCost a_mo_far a_mo_by a_mo_tape a_mo_kept m_arcs m_tapeMany m_tokenKind m_tokenAt m_tokenEnd m_tokenValue m_fault m_seen m_isKept m_place m_numbers m_routes m_turns m_leave m_best) H locs → ∀ ls : Array Slot, lv_has ls 7 [(0, .ref a_mo), (2, .int v2)] → W p l e rmX7_weigh s m args below meth c H locs 0 0 (QV G A below args s (wX7_weigh G a_mo a_mo_numbers a_mo_routes a_mo_turns a_mo_leave a_mo_best a_mo_boxes a_mo_words a_mo_weeks a_mo_leases a_mo_uses a_mo_arcFrom a_mo_arcTo a_mo_arcRoom a_mo_arcCost a_mo_far a_mo_by a_mo_tape a_mo_kept m_arcs m_tapeMany m_tokenKind m_tokenAt m_tokenEnd m_tokenValue m_fault m_seen m_isKept m_place m_numbers m_routes m_turns m_leave res)) (F0 m 134 ls []) := by
  obtain ⟨hx, hb, -⟩ := id X.1
  intro H locs hW ls hl
  rw [fX7_weigh_134] at h
  refine lv_iinc (v := (v2 + (-1 : Int32))) (lv' := [(2, .int (v2 + (-1 : Int32))), (0, .ref a_mo)]) hx hb dX7_weigh_134 hl (k := 1) rfl (congrArg (fun z => v2 + z) qI_m1) (by decide) rfl (fun ls hl => ?_)
  refine lv_goto (tgt := 39) hx hb dX7_weigh_137 (by decide) ?_
  exact Hk_39 (v2 + (-1 : Int32)) m_best h H locs hW ls (lv_sub hl [1, 0] rfl)
set_option maxHeartbeats 4000000 in
set_option maxRecDepth 100000 in
theorem tX7_weigh_114 (X : Bx p s m args meth c cX7_weigh 7 wsX7_weigh RX7 none) (v2 : Int32) (v3 : Int32) (v4 : Int32) (m_best : (Nat → Int32)) (k_45 : Int32 → (Nat → Int32) → Option ((Nat → Int32))) (Hk_45 : ∀ (v3 : Int32) (m_best : (Nat → Int32)), k_45 v3 m_best = some res → ∀ (H : Heap) (locs : List Loc), Wo G A s (wX7_weigh G a_mo a_mo_numbers a_mo_routes a_mo_turns a_mo_leave a_mo_best a_mo_boxes a_mo_words a_mo_weeks a_mo_leases a_mo_uses a_mo_arcFrom a_mo_arcTo a_mo_arcRoom a_mo_arcCost a_mo_far a_mo_by a_mo_tape a_mo_kept m_arcs m_tapeMany m_tokenKind m_tokenAt m_tokenEnd m_tokenValue m_fault m_seen m_isKept m_place m_numbers m_routes m_turns m_leave m_best) H locs → ∀ ls : Array Slot, lv_has ls 7 [(0, .ref a_mo), (2, .int v2), (3, .int v3)] → W p l e rmX7_weigh s m args below meth c H locs 0 0 (QV G A below args s (wX7_weigh G a_mo a_mo_numbers a_mo_routes a_mo_turns a_mo_leave a_mo_best a_mo_boxes a_mo_words a_mo_weeks a_mo_leases a_mo_uses a_mo_arcFrom a_mo_arcTo a_mo_arcRoom a_mo_arcCost a_mo_far a_mo_by a_mo_tape a_mo_kept m_arcs m_tapeMany m_tokenKind m_tokenAt m_tokenEnd m_tokenValue m_fault m_seen m_isKept m_place m_numbers m_routes m_turns m_leave res)) (F0 m 45 ls [])) (h : fX7_weigh_114 k_45 v2 v3 v4 m_best = some res) : ∀ (H : Heap) (locs : List Loc), Wo G A s (wX7_weigh G a_mo a_mo_numbers a_mo_routes a_mo_turns a_mo_leave a_mo_best a_mo_boxes a_mo_words a_mo_weeks a_mo_leases a_mo_uses a_mo_arcFrom a_mo_arcTo a_mo_arcRoom a_mo_arcCost a_mo_far a_mo_by a_mo_tape a_mo_kept m_arcs m_tapeMany m_tokenKind m_tokenAt m_tokenEnd m_tokenValue m_fault m_seen m_isKept m_place m_numbers m_routes m_turns m_leave m_best) H locs → ∀ ls : Array Slot, lv_has ls 7 [(0, .ref a_mo), (2, .int v2), (3, .int v3), (4, .int v4)] → W p l e rmX7_weigh s m args below meth c H locs 0 0 (QV G A below args s (wX7_weigh G a_mo a_mo_numbers a_mo_routes a_mo_turns a_mo_leave a_mo_best a_mo_boxes a_mo_words a_mo_weeks a_mo_leases a_mo_uses a_mo_arcFrom a_mo_arcTo a_mo_arcRoom a_mo_arcCost a_mo_far a_mo_by a_mo_tape a_mo_kept m_arcs m_tapeMany m_tokenKind m_tokenAt m_tokenEnd m_tokenValue m_fault m_seen m_isKept m_place m_numbers m_routes m_turns m_leave res)) (F0 m 114 ls []) := by
  obtain ⟨hx, hb, -⟩ := id X.1
  intro H locs hW ls hl
  rw [fX7_weigh_114] at h
  refine lv_aload_n hx hb dX7_weigh_114 rfl (lv_at hl 0 rfl) ?_
  refine g_get X hW eX7_weigh_55 0 rfl rfl dX7_weigh_115 ?_
  refine lv_sipush hx hb dX7_weigh_118 qS_128 ?_
  refine lv_iload_n hx hb dX7_weigh_121 rfl (lv_at hl 1 rfl) ?_
  refine lv_imul hx hb dX7_weigh_122 ?_
  refine lv_iload_n hx hb dX7_weigh_123 rfl (lv_at hl 2 rfl) ?_
  refine lv_iadd hx hb dX7_weigh_124 ?_
  refine lv_iload hx hb dX7_weigh_125 (lv_at hl 3 rfl) ?_
  obtain ⟨g11, h⟩ := gd_some h
  refine g_ast X hW (ws' := (wX7_weigh G a_mo a_mo_numbers a_mo_routes a_mo_turns a_mo_leave a_mo_best a_mo_boxes a_mo_words a_mo_weeks a_mo_leases a_mo_uses a_mo_arcFrom a_mo_arcTo a_mo_arcRoom a_mo_arcCost a_mo_far a_mo_by a_mo_tape a_mo_kept m_arcs m_tapeMany m_tokenKind m_tokenAt m_tokenEnd m_tokenValue m_fault m_seen m_isKept m_place m_numbers m_routes m_turns m_leave (upd m_best (((128 : Int32) * v2) + v3).toNatClampNeg v4))) 5 rfl g11 rfl dX7_weigh_127 (fun H locs hW => ?_)
  refine lv_iinc (v := (v3 + (1 : Int32))) (lv' := [(3, .int (v3 + (1 : Int32))), (0, .ref a_mo), (2, .int v2), (4, .int v4)]) hx hb dX7_weigh_128 hl (k := 2) rfl (congrArg (fun z => v3 + z) qI_1) (by decide) rfl (fun ls hl => ?_)
  refine lv_goto (tgt := 45) hx hb dX7_weigh_131 (by decide) ?_
  exact Hk_45 (v3 + (1 : Int32)) (upd m_best (((128 : Int32) * v2) + v3).toNatClampNeg v4) h H locs hW ls (lv_sub hl [1, 2, 0] rfl)
set_option maxHeartbeats 4000000 in
set_option maxRecDepth 100000 in
theorem tX7_weigh_106 (X : Bx p s m args meth c cX7_weigh 7 wsX7_weigh RX7 none) (v2 : Int32) (v3 : Int32) (v5 : Int32) (t0 : Int32) (m_best : (Nat → Int32)) (k_71 : Int32 → Int32 → Option ((Nat → Int32))) (Hk_71 : ∀ (v4 : Int32) (v5 : Int32), k_71 v4 v5 = some res → ∀ (H : Heap) (locs : List Loc), Wo G A s (wX7_weigh G a_mo a_mo_numbers a_mo_routes a_mo_turns a_mo_leave a_mo_best a_mo_boxes a_mo_words a_mo_weeks a_mo_leases a_mo_uses a_mo_arcFrom a_mo_arcTo a_mo_arcRoom a_mo_arcCost a_mo_far a_mo_by a_mo_tape a_mo_kept m_arcs m_tapeMany m_tokenKind m_tokenAt m_tokenEnd m_tokenValue m_fault m_seen m_isKept m_place m_numbers m_routes m_turns m_leave m_best) H locs → ∀ ls : Array Slot, lv_has ls 7 [(0, .ref a_mo), (2, .int v2), (3, .int v3), (4, .int v4), (5, .int v5)] → W p l e rmX7_weigh s m args below meth c H locs 0 0 (QV G A below args s (wX7_weigh G a_mo a_mo_numbers a_mo_routes a_mo_turns a_mo_leave a_mo_best a_mo_boxes a_mo_words a_mo_weeks a_mo_leases a_mo_uses a_mo_arcFrom a_mo_arcTo a_mo_arcRoom a_mo_arcCost a_mo_far a_mo_by a_mo_tape a_mo_kept m_arcs m_tapeMany m_tokenKind m_tokenAt m_tokenEnd m_tokenValue m_fault m_seen m_isKept m_place m_numbers m_routes m_turns m_leave res)) (F0 m 71 ls [])) (h : fX7_weigh_106 k_71 v5 t0 = some res) : ∀ (H : Heap) (locs : List Loc), Wo G A s (wX7_weigh G a_mo a_mo_numbers a_mo_routes a_mo_turns a_mo_leave a_mo_best a_mo_boxes a_mo_words a_mo_weeks a_mo_leases a_mo_uses a_mo_arcFrom a_mo_arcTo a_mo_arcRoom a_mo_arcCost a_mo_far a_mo_by a_mo_tape a_mo_kept m_arcs m_tapeMany m_tokenKind m_tokenAt m_tokenEnd m_tokenValue m_fault m_seen m_isKept m_place m_numbers m_routes m_turns m_leave m_best) H locs → ∀ ls : Array Slot, lv_has ls 7 [(0, .ref a_mo), (2, .int v2), (3, .int v3), (5, .int v5)] → W p l e rmX7_weigh s m args below meth c H locs 0 0 (QV G A below args s (wX7_weigh G a_mo a_mo_numbers a_mo_routes a_mo_turns a_mo_leave a_mo_best a_mo_boxes a_mo_words a_mo_weeks a_mo_leases a_mo_uses a_mo_arcFrom a_mo_arcTo a_mo_arcRoom a_mo_arcCost a_mo_far a_mo_by a_mo_tape a_mo_kept m_arcs m_tapeMany m_tokenKind m_tokenAt m_tokenEnd m_tokenValue m_fault m_seen m_isKept m_place m_numbers m_routes m_turns m_leave res)) (F0 m 106 ls [.int t0]) := by
  obtain ⟨hx, hb, -⟩ := id X.1
  intro H locs hW ls hl
  rw [fX7_weigh_106] at h
  refine lv_istore (lv' := [(4, .int t0), (0, .ref a_mo), (2, .int v2), (3, .int v3), (5, .int v5)]) hx hb dX7_weigh_106 hl (by decide) rfl (fun ls hl => ?_)
  refine lv_iinc (v := (v5 + (1 : Int32))) (lv' := [(5, .int (v5 + (1 : Int32))), (4, .int t0), (0, .ref a_mo), (2, .int v2), (3, .int v3)]) hx hb dX7_weigh_108 hl (k := 4) rfl (congrArg (fun z => v5 + z) qI_1) (by decide) rfl (fun ls hl => ?_)
  refine lv_goto (tgt := 71) hx hb dX7_weigh_111 (by decide) ?_
  exact Hk_71 t0 (v5 + (1 : Int32)) h H locs hW ls (lv_sub hl [2, 3, 4, 1, 0] rfl)
set_option maxHeartbeats 4000000 in
set_option maxRecDepth 100000 in
theorem tX7_weigh_71 (X : Bx p s m args meth c cX7_weigh 7 wsX7_weigh RX7 none) (v2 : Int32) (v3 : Int32) (m_best : (Nat → Int32)) (k_114 : Int32 → Option ((Nat → Int32))) (Hk_114 : ∀ (v4 : Int32), k_114 v4 = some res → ∀ (H : Heap) (locs : List Loc), Wo G A s (wX7_weigh G a_mo a_mo_numbers a_mo_routes a_mo_turns a_mo_leave a_mo_best a_mo_boxes a_mo_words a_mo_weeks a_mo_leases a_mo_uses a_mo_arcFrom a_mo_arcTo a_mo_arcRoom a_mo_arcCost a_mo_far a_mo_by a_mo_tape a_mo_kept m_arcs m_tapeMany m_tokenKind m_tokenAt m_tokenEnd m_tokenValue m_fault m_seen m_isKept m_place m_numbers m_routes m_turns m_leave m_best) H locs → ∀ ls : Array Slot, lv_has ls 7 [(0, .ref a_mo), (2, .int v2), (3, .int v3), (4, .int v4)] → W p l e rmX7_weigh s m args below meth c H locs 0 0 (QV G A below args s (wX7_weigh G a_mo a_mo_numbers a_mo_routes a_mo_turns a_mo_leave a_mo_best a_mo_boxes a_mo_words a_mo_weeks a_mo_leases a_mo_uses a_mo_arcFrom a_mo_arcTo a_mo_arcRoom a_mo_arcCost a_mo_far a_mo_by a_mo_tape a_mo_kept m_arcs m_tapeMany m_tokenKind m_tokenAt m_tokenEnd m_tokenValue m_fault m_seen m_isKept m_place m_numbers m_routes m_turns m_leave res)) (F0 m 114 ls [])) : ∀ (n : Nat) (v4 : Int32) (v5 : Int32), fX7_weigh_71 v2 v3 m_numbers m_routes m_turns m_leave m_best k_114 n v4 v5 = some res → ∀ (H : Heap) (locs : List Loc), Wo G A s (wX7_weigh G a_mo a_mo_numbers a_mo_routes a_mo_turns a_mo_leave a_mo_best a_mo_boxes a_mo_words a_mo_weeks a_mo_leases a_mo_uses a_mo_arcFrom a_mo_arcTo a_mo_arcRoom a_mo_arcCost a_mo_far a_mo_by a_mo_tape a_mo_kept m_arcs m_tapeMany m_tokenKind m_tokenAt m_tokenEnd m_tokenValue m_fault m_seen m_isKept m_place m_numbers m_routes m_turns m_leave m_best) H locs → ∀ ls : Array Slot, lv_has ls 7 [(0, .ref a_mo), (2, .int v2), (3, .int v3), (4, .int v4), (5, .int v5)] → W p l e rmX7_weigh s m args below meth c H locs 0 0 (QV G A below args s (wX7_weigh G a_mo a_mo_numbers a_mo_routes a_mo_turns a_mo_leave a_mo_best a_mo_boxes a_mo_words a_mo_weeks a_mo_leases a_mo_uses a_mo_arcFrom a_mo_arcTo a_mo_arcRoom a_mo_arcCost a_mo_far a_mo_by a_mo_tape a_mo_kept m_arcs m_tapeMany m_tokenKind m_tokenAt m_tokenEnd m_tokenValue m_fault m_seen m_isKept m_place m_numbers m_routes m_turns m_leave res)) (F0 m 71 ls []) := by
  obtain ⟨hx, hb, -⟩ := id X.1
  intro n
  induction n with
  | zero => intro v4 v5 h; rw [fX7_weigh_71] at h; cases h
  | succ n ih =>
    intro v4 v5 h H locs hW ls hl
    rw [fX7_weigh_71] at h
    refine lv_iload hx hb dX7_weigh_71 (lv_at hl 4 rfl) ?_
    refine lv_aload_n hx hb dX7_weigh_73 rfl (lv_at hl 0 rfl) ?_
    refine g_get X hW eX7_weigh_7 0 rfl rfl dX7_weigh_74 ?_
    refine lv_iconst hx hb dX7_weigh_77 qI_5 ?_
    obtain ⟨g21, h⟩ := gd_some h
    refine g_ald X hW 1 rfl g21 dX7_weigh_78 ?_
    refine lv_icmp_ge (tgt := 114) hx hb dX7_weigh_79 (by decide) (fun c22 => ?_) (fun c22 => ?_)
    · have h := (if_pos c22).symm.trans h
      exact Hk_114 v4 h H locs hW ls (lv_sub hl [0, 1, 2, 3] rfl)
    · have h := (if_neg c22).symm.trans h
      refine lv_aload_n hx hb dX7_weigh_82 rfl (lv_at hl 0 rfl) ?_
      refine lv_iload_n hx hb dX7_weigh_83 rfl (lv_at hl 1 rfl) ?_
      refine lv_iload hx hb dX7_weigh_84 (lv_at hl 4 rfl) ?_
      refine lv_iload_n hx hb dX7_weigh_86 rfl (lv_at hl 2 rfl) ?_
      obtain ⟨r27, hq, h⟩ := bn1_some h
      refine g_cvi X hW (As := [.int v2, .int v5, .int v3]) (ws' := (wX7_weigh G a_mo a_mo_numbers a_mo_routes a_mo_turns a_mo_leave a_mo_best a_mo_boxes a_mo_words a_mo_weeks a_mo_leases a_mo_uses a_mo_arcFrom a_mo_arcTo a_mo_arcRoom a_mo_arcCost a_mo_far a_mo_by a_mo_tape a_mo_kept m_arcs m_tapeMany m_tokenKind m_tokenAt m_tokenEnd m_tokenValue m_fault m_seen m_isKept m_place m_numbers m_routes m_turns m_leave m_best)) ckX7_weigh_X7_goesWith_136 (kcX7_goesWith (l := l) G a_mo a_mo_numbers a_mo_routes a_mo_turns a_mo_leave a_mo_best a_mo_boxes a_mo_words a_mo_weeks a_mo_leases a_mo_uses a_mo_arcFrom a_mo_arcTo a_mo_arcRoom a_mo_arcCost a_mo_far a_mo_by a_mo_tape a_mo_kept v2 v5 v3 m_arcs m_tapeMany m_tokenKind m_tokenAt m_tokenEnd m_tokenValue m_fault m_seen m_isKept m_place m_numbers m_routes m_turns m_leave m_best hq) ⟨rfl, rfl, Nat.le_of_ble_eq_true rfl, Nat.le_of_ble_eq_true rfl⟩ [0, 1, 2, 3, 4, 5] rfl rfl rfl rfl rfl rfl rfl hl.1 (Nat.le_of_ble_eq_true rfl) ⟨Nat.zero_le _, Nat.zero_le _⟩ dX7_weigh_87 (fun H locs hW => ?_)
      refine lv_istore (lv' := [(6, .int r27), (0, .ref a_mo), (2, .int v2), (3, .int v3), (4, .int v4), (5, .int v5)]) hx hb dX7_weigh_90 hl (by decide) rfl (fun ls hl => ?_)
      refine lv_iload hx hb dX7_weigh_92 (lv_at hl 0 rfl) ?_
      refine lv_iload hx hb dX7_weigh_94 (lv_at hl 4 rfl) ?_
      refine lv_icmp_le (tgt := 104) hx hb dX7_weigh_96 (by decide) (fun c31 => ?_) (fun c31 => ?_)
      · have h := (if_pos c31).symm.trans h
        refine lv_iload hx hb dX7_weigh_104 (lv_at hl 4 rfl) ?_
        exact tX7_weigh_106 X v2 v3 v5 v4 m_best (fun v4 v5 => fX7_weigh_71 v2 v3 m_numbers m_routes m_turns m_leave m_best k_114 n v4 v5) ih h H locs hW ls (lv_sub hl [1, 2, 3, 5] rfl)
      · have h := (if_neg c31).symm.trans h
        refine lv_iload hx hb dX7_weigh_99 (lv_at hl 0 rfl) ?_
        refine lv_goto (tgt := 106) hx hb dX7_weigh_101 (by decide) ?_
        exact tX7_weigh_106 X v2 v3 v5 r27 m_best (fun v4 v5 => fX7_weigh_71 v2 v3 m_numbers m_routes m_turns m_leave m_best k_114 n v4 v5) ih h H locs hW ls (lv_sub hl [1, 2, 3, 5] rfl)
set_option maxHeartbeats 4000000 in
set_option maxRecDepth 100000 in
theorem tX7_weigh_45 (X : Bx p s m args meth c cX7_weigh 7 wsX7_weigh RX7 none) (v2 : Int32) (k_134 : (Nat → Int32) → Option ((Nat → Int32))) (Hk_134 : ∀ (m_best : (Nat → Int32)), k_134 m_best = some res → ∀ (H : Heap) (locs : List Loc), Wo G A s (wX7_weigh G a_mo a_mo_numbers a_mo_routes a_mo_turns a_mo_leave a_mo_best a_mo_boxes a_mo_words a_mo_weeks a_mo_leases a_mo_uses a_mo_arcFrom a_mo_arcTo a_mo_arcRoom a_mo_arcCost a_mo_far a_mo_by a_mo_tape a_mo_kept m_arcs m_tapeMany m_tokenKind m_tokenAt m_tokenEnd m_tokenValue m_fault m_seen m_isKept m_place m_numbers m_routes m_turns m_leave m_best) H locs → ∀ ls : Array Slot, lv_has ls 7 [(0, .ref a_mo), (2, .int v2)] → W p l e rmX7_weigh s m args below meth c H locs 0 0 (QV G A below args s (wX7_weigh G a_mo a_mo_numbers a_mo_routes a_mo_turns a_mo_leave a_mo_best a_mo_boxes a_mo_words a_mo_weeks a_mo_leases a_mo_uses a_mo_arcFrom a_mo_arcTo a_mo_arcRoom a_mo_arcCost a_mo_far a_mo_by a_mo_tape a_mo_kept m_arcs m_tapeMany m_tokenKind m_tokenAt m_tokenEnd m_tokenValue m_fault m_seen m_isKept m_place m_numbers m_routes m_turns m_leave res)) (F0 m 134 ls [])) : ∀ (n : Nat) (v3 : Int32) (m_best : (Nat → Int32)), fX7_weigh_45 v2 m_numbers m_routes m_turns m_leave k_134 n v3 m_best = some res → ∀ (H : Heap) (locs : List Loc), Wo G A s (wX7_weigh G a_mo a_mo_numbers a_mo_routes a_mo_turns a_mo_leave a_mo_best a_mo_boxes a_mo_words a_mo_weeks a_mo_leases a_mo_uses a_mo_arcFrom a_mo_arcTo a_mo_arcRoom a_mo_arcCost a_mo_far a_mo_by a_mo_tape a_mo_kept m_arcs m_tapeMany m_tokenKind m_tokenAt m_tokenEnd m_tokenValue m_fault m_seen m_isKept m_place m_numbers m_routes m_turns m_leave m_best) H locs → ∀ ls : Array Slot, lv_has ls 7 [(0, .ref a_mo), (2, .int v2), (3, .int v3)] → W p l e rmX7_weigh s m args below meth c H locs 0 0 (QV G A below args s (wX7_weigh G a_mo a_mo_numbers a_mo_routes a_mo_turns a_mo_leave a_mo_best a_mo_boxes a_mo_words a_mo_weeks a_mo_leases a_mo_uses a_mo_arcFrom a_mo_arcTo a_mo_arcRoom a_mo_arcCost a_mo_far a_mo_by a_mo_tape a_mo_kept m_arcs m_tapeMany m_tokenKind m_tokenAt m_tokenEnd m_tokenValue m_fault m_seen m_isKept m_place m_numbers m_routes m_turns m_leave res)) (F0 m 45 ls []) := by
  obtain ⟨hx, hb, -⟩ := id X.1
  intro n
  induction n with
  | zero => intro v3 m_best h; rw [fX7_weigh_45] at h; cases h
  | succ n ih =>
    intro v3 m_best h H locs hW ls hl
    rw [fX7_weigh_45] at h
    refine lv_iload_n hx hb dX7_weigh_45 rfl (lv_at hl 2 rfl) ?_
    refine lv_sipush hx hb dX7_weigh_46 qS_128 ?_
    refine lv_icmp_ge (tgt := 134) hx hb dX7_weigh_49 (by decide) (fun c37 => ?_) (fun c37 => ?_)
    · have h := (if_pos c37).symm.trans h
      exact Hk_134 m_best h H locs hW ls (lv_sub hl [0, 1] rfl)
    · have h := (if_neg c37).symm.trans h
      refine lv_aload_n hx hb dX7_weigh_52 rfl (lv_at hl 0 rfl) ?_
      refine g_get X hW eX7_weigh_55 0 rfl rfl dX7_weigh_53 ?_
      refine lv_sipush hx hb dX7_weigh_56 qS_128 ?_
      refine lv_iload_n hx hb dX7_weigh_59 rfl (lv_at hl 1 rfl) ?_
      refine lv_iconst hx hb dX7_weigh_60 qI_1 ?_
      refine lv_iadd hx hb dX7_weigh_61 ?_
      refine lv_imul hx hb dX7_weigh_62 ?_
      refine lv_iload_n hx hb dX7_weigh_63 rfl (lv_at hl 2 rfl) ?_
      refine lv_iadd hx hb dX7_weigh_64 ?_
      obtain ⟨g47, h⟩ := gd_some h
      refine g_ald X hW 5 rfl g47 dX7_weigh_65 ?_
      refine lv_istore (lv' := [(4, .int (m_best (((128 : Int32) * (v2 + (1 : Int32))) + v3).toNatClampNeg)), (0, .ref a_mo), (2, .int v2), (3, .int v3)]) hx hb dX7_weigh_66 hl (by decide) rfl (fun ls hl => ?_)
      refine lv_iconst hx hb dX7_weigh_68 qI_0 ?_
      refine lv_istore (lv' := [(5, .int (0 : Int32)), (4, .int (m_best (((128 : Int32) * (v2 + (1 : Int32))) + v3).toNatClampNeg)), (0, .ref a_mo), (2, .int v2), (3, .int v3)]) hx hb dX7_weigh_69 hl (by decide) rfl (fun ls hl => ?_)
      exact tX7_weigh_71 X v2 v3 m_best (fun v4_q51 => fX7_weigh_114 (fun v3 m_best => fX7_weigh_45 v2 m_numbers m_routes m_turns m_leave k_134 n v3 m_best) v2 v3 v4_q51 m_best) (fun v4_q51 h H locs hW ls hl => by exact tX7_weigh_114 X v2 v3 v4_q51 m_best (fun v3 m_best => fX7_weigh_45 v2 m_numbers m_routes m_turns m_leave k_134 n v3 m_best) ih h H locs hW ls hl) FU (m_best (((128 : Int32) * (v2 + (1 : Int32))) + v3).toNatClampNeg) (0 : Int32) h H locs hW ls (lv_sub hl [2, 3, 4, 1, 0] rfl)
set_option maxHeartbeats 4000000 in
set_option maxRecDepth 100000 in
theorem tX7_weigh_39 (X : Bx p s m args meth c cX7_weigh 7 wsX7_weigh RX7 none)    : ∀ (n : Nat) (v2 : Int32) (m_best : (Nat → Int32)), fX7_weigh_39 m_numbers m_routes m_turns m_leave n v2 m_best = some res → ∀ (H : Heap) (locs : List Loc), Wo G A s (wX7_weigh G a_mo a_mo_numbers a_mo_routes a_mo_turns a_mo_leave a_mo_best a_mo_boxes a_mo_words a_mo_weeks a_mo_leases a_mo_uses a_mo_arcFrom a_mo_arcTo a_mo_arcRoom a_mo_arcCost a_mo_far a_mo_by a_mo_tape a_mo_kept m_arcs m_tapeMany m_tokenKind m_tokenAt m_tokenEnd m_tokenValue m_fault m_seen m_isKept m_place m_numbers m_routes m_turns m_leave m_best) H locs → ∀ ls : Array Slot, lv_has ls 7 [(0, .ref a_mo), (2, .int v2)] → W p l e rmX7_weigh s m args below meth c H locs 0 0 (QV G A below args s (wX7_weigh G a_mo a_mo_numbers a_mo_routes a_mo_turns a_mo_leave a_mo_best a_mo_boxes a_mo_words a_mo_weeks a_mo_leases a_mo_uses a_mo_arcFrom a_mo_arcTo a_mo_arcRoom a_mo_arcCost a_mo_far a_mo_by a_mo_tape a_mo_kept m_arcs m_tapeMany m_tokenKind m_tokenAt m_tokenEnd m_tokenValue m_fault m_seen m_isKept m_place m_numbers m_routes m_turns m_leave res)) (F0 m 39 ls []) := by
  obtain ⟨hx, hb, -⟩ := id X.1
  intro n
  induction n with
  | zero => intro v2 m_best h; rw [fX7_weigh_39] at h; cases h
  | succ n ih =>
    intro v2 m_best h H locs hW ls hl
    rw [fX7_weigh_39] at h
    refine lv_iload_n hx hb dX7_weigh_39 rfl (lv_at hl 1 rfl) ?_
    refine lv_if_lt (tgt := 140) hx hb dX7_weigh_40 (by decide) (fun c53 => ?_) (fun c53 => ?_)
    · have h := (if_pos c53).symm.trans h
      obtain rfl := Option.some.inj h
      exact g_vret X hW dX7_weigh_140
    · have h := (if_neg c53).symm.trans h
      refine lv_iconst hx hb dX7_weigh_43 qI_0 ?_
      refine lv_istore_n (lv' := [(3, .int (0 : Int32)), (0, .ref a_mo), (2, .int v2)]) hx hb dX7_weigh_44 rfl hl (by decide) rfl (fun ls hl => ?_)
      exact tX7_weigh_45 X v2 (fun m_best_q57 => fX7_weigh_134 (fun v2 m_best => fX7_weigh_39 m_numbers m_routes m_turns m_leave n v2 m_best) v2 m_best_q57) (fun m_best_q57 h H locs hW ls hl => by exact tX7_weigh_134 X v2 m_best_q57 (fun v2 m_best => fX7_weigh_39 m_numbers m_routes m_turns m_leave n v2 m_best) ih h H locs hW ls hl) FU (0 : Int32) m_best h H locs hW ls (lv_sub hl [1, 2, 0] rfl)
set_option maxHeartbeats 4000000 in
set_option maxRecDepth 100000 in
theorem tX7_weigh_35 (X : Bx p s m args meth c cX7_weigh 7 wsX7_weigh RX7 none) (v1 : Int32) (m_best : (Nat → Int32))   (h : fX7_weigh_35 v1 m_numbers m_routes m_turns m_leave m_best = some res) : ∀ (H : Heap) (locs : List Loc), Wo G A s (wX7_weigh G a_mo a_mo_numbers a_mo_routes a_mo_turns a_mo_leave a_mo_best a_mo_boxes a_mo_words a_mo_weeks a_mo_leases a_mo_uses a_mo_arcFrom a_mo_arcTo a_mo_arcRoom a_mo_arcCost a_mo_far a_mo_by a_mo_tape a_mo_kept m_arcs m_tapeMany m_tokenKind m_tokenAt m_tokenEnd m_tokenValue m_fault m_seen m_isKept m_place m_numbers m_routes m_turns m_leave m_best) H locs → ∀ ls : Array Slot, lv_has ls 7 [(0, .ref a_mo), (1, .int v1)] → W p l e rmX7_weigh s m args below meth c H locs 0 0 (QV G A below args s (wX7_weigh G a_mo a_mo_numbers a_mo_routes a_mo_turns a_mo_leave a_mo_best a_mo_boxes a_mo_words a_mo_weeks a_mo_leases a_mo_uses a_mo_arcFrom a_mo_arcTo a_mo_arcRoom a_mo_arcCost a_mo_far a_mo_by a_mo_tape a_mo_kept m_arcs m_tapeMany m_tokenKind m_tokenAt m_tokenEnd m_tokenValue m_fault m_seen m_isKept m_place m_numbers m_routes m_turns m_leave res)) (F0 m 35 ls []) := by
  obtain ⟨hx, hb, -⟩ := id X.1
  intro H locs hW ls hl
  rw [fX7_weigh_35] at h
  refine lv_iload_n hx hb dX7_weigh_35 rfl (lv_at hl 1 rfl) ?_
  refine lv_iconst hx hb dX7_weigh_36 qI_1 ?_
  refine lv_isub hx hb dX7_weigh_37 ?_
  refine lv_istore_n (lv' := [(2, .int (v1 - (1 : Int32))), (0, .ref a_mo), (1, .int v1)]) hx hb dX7_weigh_38 rfl hl (by decide) rfl (fun ls hl => ?_)
  exact tX7_weigh_39 X  FU (v1 - (1 : Int32)) m_best h H locs hW ls (lv_sub hl [1, 0] rfl)
set_option maxHeartbeats 4000000 in
set_option maxRecDepth 100000 in
theorem tX7_weigh_9 (X : Bx p s m args meth c cX7_weigh 7 wsX7_weigh RX7 none) (v1 : Int32) (k_35 : (Nat → Int32) → Option ((Nat → Int32))) (Hk_35 : ∀ (m_best : (Nat → Int32)), k_35 m_best = some res → ∀ (H : Heap) (locs : List Loc), Wo G A s (wX7_weigh G a_mo a_mo_numbers a_mo_routes a_mo_turns a_mo_leave a_mo_best a_mo_boxes a_mo_words a_mo_weeks a_mo_leases a_mo_uses a_mo_arcFrom a_mo_arcTo a_mo_arcRoom a_mo_arcCost a_mo_far a_mo_by a_mo_tape a_mo_kept m_arcs m_tapeMany m_tokenKind m_tokenAt m_tokenEnd m_tokenValue m_fault m_seen m_isKept m_place m_numbers m_routes m_turns m_leave m_best) H locs → ∀ ls : Array Slot, lv_has ls 7 [(0, .ref a_mo), (1, .int v1)] → W p l e rmX7_weigh s m args below meth c H locs 0 0 (QV G A below args s (wX7_weigh G a_mo a_mo_numbers a_mo_routes a_mo_turns a_mo_leave a_mo_best a_mo_boxes a_mo_words a_mo_weeks a_mo_leases a_mo_uses a_mo_arcFrom a_mo_arcTo a_mo_arcRoom a_mo_arcCost a_mo_far a_mo_by a_mo_tape a_mo_kept m_arcs m_tapeMany m_tokenKind m_tokenAt m_tokenEnd m_tokenValue m_fault m_seen m_isKept m_place m_numbers m_routes m_turns m_leave res)) (F0 m 35 ls [])) : ∀ (n : Nat) (v2 : Int32) (m_best : (Nat → Int32)), fX7_weigh_9 v1 k_35 n v2 m_best = some res → ∀ (H : Heap) (locs : List Loc), Wo G A s (wX7_weigh G a_mo a_mo_numbers a_mo_routes a_mo_turns a_mo_leave a_mo_best a_mo_boxes a_mo_words a_mo_weeks a_mo_leases a_mo_uses a_mo_arcFrom a_mo_arcTo a_mo_arcRoom a_mo_arcCost a_mo_far a_mo_by a_mo_tape a_mo_kept m_arcs m_tapeMany m_tokenKind m_tokenAt m_tokenEnd m_tokenValue m_fault m_seen m_isKept m_place m_numbers m_routes m_turns m_leave m_best) H locs → ∀ ls : Array Slot, lv_has ls 7 [(0, .ref a_mo), (1, .int v1), (2, .int v2)] → W p l e rmX7_weigh s m args below meth c H locs 0 0 (QV G A below args s (wX7_weigh G a_mo a_mo_numbers a_mo_routes a_mo_turns a_mo_leave a_mo_best a_mo_boxes a_mo_words a_mo_weeks a_mo_leases a_mo_uses a_mo_arcFrom a_mo_arcTo a_mo_arcRoom a_mo_arcCost a_mo_far a_mo_by a_mo_tape a_mo_kept m_arcs m_tapeMany m_tokenKind m_tokenAt m_tokenEnd m_tokenValue m_fault m_seen m_isKept m_place m_numbers m_routes m_turns m_leave res)) (F0 m 9 ls []) := by
  obtain ⟨hx, hb, -⟩ := id X.1
  intro n
  induction n with
  | zero => intro v2 m_best h; rw [fX7_weigh_9] at h; cases h
  | succ n ih =>
    intro v2 m_best h H locs hW ls hl
    rw [fX7_weigh_9] at h
    refine lv_iload_n hx hb dX7_weigh_9 rfl (lv_at hl 2 rfl) ?_
    refine lv_sipush hx hb dX7_weigh_10 qS_128 ?_
    refine lv_icmp_ge (tgt := 35) hx hb dX7_weigh_13 (by decide) (fun c64 => ?_) (fun c64 => ?_)
    · have h := (if_pos c64).symm.trans h
      exact Hk_35 m_best h H locs hW ls (lv_sub hl [0, 1] rfl)
    · have h := (if_neg c64).symm.trans h
      refine lv_aload_n hx hb dX7_weigh_16 rfl (lv_at hl 0 rfl) ?_
      refine g_get X hW eX7_weigh_55 0 rfl rfl dX7_weigh_17 ?_
      refine lv_sipush hx hb dX7_weigh_20 qS_128 ?_
      refine lv_iload_n hx hb dX7_weigh_23 rfl (lv_at hl 1 rfl) ?_
      refine lv_imul hx hb dX7_weigh_24 ?_
      refine lv_iload_n hx hb dX7_weigh_25 rfl (lv_at hl 2 rfl) ?_
      refine lv_iadd hx hb dX7_weigh_26 ?_
      refine lv_iconst hx hb dX7_weigh_27 qI_0 ?_
      obtain ⟨g73, h⟩ := gd_some h
      refine g_ast X hW (ws' := (wX7_weigh G a_mo a_mo_numbers a_mo_routes a_mo_turns a_mo_leave a_mo_best a_mo_boxes a_mo_words a_mo_weeks a_mo_leases a_mo_uses a_mo_arcFrom a_mo_arcTo a_mo_arcRoom a_mo_arcCost a_mo_far a_mo_by a_mo_tape a_mo_kept m_arcs m_tapeMany m_tokenKind m_tokenAt m_tokenEnd m_tokenValue m_fault m_seen m_isKept m_place m_numbers m_routes m_turns m_leave (upd m_best (((128 : Int32) * v1) + v2).toNatClampNeg (0 : Int32)))) 5 rfl g73 rfl dX7_weigh_28 (fun H locs hW => ?_)
      refine lv_iinc (v := (v2 + (1 : Int32))) (lv' := [(2, .int (v2 + (1 : Int32))), (0, .ref a_mo), (1, .int v1)]) hx hb dX7_weigh_29 hl (k := 2) rfl (congrArg (fun z => v2 + z) qI_1) (by decide) rfl (fun ls hl => ?_)
      refine lv_goto (tgt := 9) hx hb dX7_weigh_32 (by decide) ?_
      exact ih (v2 + (1 : Int32)) (upd m_best (((128 : Int32) * v1) + v2).toNatClampNeg (0 : Int32)) h H locs hW ls (lv_sub hl [1, 2, 0] rfl)
set_option maxHeartbeats 4000000 in
set_option maxRecDepth 100000 in
theorem k0X7_weigh {l : Launch} (G : Gt) (a_mo a_mo_numbers a_mo_routes a_mo_turns a_mo_leave a_mo_best a_mo_boxes a_mo_words a_mo_weeks a_mo_leases a_mo_uses a_mo_arcFrom a_mo_arcTo a_mo_arcRoom a_mo_arcCost a_mo_far a_mo_by a_mo_tape a_mo_kept : Nat)  (m_arcs : Int32) (m_tapeMany : Int32) (m_tokenKind : Int32) (m_tokenAt : Int32) (m_tokenEnd : Int32) (m_tokenValue : Int32) (m_fault : Int32) (m_seen : Int32) (m_isKept : Int32) (m_place : Int32) (m_numbers : (Nat → Int32)) (m_routes : (Nat → Int32)) (m_turns : (Nat → Int32)) (m_leave : (Nat → Int32)) (m_best : (Nat → Int32)) {res : (Nat → Int32)} (h : fX7_weigh m_numbers m_routes m_turns m_leave m_best = some res) : CtV G l yX7_weigh wsX7_weigh rmX7_weigh [.ref a_mo] (wX7_weigh G a_mo a_mo_numbers a_mo_routes a_mo_turns a_mo_leave a_mo_best a_mo_boxes a_mo_words a_mo_weeks a_mo_leases a_mo_uses a_mo_arcFrom a_mo_arcTo a_mo_arcRoom a_mo_arcCost a_mo_far a_mo_by a_mo_tape a_mo_kept m_arcs m_tapeMany m_tokenKind m_tokenAt m_tokenEnd m_tokenValue m_fault m_seen m_isKept m_place m_numbers m_routes m_turns m_leave m_best) (wX7_weigh G a_mo a_mo_numbers a_mo_routes a_mo_turns a_mo_leave a_mo_best a_mo_boxes a_mo_words a_mo_weeks a_mo_leases a_mo_uses a_mo_arcFrom a_mo_arcTo a_mo_arcRoom a_mo_arcCost a_mo_far a_mo_by a_mo_tape a_mo_kept m_arcs m_tapeMany m_tokenKind m_tokenAt m_tokenEnd m_tokenValue m_fault m_seen m_isKept m_place m_numbers m_routes m_turns m_leave res) := by
  refine CtV.mk (cc := cX7_weigh) (maxL := 7) (ret := none) (own := RX7) (by decide) rfl rfl (Nat.le_of_ble_eq_true rfl) ?_
  intro p e s m below meth c A X ls hl hW
  obtain ⟨hx, hb, -⟩ := id X.1
  have hl : lv_has ls 7 [(0, .ref a_mo)] := hl
  generalize hH : s.heap = H at hW ⊢
  generalize hLo : ([] : List Loc) = locs at hW ⊢
  rw [fX7_weigh] at h
  refine lv_aload_n hx hb dX7_weigh_0 rfl (lv_at hl 0 rfl) ?_
  refine g_get X hW eX7_weigh_7 0 rfl rfl dX7_weigh_1 ?_
  refine lv_iconst hx hb dX7_weigh_4 qI_4 ?_
  obtain ⟨g79, h⟩ := gd_some h
  refine g_ald X hW 1 rfl g79 dX7_weigh_5 ?_
  refine lv_istore_n (lv' := [(1, .int (m_numbers (4 : Int32).toNatClampNeg)), (0, .ref a_mo)]) hx hb dX7_weigh_6 rfl hl (by decide) rfl (fun ls hl => ?_)
  refine lv_iconst hx hb dX7_weigh_7 qI_0 ?_
  refine lv_istore_n (lv' := [(2, .int (0 : Int32)), (1, .int (m_numbers (4 : Int32).toNatClampNeg)), (0, .ref a_mo)]) hx hb dX7_weigh_8 rfl hl (by decide) rfl (fun ls hl => ?_)
  exact tX7_weigh_9 X (m_numbers (4 : Int32).toNatClampNeg) (fun m_best_q83 => fX7_weigh_35 (m_numbers (4 : Int32).toNatClampNeg) m_numbers m_routes m_turns m_leave m_best_q83) (fun m_best_q83 h H locs hW ls hl => by exact tX7_weigh_35 X (m_numbers (4 : Int32).toNatClampNeg) m_best_q83 h H locs hW ls hl) FU (0 : Int32) m_best h H locs hW ls (lv_sub hl [2, 1, 0] rfl)
theorem kcX7_weigh {l : Launch} (G : Gt) (a_mo a_mo_numbers a_mo_routes a_mo_turns a_mo_leave a_mo_best a_mo_boxes a_mo_words a_mo_weeks a_mo_leases a_mo_uses a_mo_arcFrom a_mo_arcTo a_mo_arcRoom a_mo_arcCost a_mo_far a_mo_by a_mo_tape a_mo_kept : Nat)  (m_arcs : Int32) (m_tapeMany : Int32) (m_tokenKind : Int32) (m_tokenAt : Int32) (m_tokenEnd : Int32) (m_tokenValue : Int32) (m_fault : Int32) (m_seen : Int32) (m_isKept : Int32) (m_place : Int32) (m_numbers : (Nat → Int32)) (m_routes : (Nat → Int32)) (m_turns : (Nat → Int32)) (m_leave : (Nat → Int32)) (m_best : (Nat → Int32))  {z_m_best : (Nat → Int32)} (h : fX7_weigh m_numbers m_routes m_turns m_leave m_best = some z_m_best) : CtV G l yX7_weigh wsX7_weigh rmX7_weigh [.ref a_mo] (wX7_weigh G a_mo a_mo_numbers a_mo_routes a_mo_turns a_mo_leave a_mo_best a_mo_boxes a_mo_words a_mo_weeks a_mo_leases a_mo_uses a_mo_arcFrom a_mo_arcTo a_mo_arcRoom a_mo_arcCost a_mo_far a_mo_by a_mo_tape a_mo_kept m_arcs m_tapeMany m_tokenKind m_tokenAt m_tokenEnd m_tokenValue m_fault m_seen m_isKept m_place m_numbers m_routes m_turns m_leave m_best) (wX7_weigh G a_mo a_mo_numbers a_mo_routes a_mo_turns a_mo_leave a_mo_best a_mo_boxes a_mo_words a_mo_weeks a_mo_leases a_mo_uses a_mo_arcFrom a_mo_arcTo a_mo_arcRoom a_mo_arcCost a_mo_far a_mo_by a_mo_tape a_mo_kept m_arcs m_tapeMany m_tokenKind m_tokenAt m_tokenEnd m_tokenValue m_fault m_seen m_isKept m_place m_numbers m_routes m_turns m_leave z_m_best) := k0X7_weigh G a_mo a_mo_numbers a_mo_routes a_mo_turns a_mo_leave a_mo_best a_mo_boxes a_mo_words a_mo_weeks a_mo_leases a_mo_uses a_mo_arcFrom a_mo_arcTo a_mo_arcRoom a_mo_arcCost a_mo_far a_mo_by a_mo_tape a_mo_kept m_arcs m_tapeMany m_tokenKind m_tokenAt m_tokenEnd m_tokenValue m_fault m_seen m_isKept m_place m_numbers m_routes m_turns m_leave m_best h
end MX7_weigh
/-! EmptyBoxesModel.match -/
section MX7_match
theorem hdX7_match : yX7_match.cls = RX7 ∧ yX7_match.cls ≠ "java/lang/invoke/MethodHandle" ∧ yX7_match.cls ≠ "java/lang/invoke/VarHandle" ∧ (parseMethodDescriptor yX7_match.desc).map (fun d => d.parameters.length) = some 1 := by decide +kernel
abbrev wX7_match (G : Gt) (a_mo a_mo_numbers a_mo_routes a_mo_turns a_mo_leave a_mo_best a_mo_boxes a_mo_words a_mo_weeks a_mo_leases a_mo_uses a_mo_arcFrom a_mo_arcTo a_mo_arcRoom a_mo_arcCost a_mo_far a_mo_by a_mo_tape a_mo_kept : Nat) (m_arcs : Int32) (m_tapeMany : Int32) (m_tokenKind : Int32) (m_tokenAt : Int32) (m_tokenEnd : Int32) (m_tokenValue : Int32) (m_fault : Int32) (m_seen : Int32) (m_isKept : Int32) (m_place : Int32) (m_numbers : (Nat → Int32)) (m_routes : (Nat → Int32)) (m_turns : (Nat → Int32)) (m_leave : (Nat → Int32)) (m_best : (Nat → Int32)) : va_W := [(a_mo, .inr (7, [.ref a_mo_numbers, .ref a_mo_boxes, .ref a_mo_words, .ref a_mo_weeks, .ref a_mo_routes, .ref a_mo_turns, .ref a_mo_leave, .ref a_mo_leases, .ref a_mo_uses, .ref a_mo_arcFrom, .ref a_mo_arcTo, .ref a_mo_arcRoom, .ref a_mo_arcCost, .int m_arcs, .ref a_mo_far, .ref a_mo_by, .ref a_mo_best, .ref a_mo_tape, .int m_tapeMany, .int m_tokenKind, .int m_tokenAt, .int m_tokenEnd, .int m_tokenValue, .int m_fault, .int m_seen, .int m_isKept, .ref a_mo_kept, .int m_place])), (a_mo_numbers, .inl (G.2.1, 10, .inl m_numbers)), (a_mo_routes, .inl (G.2.1, 50, .inl m_routes)), (a_mo_turns, .inl (G.2.1, 70, .inl m_turns)), (a_mo_leave, .inl (G.2.1, 16, .inl m_leave)), (a_mo_best, .inl (G.2.1, 1024, .inl m_best))]
abbrev rmX7_match : Room := { frames := 4, cells := 0, slots := 0, locals := 100 }
theorem iX7_match_X7 : ∀ w ∈ wsX70, w ∈ wsX7_match := by decide +kernel
theorem eX7_match_55 : Fk wsX7_match RX7 55 7 16 := ⟨RX7, TX7, 28, rfl, iX7_match_X7, by decide, by decide +kernel⟩
theorem eX7_match_7 : Fk wsX7_match RX7 7 7 0 := ⟨RX7, TX7, 28, rfl, iX7_match_X7, by decide, by decide +kernel⟩
theorem ckX7_match_X7_gapOf_139 : CkV wsX7_match RX7 139 yX7_gapOf wsX7_gapOf cX7_gapOf 4 (some .int) 2 7 := ⟨RX7, TX7, 28, _, rfl, gX7_match_X7_gapOf, rfl, hdX7_gapOf⟩
theorem ckX7_match_X7_goesWith_136 : CkV wsX7_match RX7 136 yX7_goesWith wsX7_goesWith cX7_goesWith 4 (some .int) 3 7 := ⟨RX7, TX7, 28, _, rfl, gX7_match_X7_goesWith, rfl, hdX7_goesWith⟩
theorem ckX7_match_X7_in_64 : CkS wsX7_match RX7 64 yX7_in wsX7_in cX7_in 3 (some .boolean) 3 := ⟨_, gX7_match_X7_in, rfl, hdX7_in.2⟩
theorem ckX7_match_X7_weigh_142 : CkV wsX7_match RX7 142 yX7_weigh wsX7_weigh cX7_weigh 7 none 0 7 := ⟨RX7, TX7, 28, _, rfl, gX7_match_X7_weigh, rfl, hdX7_weigh⟩
variable {p : Program} {l : Launch} {e : Env} {s : State} {m : MethodId} {args : Array Value} {below : List Frame} {meth : Method} {c : Code} {A : Nat → Prop} {G : Gt} {a_mo a_mo_numbers a_mo_routes a_mo_turns a_mo_leave a_mo_best a_mo_boxes a_mo_words a_mo_weeks a_mo_leases a_mo_uses a_mo_arcFrom a_mo_arcTo a_mo_arcRoom a_mo_arcCost a_mo_far a_mo_by a_mo_tape a_mo_kept : Nat} {m_arcs : Int32} {m_tapeMany : Int32} {m_tokenKind : Int32} {m_tokenAt : Int32} {m_tokenEnd : Int32} {m_tokenValue : Int32} {m_fault : Int32} {m_seen : Int32} {m_isKept : Int32} {m_place : Int32} {m_numbers : (Nat → Int32)} {m_routes : (Nat → Int32)} {m_turns : (Nat → Int32)} {m_leave : (Nat → Int32)} {res : Int32 × (Nat → Int32)}
set_option maxHeartbeats 4000000 in
set_option maxRecDepth 100000 in
theorem tX7_match_161 (X : Bx p s m args meth c cX7_match 8 wsX7_match RX7 (some .int)) (v1 : Int32) (v2 : Int32) (v3 : Int32) (m_best : (Nat → Int32))   (h : fX7_match_161 v1 v2 v3 m_best = some res) : ∀ (H : Heap) (locs : List Loc), Wo G A s (wX7_match G a_mo a_mo_numbers a_mo_routes a_mo_turns a_mo_leave a_mo_best a_mo_boxes a_mo_words a_mo_weeks a_mo_leases a_mo_uses a_mo_arcFrom a_mo_arcTo a_mo_arcRoom a_mo_arcCost a_mo_far a_mo_by a_mo_tape a_mo_kept m_arcs m_tapeMany m_tokenKind m_tokenAt m_tokenEnd m_tokenValue m_fault m_seen m_isKept m_place m_numbers m_routes m_turns m_leave m_best) H locs → ∀ ls : Array Slot, lv_has ls 8 [(1, .int v1), (2, .int v2), (3, .int v3)] → W p l e rmX7_match s m args below meth c H locs 0 0 (QI G A below args s res.1 (wX7_match G a_mo a_mo_numbers a_mo_routes a_mo_turns a_mo_leave a_mo_best a_mo_boxes a_mo_words a_mo_weeks a_mo_leases a_mo_uses a_mo_arcFrom a_mo_arcTo a_mo_arcRoom a_mo_arcCost a_mo_far a_mo_by a_mo_tape a_mo_kept m_arcs m_tapeMany m_tokenKind m_tokenAt m_tokenEnd m_tokenValue m_fault m_seen m_isKept m_place m_numbers m_routes m_turns m_leave res.2)) (F0 m 161 ls []) := by
  obtain ⟨hx, hb, -⟩ := id X.1
  intro H locs hW ls hl
  rw [fX7_match_161] at h
  refine lv_iload_n hx hb dX7_match_161 rfl (lv_at hl 0 rfl) ?_
  refine lv_if_ne (tgt := 169) hx hb dX7_match_162 (by decide) (fun c2 => ?_) (fun c2 => ?_)
  · have h := (if_neg c2).symm.trans h
    refine lv_iload_n hx hb dX7_match_169 rfl (lv_at hl 2 rfl) ?_
    obtain rfl := Option.some.inj h
    exact g_iret X hW dX7_match_170
  · have h := (if_pos c2).symm.trans h
    refine lv_iload_n hx hb dX7_match_165 rfl (lv_at hl 1 rfl) ?_
    refine lv_goto (tgt := 170) hx hb dX7_match_166 (by decide) ?_
    obtain rfl := Option.some.inj h
    exact g_iret X hW dX7_match_170
set_option maxHeartbeats 4000000 in
set_option maxRecDepth 100000 in
theorem tX7_match_155 (X : Bx p s m args meth c cX7_match 8 wsX7_match RX7 (some .int)) (v1 : Int32) (v2 : Int32) (v3 : Int32) (v4 : Int32) (v5 : Int32) (m_best : (Nat → Int32)) (k_43 : Int32 → Int32 → Int32 → Int32 → Option (Int32 × (Nat → Int32))) (Hk_43 : ∀ (v2 : Int32) (v3 : Int32) (v4 : Int32) (v5 : Int32), k_43 v2 v3 v4 v5 = some res → ∀ (H : Heap) (locs : List Loc), Wo G A s (wX7_match G a_mo a_mo_numbers a_mo_routes a_mo_turns a_mo_leave a_mo_best a_mo_boxes a_mo_words a_mo_weeks a_mo_leases a_mo_uses a_mo_arcFrom a_mo_arcTo a_mo_arcRoom a_mo_arcCost a_mo_far a_mo_by a_mo_tape a_mo_kept m_arcs m_tapeMany m_tokenKind m_tokenAt m_tokenEnd m_tokenValue m_fault m_seen m_isKept m_place m_numbers m_routes m_turns m_leave m_best) H locs → ∀ ls : Array Slot, lv_has ls 8 [(0, .ref a_mo), (1, .int v1), (2, .int v2), (3, .int v3), (4, .int v4), (5, .int v5)] → W p l e rmX7_match s m args below meth c H locs 0 0 (QI G A below args s res.1 (wX7_match G a_mo a_mo_numbers a_mo_routes a_mo_turns a_mo_leave a_mo_best a_mo_boxes a_mo_words a_mo_weeks a_mo_leases a_mo_uses a_mo_arcFrom a_mo_arcTo a_mo_arcRoom a_mo_arcCost a_mo_far a_mo_by a_mo_tape a_mo_kept m_arcs m_tapeMany m_tokenKind m_tokenAt m_tokenEnd m_tokenValue m_fault m_seen m_isKept m_place m_numbers m_routes m_turns m_leave res.2)) (F0 m 43 ls [])) (h : fX7_match_155 k_43 v2 v3 v4 v5 = some res) : ∀ (H : Heap) (locs : List Loc), Wo G A s (wX7_match G a_mo a_mo_numbers a_mo_routes a_mo_turns a_mo_leave a_mo_best a_mo_boxes a_mo_words a_mo_weeks a_mo_leases a_mo_uses a_mo_arcFrom a_mo_arcTo a_mo_arcRoom a_mo_arcCost a_mo_far a_mo_by a_mo_tape a_mo_kept m_arcs m_tapeMany m_tokenKind m_tokenAt m_tokenEnd m_tokenValue m_fault m_seen m_isKept m_place m_numbers m_routes m_turns m_leave m_best) H locs → ∀ ls : Array Slot, lv_has ls 8 [(0, .ref a_mo), (1, .int v1), (2, .int v2), (3, .int v3), (4, .int v4), (5, .int v5)] → W p l e rmX7_match s m args below meth c H locs 0 0 (QI G A below args s res.1 (wX7_match G a_mo a_mo_numbers a_mo_routes a_mo_turns a_mo_leave a_mo_best a_mo_boxes a_mo_words a_mo_weeks a_mo_leases a_mo_uses a_mo_arcFrom a_mo_arcTo a_mo_arcRoom a_mo_arcCost a_mo_far a_mo_by a_mo_tape a_mo_kept m_arcs m_tapeMany m_tokenKind m_tokenAt m_tokenEnd m_tokenValue m_fault m_seen m_isKept m_place m_numbers m_routes m_turns m_leave res.2)) (F0 m 155 ls []) := by
  obtain ⟨hx, hb, -⟩ := id X.1
  intro H locs hW ls hl
  rw [fX7_match_155] at h
  refine lv_iinc (v := (v5 + (1 : Int32))) (lv' := [(5, .int (v5 + (1 : Int32))), (0, .ref a_mo), (1, .int v1), (2, .int v2), (3, .int v3), (4, .int v4)]) hx hb dX7_match_155 hl (k := 5) rfl (congrArg (fun z => v5 + z) qI_1) (by decide) rfl (fun ls hl => ?_)
  refine lv_goto (tgt := 43) hx hb dX7_match_158 (by decide) ?_
  exact Hk_43 v2 v3 v4 (v5 + (1 : Int32)) h H locs hW ls (lv_sub hl [1, 2, 3, 4, 5, 0] rfl)
set_option maxHeartbeats 4000000 in
set_option maxRecDepth 100000 in
theorem tX7_match_115 (X : Bx p s m args meth c cX7_match 8 wsX7_match RX7 (some .int)) (v1 : Int32) (v2 : Int32) (v3 : Int32) (v4 : Int32) (v5 : Int32) (v6 : Int32) (m_best : (Nat → Int32)) (k_43 : Int32 → Int32 → Int32 → Int32 → Option (Int32 × (Nat → Int32))) (Hk_43 : ∀ (v2 : Int32) (v3 : Int32) (v4 : Int32) (v5 : Int32), k_43 v2 v3 v4 v5 = some res → ∀ (H : Heap) (locs : List Loc), Wo G A s (wX7_match G a_mo a_mo_numbers a_mo_routes a_mo_turns a_mo_leave a_mo_best a_mo_boxes a_mo_words a_mo_weeks a_mo_leases a_mo_uses a_mo_arcFrom a_mo_arcTo a_mo_arcRoom a_mo_arcCost a_mo_far a_mo_by a_mo_tape a_mo_kept m_arcs m_tapeMany m_tokenKind m_tokenAt m_tokenEnd m_tokenValue m_fault m_seen m_isKept m_place m_numbers m_routes m_turns m_leave m_best) H locs → ∀ ls : Array Slot, lv_has ls 8 [(0, .ref a_mo), (1, .int v1), (2, .int v2), (3, .int v3), (4, .int v4), (5, .int v5)] → W p l e rmX7_match s m args below meth c H locs 0 0 (QI G A below args s res.1 (wX7_match G a_mo a_mo_numbers a_mo_routes a_mo_turns a_mo_leave a_mo_best a_mo_boxes a_mo_words a_mo_weeks a_mo_leases a_mo_uses a_mo_arcFrom a_mo_arcTo a_mo_arcRoom a_mo_arcCost a_mo_far a_mo_by a_mo_tape a_mo_kept m_arcs m_tapeMany m_tokenKind m_tokenAt m_tokenEnd m_tokenValue m_fault m_seen m_isKept m_place m_numbers m_routes m_turns m_leave res.2)) (F0 m 43 ls [])) (h : fX7_match_115 k_43 v1 v2 v3 v4 v5 v6 m_turns m_best = some res) : ∀ (H : Heap) (locs : List Loc), Wo G A s (wX7_match G a_mo a_mo_numbers a_mo_routes a_mo_turns a_mo_leave a_mo_best a_mo_boxes a_mo_words a_mo_weeks a_mo_leases a_mo_uses a_mo_arcFrom a_mo_arcTo a_mo_arcRoom a_mo_arcCost a_mo_far a_mo_by a_mo_tape a_mo_kept m_arcs m_tapeMany m_tokenKind m_tokenAt m_tokenEnd m_tokenValue m_fault m_seen m_isKept m_place m_numbers m_routes m_turns m_leave m_best) H locs → ∀ ls : Array Slot, lv_has ls 8 [(0, .ref a_mo), (1, .int v1), (2, .int v2), (3, .int v3), (4, .int v4), (5, .int v5), (6, .int v6)] → W p l e rmX7_match s m args below meth c H locs 0 0 (QI G A below args s res.1 (wX7_match G a_mo a_mo_numbers a_mo_routes a_mo_turns a_mo_leave a_mo_best a_mo_boxes a_mo_words a_mo_weeks a_mo_leases a_mo_uses a_mo_arcFrom a_mo_arcTo a_mo_arcRoom a_mo_arcCost a_mo_far a_mo_by a_mo_tape a_mo_kept m_arcs m_tapeMany m_tokenKind m_tokenAt m_tokenEnd m_tokenValue m_fault m_seen m_isKept m_place m_numbers m_routes m_turns m_leave res.2)) (F0 m 115 ls []) := by
  obtain ⟨hx, hb, -⟩ := id X.1
  intro H locs hW ls hl
  rw [fX7_match_115] at h
  refine lv_iload_n hx hb dX7_match_115 rfl (lv_at hl 1 rfl) ?_
  refine lv_bipush hx hb dX7_match_116 qB_10 ?_
  refine lv_iload hx hb dX7_match_118 (lv_at hl 5 rfl) ?_
  refine lv_iadd hx hb dX7_match_120 ?_
  refine lv_icmp_ne (tgt := 127) hx hb dX7_match_121 (by decide) (fun c14 => ?_) (fun c14 => ?_)
  · have h := (if_neg c14).symm.trans h
    refine lv_iload hx hb dX7_match_127 (lv_at hl 6 rfl) ?_
    refine lv_if_lt (tgt := 155) hx hb dX7_match_129 (by decide) (fun c16 => ?_) (fun c16 => ?_)
    · have h := (if_pos c16).symm.trans h
      exact tX7_match_155 X v1 v2 v3 v4 v5 m_best k_43 Hk_43 h H locs hW ls (lv_sub hl [0, 1, 2, 3, 4, 5] rfl)
    · have h := (if_neg c16).symm.trans h
      refine lv_iinc (v := (v2 + (1 : Int32))) (lv' := [(2, .int (v2 + (1 : Int32))), (0, .ref a_mo), (1, .int v1), (3, .int v3), (4, .int v4), (5, .int v5), (6, .int v6)]) hx hb dX7_match_132 hl (k := 2) rfl (congrArg (fun z => v2 + z) qI_1) (by decide) rfl (fun ls hl => ?_)
      refine lv_iload_n hx hb dX7_match_135 rfl (lv_at hl 3 rfl) ?_
      refine lv_aload_n hx hb dX7_match_136 rfl (lv_at hl 1 rfl) ?_
      refine lv_iload hx hb dX7_match_137 (lv_at hl 5 rfl) ?_
      refine lv_iload hx hb dX7_match_139 (lv_at hl 6 rfl) ?_
      obtain ⟨r22, hq, h⟩ := bn1_some h
      refine g_cvi X hW (As := [.int v5, .int v6]) (ws' := (wX7_match G a_mo a_mo_numbers a_mo_routes a_mo_turns a_mo_leave a_mo_best a_mo_boxes a_mo_words a_mo_weeks a_mo_leases a_mo_uses a_mo_arcFrom a_mo_arcTo a_mo_arcRoom a_mo_arcCost a_mo_far a_mo_by a_mo_tape a_mo_kept m_arcs m_tapeMany m_tokenKind m_tokenAt m_tokenEnd m_tokenValue m_fault m_seen m_isKept m_place m_numbers m_routes m_turns m_leave m_best)) ckX7_match_X7_gapOf_139 (kcX7_gapOf (l := l) G a_mo a_mo_turns a_mo_numbers a_mo_boxes a_mo_words a_mo_weeks a_mo_routes a_mo_leave a_mo_leases a_mo_uses a_mo_arcFrom a_mo_arcTo a_mo_arcRoom a_mo_arcCost a_mo_far a_mo_by a_mo_best a_mo_tape a_mo_kept v5 v6 m_arcs m_tapeMany m_tokenKind m_tokenAt m_tokenEnd m_tokenValue m_fault m_seen m_isKept m_place m_turns hq) ⟨rfl, rfl, Nat.le_of_ble_eq_true rfl, Nat.le_of_ble_eq_true rfl⟩ [0, 3] rfl rfl rfl rfl rfl rfl rfl hl.1 (Nat.le_of_ble_eq_true rfl) ⟨Nat.zero_le _, Nat.zero_le _⟩ dX7_match_141 (fun H locs hW => ?_)
      refine lv_iadd hx hb dX7_match_144 ?_
      refine lv_istore_n (lv' := [(3, .int (v3 + r22)), (2, .int (v2 + (1 : Int32))), (0, .ref a_mo), (1, .int v1), (4, .int v4), (5, .int v5), (6, .int v6)]) hx hb dX7_match_145 rfl hl (by decide) rfl (fun ls hl => ?_)
      refine lv_iload hx hb dX7_match_146 (lv_at hl 4 rfl) ?_
      refine lv_iconst hx hb dX7_match_148 qI_1 ?_
      refine lv_iload hx hb dX7_match_149 (lv_at hl 6 rfl) ?_
      refine g_ishl hx hb dX7_match_151 ?_
      refine lv_ior hx hb dX7_match_152 ?_
      refine lv_istore (lv' := [(4, .int (v4 ||| (ishl (1 : Int32) v6))), (3, .int (v3 + r22)), (2, .int (v2 + (1 : Int32))), (0, .ref a_mo), (1, .int v1), (5, .int v5), (6, .int v6)]) hx hb dX7_match_153 hl (by decide) rfl (fun ls hl => ?_)
      exact tX7_match_155 X v1 (v2 + (1 : Int32)) (v3 + r22) (v4 ||| (ishl (1 : Int32) v6)) v5 m_best k_43 Hk_43 h H locs hW ls (lv_sub hl [3, 4, 2, 1, 0, 5] rfl)
  · have h := (if_pos c14).symm.trans h
    refine lv_iload hx hb dX7_match_124 (lv_at hl 6 rfl) ?_
    obtain rfl := Option.some.inj h
    exact g_iret X hW dX7_match_126
set_option maxHeartbeats 4000000 in
set_option maxRecDepth 100000 in
theorem tX7_match_107 (X : Bx p s m args meth c cX7_match 8 wsX7_match RX7 (some .int)) (v1 : Int32) (v2 : Int32) (v3 : Int32) (v4 : Int32) (v5 : Int32) (v7 : Int32) (t0 : Int32) (m_best : (Nat → Int32)) (k_68 : Int32 → Int32 → Option (Int32 × (Nat → Int32))) (Hk_68 : ∀ (v6 : Int32) (v7 : Int32), k_68 v6 v7 = some res → ∀ (H : Heap) (locs : List Loc), Wo G A s (wX7_match G a_mo a_mo_numbers a_mo_routes a_mo_turns a_mo_leave a_mo_best a_mo_boxes a_mo_words a_mo_weeks a_mo_leases a_mo_uses a_mo_arcFrom a_mo_arcTo a_mo_arcRoom a_mo_arcCost a_mo_far a_mo_by a_mo_tape a_mo_kept m_arcs m_tapeMany m_tokenKind m_tokenAt m_tokenEnd m_tokenValue m_fault m_seen m_isKept m_place m_numbers m_routes m_turns m_leave m_best) H locs → ∀ ls : Array Slot, lv_has ls 8 [(0, .ref a_mo), (1, .int v1), (2, .int v2), (3, .int v3), (4, .int v4), (5, .int v5), (6, .int v6), (7, .int v7)] → W p l e rmX7_match s m args below meth c H locs 0 0 (QI G A below args s res.1 (wX7_match G a_mo a_mo_numbers a_mo_routes a_mo_turns a_mo_leave a_mo_best a_mo_boxes a_mo_words a_mo_weeks a_mo_leases a_mo_uses a_mo_arcFrom a_mo_arcTo a_mo_arcRoom a_mo_arcCost a_mo_far a_mo_by a_mo_tape a_mo_kept m_arcs m_tapeMany m_tokenKind m_tokenAt m_tokenEnd m_tokenValue m_fault m_seen m_isKept m_place m_numbers m_routes m_turns m_leave res.2)) (F0 m 68 ls [])) (h : fX7_match_107 k_68 v7 t0 = some res) : ∀ (H : Heap) (locs : List Loc), Wo G A s (wX7_match G a_mo a_mo_numbers a_mo_routes a_mo_turns a_mo_leave a_mo_best a_mo_boxes a_mo_words a_mo_weeks a_mo_leases a_mo_uses a_mo_arcFrom a_mo_arcTo a_mo_arcRoom a_mo_arcCost a_mo_far a_mo_by a_mo_tape a_mo_kept m_arcs m_tapeMany m_tokenKind m_tokenAt m_tokenEnd m_tokenValue m_fault m_seen m_isKept m_place m_numbers m_routes m_turns m_leave m_best) H locs → ∀ ls : Array Slot, lv_has ls 8 [(0, .ref a_mo), (1, .int v1), (2, .int v2), (3, .int v3), (4, .int v4), (5, .int v5), (7, .int v7)] → W p l e rmX7_match s m args below meth c H locs 0 0 (QI G A below args s res.1 (wX7_match G a_mo a_mo_numbers a_mo_routes a_mo_turns a_mo_leave a_mo_best a_mo_boxes a_mo_words a_mo_weeks a_mo_leases a_mo_uses a_mo_arcFrom a_mo_arcTo a_mo_arcRoom a_mo_arcCost a_mo_far a_mo_by a_mo_tape a_mo_kept m_arcs m_tapeMany m_tokenKind m_tokenAt m_tokenEnd m_tokenValue m_fault m_seen m_isKept m_place m_numbers m_routes m_turns m_leave res.2)) (F0 m 107 ls [.int t0]) := by
  obtain ⟨hx, hb, -⟩ := id X.1
  intro H locs hW ls hl
  rw [fX7_match_107] at h
  refine lv_istore (lv' := [(6, .int t0), (0, .ref a_mo), (1, .int v1), (2, .int v2), (3, .int v3), (4, .int v4), (5, .int v5), (7, .int v7)]) hx hb dX7_match_107 hl (by decide) rfl (fun ls hl => ?_)
  refine lv_iinc (v := (v7 + (-1 : Int32))) (lv' := [(7, .int (v7 + (-1 : Int32))), (6, .int t0), (0, .ref a_mo), (1, .int v1), (2, .int v2), (3, .int v3), (4, .int v4), (5, .int v5)]) hx hb dX7_match_109 hl (k := 7) rfl (congrArg (fun z => v7 + z) qI_m1) (by decide) rfl (fun ls hl => ?_)
  refine lv_goto (tgt := 68) hx hb dX7_match_112 (by decide) ?_
  exact Hk_68 t0 (v7 + (-1 : Int32)) h H locs hW ls (lv_sub hl [2, 3, 4, 5, 6, 7, 1, 0] rfl)
set_option maxHeartbeats 4000000 in
set_option maxRecDepth 100000 in
theorem tX7_match_68 (X : Bx p s m args meth c cX7_match 8 wsX7_match RX7 (some .int)) (v1 : Int32) (v2 : Int32) (v3 : Int32) (v4 : Int32) (v5 : Int32) (m_best : (Nat → Int32)) (k_115 : Int32 → Option (Int32 × (Nat → Int32))) (Hk_115 : ∀ (v6 : Int32), k_115 v6 = some res → ∀ (H : Heap) (locs : List Loc), Wo G A s (wX7_match G a_mo a_mo_numbers a_mo_routes a_mo_turns a_mo_leave a_mo_best a_mo_boxes a_mo_words a_mo_weeks a_mo_leases a_mo_uses a_mo_arcFrom a_mo_arcTo a_mo_arcRoom a_mo_arcCost a_mo_far a_mo_by a_mo_tape a_mo_kept m_arcs m_tapeMany m_tokenKind m_tokenAt m_tokenEnd m_tokenValue m_fault m_seen m_isKept m_place m_numbers m_routes m_turns m_leave m_best) H locs → ∀ ls : Array Slot, lv_has ls 8 [(0, .ref a_mo), (1, .int v1), (2, .int v2), (3, .int v3), (4, .int v4), (5, .int v5), (6, .int v6)] → W p l e rmX7_match s m args below meth c H locs 0 0 (QI G A below args s res.1 (wX7_match G a_mo a_mo_numbers a_mo_routes a_mo_turns a_mo_leave a_mo_best a_mo_boxes a_mo_words a_mo_weeks a_mo_leases a_mo_uses a_mo_arcFrom a_mo_arcTo a_mo_arcRoom a_mo_arcCost a_mo_far a_mo_by a_mo_tape a_mo_kept m_arcs m_tapeMany m_tokenKind m_tokenAt m_tokenEnd m_tokenValue m_fault m_seen m_isKept m_place m_numbers m_routes m_turns m_leave res.2)) (F0 m 115 ls [])) : ∀ (n : Nat) (v6 : Int32) (v7 : Int32), fX7_match_68 v4 v5 m_numbers m_routes m_turns m_leave m_best k_115 n v6 v7 = some res → ∀ (H : Heap) (locs : List Loc), Wo G A s (wX7_match G a_mo a_mo_numbers a_mo_routes a_mo_turns a_mo_leave a_mo_best a_mo_boxes a_mo_words a_mo_weeks a_mo_leases a_mo_uses a_mo_arcFrom a_mo_arcTo a_mo_arcRoom a_mo_arcCost a_mo_far a_mo_by a_mo_tape a_mo_kept m_arcs m_tapeMany m_tokenKind m_tokenAt m_tokenEnd m_tokenValue m_fault m_seen m_isKept m_place m_numbers m_routes m_turns m_leave m_best) H locs → ∀ ls : Array Slot, lv_has ls 8 [(0, .ref a_mo), (1, .int v1), (2, .int v2), (3, .int v3), (4, .int v4), (5, .int v5), (6, .int v6), (7, .int v7)] → W p l e rmX7_match s m args below meth c H locs 0 0 (QI G A below args s res.1 (wX7_match G a_mo a_mo_numbers a_mo_routes a_mo_turns a_mo_leave a_mo_best a_mo_boxes a_mo_words a_mo_weeks a_mo_leases a_mo_uses a_mo_arcFrom a_mo_arcTo a_mo_arcRoom a_mo_arcCost a_mo_far a_mo_by a_mo_tape a_mo_kept m_arcs m_tapeMany m_tokenKind m_tokenAt m_tokenEnd m_tokenValue m_fault m_seen m_isKept m_place m_numbers m_routes m_turns m_leave res.2)) (F0 m 68 ls []) := by
  obtain ⟨hx, hb, -⟩ := id X.1
  intro n
  induction n with
  | zero => intro v6 v7 h; rw [fX7_match_68] at h; cases h
  | succ n ih =>
    intro v6 v7 h H locs hW ls hl
    rw [fX7_match_68] at h
    refine lv_iload hx hb dX7_match_68 (lv_at hl 7 rfl) ?_
    refine lv_if_lt (tgt := 115) hx hb dX7_match_70 (by decide) (fun c37 => ?_) (fun c37 => ?_)
    · have h := (if_pos c37).symm.trans h
      exact Hk_115 v6 h H locs hW ls (lv_sub hl [0, 1, 2, 3, 4, 5, 6] rfl)
    · have h := (if_neg c37).symm.trans h
      refine lv_aload_n hx hb dX7_match_73 rfl (lv_at hl 0 rfl) ?_
      refine lv_iload hx hb dX7_match_74 (lv_at hl 5 rfl) ?_
      refine lv_iload hx hb dX7_match_76 (lv_at hl 7 rfl) ?_
      refine lv_iload hx hb dX7_match_78 (lv_at hl 4 rfl) ?_
      obtain ⟨r42, hq, h⟩ := bn1_some h
      refine g_cvi X hW (As := [.int v5, .int v7, .int v4]) (ws' := (wX7_match G a_mo a_mo_numbers a_mo_routes a_mo_turns a_mo_leave a_mo_best a_mo_boxes a_mo_words a_mo_weeks a_mo_leases a_mo_uses a_mo_arcFrom a_mo_arcTo a_mo_arcRoom a_mo_arcCost a_mo_far a_mo_by a_mo_tape a_mo_kept m_arcs m_tapeMany m_tokenKind m_tokenAt m_tokenEnd m_tokenValue m_fault m_seen m_isKept m_place m_numbers m_routes m_turns m_leave m_best)) ckX7_match_X7_goesWith_136 (kcX7_goesWith (l := l) G a_mo a_mo_numbers a_mo_routes a_mo_turns a_mo_leave a_mo_best a_mo_boxes a_mo_words a_mo_weeks a_mo_leases a_mo_uses a_mo_arcFrom a_mo_arcTo a_mo_arcRoom a_mo_arcCost a_mo_far a_mo_by a_mo_tape a_mo_kept v5 v7 v4 m_arcs m_tapeMany m_tokenKind m_tokenAt m_tokenEnd m_tokenValue m_fault m_seen m_isKept m_place m_numbers m_routes m_turns m_leave m_best hq) ⟨rfl, rfl, Nat.le_of_ble_eq_true rfl, Nat.le_of_ble_eq_true rfl⟩ [0, 1, 2, 3, 4, 5] rfl rfl rfl rfl rfl rfl rfl hl.1 (Nat.le_of_ble_eq_true rfl) ⟨Nat.zero_le _, Nat.zero_le _⟩ dX7_match_80 (fun H locs hW => ?_)
      refine lv_aload_n hx hb dX7_match_83 rfl (lv_at hl 0 rfl) ?_
      refine g_get X hW eX7_match_55 0 rfl rfl dX7_match_84 ?_
      refine lv_sipush hx hb dX7_match_87 qS_128 ?_
      refine lv_iload hx hb dX7_match_90 (lv_at hl 5 rfl) ?_
      refine lv_imul hx hb dX7_match_92 ?_
      refine lv_iload hx hb dX7_match_93 (lv_at hl 4 rfl) ?_
      refine lv_iadd hx hb dX7_match_95 ?_
      obtain ⟨g50, h⟩ := gd_some h
      refine g_ald X hW 5 rfl g50 dX7_match_96 ?_
      refine lv_icmp_ne (tgt := 105) hx hb dX7_match_97 (by decide) (fun c51 => ?_) (fun c51 => ?_)
      · have h := (if_neg c51).symm.trans h
        refine lv_iload hx hb dX7_match_105 (lv_at hl 6 rfl) ?_
        exact tX7_match_107 X v1 v2 v3 v4 v5 v7 v6 m_best (fun v6 v7 => fX7_match_68 v4 v5 m_numbers m_routes m_turns m_leave m_best k_115 n v6 v7) ih h H locs hW ls (lv_sub hl [0, 1, 2, 3, 4, 5, 7] rfl)
      · have h := (if_pos c51).symm.trans h
        refine lv_iload hx hb dX7_match_100 (lv_at hl 7 rfl) ?_
        refine lv_goto (tgt := 107) hx hb dX7_match_102 (by decide) ?_
        exact tX7_match_107 X v1 v2 v3 v4 v5 v7 v7 m_best (fun v6 v7 => fX7_match_68 v4 v5 m_numbers m_routes m_turns m_leave m_best k_115 n v6 v7) ih h H locs hW ls (lv_sub hl [0, 1, 2, 3, 4, 5, 7] rfl)
set_option maxHeartbeats 4000000 in
set_option maxRecDepth 100000 in
theorem tX7_match_43 (X : Bx p s m args meth c cX7_match 8 wsX7_match RX7 (some .int)) (v1 : Int32) (m_best : (Nat → Int32)) (k_161 : Int32 → Int32 → Option (Int32 × (Nat → Int32))) (Hk_161 : ∀ (v2 : Int32) (v3 : Int32), k_161 v2 v3 = some res → ∀ (H : Heap) (locs : List Loc), Wo G A s (wX7_match G a_mo a_mo_numbers a_mo_routes a_mo_turns a_mo_leave a_mo_best a_mo_boxes a_mo_words a_mo_weeks a_mo_leases a_mo_uses a_mo_arcFrom a_mo_arcTo a_mo_arcRoom a_mo_arcCost a_mo_far a_mo_by a_mo_tape a_mo_kept m_arcs m_tapeMany m_tokenKind m_tokenAt m_tokenEnd m_tokenValue m_fault m_seen m_isKept m_place m_numbers m_routes m_turns m_leave m_best) H locs → ∀ ls : Array Slot, lv_has ls 8 [(1, .int v1), (2, .int v2), (3, .int v3)] → W p l e rmX7_match s m args below meth c H locs 0 0 (QI G A below args s res.1 (wX7_match G a_mo a_mo_numbers a_mo_routes a_mo_turns a_mo_leave a_mo_best a_mo_boxes a_mo_words a_mo_weeks a_mo_leases a_mo_uses a_mo_arcFrom a_mo_arcTo a_mo_arcRoom a_mo_arcCost a_mo_far a_mo_by a_mo_tape a_mo_kept m_arcs m_tapeMany m_tokenKind m_tokenAt m_tokenEnd m_tokenValue m_fault m_seen m_isKept m_place m_numbers m_routes m_turns m_leave res.2)) (F0 m 161 ls [])) : ∀ (n : Nat) (v2 : Int32) (v3 : Int32) (v4 : Int32) (v5 : Int32), fX7_match_43 v1 m_numbers m_routes m_turns m_leave m_best k_161 n v2 v3 v4 v5 = some res → ∀ (H : Heap) (locs : List Loc), Wo G A s (wX7_match G a_mo a_mo_numbers a_mo_routes a_mo_turns a_mo_leave a_mo_best a_mo_boxes a_mo_words a_mo_weeks a_mo_leases a_mo_uses a_mo_arcFrom a_mo_arcTo a_mo_arcRoom a_mo_arcCost a_mo_far a_mo_by a_mo_tape a_mo_kept m_arcs m_tapeMany m_tokenKind m_tokenAt m_tokenEnd m_tokenValue m_fault m_seen m_isKept m_place m_numbers m_routes m_turns m_leave m_best) H locs → ∀ ls : Array Slot, lv_has ls 8 [(0, .ref a_mo), (1, .int v1), (2, .int v2), (3, .int v3), (4, .int v4), (5, .int v5)] → W p l e rmX7_match s m args below meth c H locs 0 0 (QI G A below args s res.1 (wX7_match G a_mo a_mo_numbers a_mo_routes a_mo_turns a_mo_leave a_mo_best a_mo_boxes a_mo_words a_mo_weeks a_mo_leases a_mo_uses a_mo_arcFrom a_mo_arcTo a_mo_arcRoom a_mo_arcCost a_mo_far a_mo_by a_mo_tape a_mo_kept m_arcs m_tapeMany m_tokenKind m_tokenAt m_tokenEnd m_tokenValue m_fault m_seen m_isKept m_place m_numbers m_routes m_turns m_leave res.2)) (F0 m 43 ls []) := by
  obtain ⟨hx, hb, -⟩ := id X.1
  intro n
  induction n with
  | zero => intro v2 v3 v4 v5 h; rw [fX7_match_43] at h; cases h
  | succ n ih =>
    intro v2 v3 v4 v5 h H locs hW ls hl
    rw [fX7_match_43] at h
    refine lv_iload hx hb dX7_match_43 (lv_at hl 5 rfl) ?_
    refine lv_aload_n hx hb dX7_match_45 rfl (lv_at hl 0 rfl) ?_
    refine g_get X hW eX7_match_7 0 rfl rfl dX7_match_46 ?_
    refine lv_iconst hx hb dX7_match_49 qI_4 ?_
    obtain ⟨g59, h⟩ := gd_some h
    refine g_ald X hW 1 rfl g59 dX7_match_50 ?_
    refine lv_icmp_ge (tgt := 161) hx hb dX7_match_51 (by decide) (fun c60 => ?_) (fun c60 => ?_)
    · have h := (if_pos c60).symm.trans h
      exact Hk_161 v2 v3 h H locs hW ls (lv_sub hl [1, 2, 3] rfl)
    · have h := (if_neg c60).symm.trans h
      refine lv_bipush hx hb dX7_match_54 qB_m3 ?_
      refine lv_istore (lv' := [(6, .int (-3 : Int32)), (0, .ref a_mo), (1, .int v1), (2, .int v2), (3, .int v3), (4, .int v4), (5, .int v5)]) hx hb dX7_match_56 hl (by decide) rfl (fun ls hl => ?_)
      refine lv_aload_n hx hb dX7_match_58 rfl (lv_at hl 1 rfl) ?_
      refine g_get X hW eX7_match_7 0 rfl rfl dX7_match_59 ?_
      refine lv_iconst hx hb dX7_match_62 qI_5 ?_
      obtain ⟨g66, h⟩ := gd_some h
      refine g_ald X hW 1 rfl g66 dX7_match_63 ?_
      refine lv_iconst hx hb dX7_match_64 qI_1 ?_
      refine lv_isub hx hb dX7_match_65 ?_
      refine lv_istore (lv' := [(7, .int ((m_numbers (5 : Int32).toNatClampNeg) - (1 : Int32))), (6, .int (-3 : Int32)), (0, .ref a_mo), (1, .int v1), (2, .int v2), (3, .int v3), (4, .int v4), (5, .int v5)]) hx hb dX7_match_66 hl (by decide) rfl (fun ls hl => ?_)
      exact tX7_match_68 X v1 v2 v3 v4 v5 m_best (fun v6_q70 => fX7_match_115 (fun v2 v3 v4 v5 => fX7_match_43 v1 m_numbers m_routes m_turns m_leave m_best k_161 n v2 v3 v4 v5) v1 v2 v3 v4 v5 v6_q70 m_turns m_best) (fun v6_q70 h H locs hW ls hl => by exact tX7_match_115 X v1 v2 v3 v4 v5 v6_q70 m_best (fun v2 v3 v4 v5 => fX7_match_43 v1 m_numbers m_routes m_turns m_leave m_best k_161 n v2 v3 v4 v5) ih h H locs hW ls hl) FU (-3 : Int32) ((m_numbers (5 : Int32).toNatClampNeg) - (1 : Int32)) h H locs hW ls (lv_sub hl [2, 3, 4, 5, 6, 7, 1, 0] rfl)
set_option maxHeartbeats 4000000 in
set_option maxRecDepth 100000 in
theorem tX7_match_29 (X : Bx p s m args meth c cX7_match 8 wsX7_match RX7 (some .int)) (v1 : Int32) (m_best : (Nat → Int32))   (h : fX7_match_29 v1 m_numbers m_routes m_turns m_leave m_best = some res) : ∀ (H : Heap) (locs : List Loc), Wo G A s (wX7_match G a_mo a_mo_numbers a_mo_routes a_mo_turns a_mo_leave a_mo_best a_mo_boxes a_mo_words a_mo_weeks a_mo_leases a_mo_uses a_mo_arcFrom a_mo_arcTo a_mo_arcRoom a_mo_arcCost a_mo_far a_mo_by a_mo_tape a_mo_kept m_arcs m_tapeMany m_tokenKind m_tokenAt m_tokenEnd m_tokenValue m_fault m_seen m_isKept m_place m_numbers m_routes m_turns m_leave m_best) H locs → ∀ ls : Array Slot, lv_has ls 8 [(0, .ref a_mo), (1, .int v1)] → W p l e rmX7_match s m args below meth c H locs 0 0 (QI G A below args s res.1 (wX7_match G a_mo a_mo_numbers a_mo_routes a_mo_turns a_mo_leave a_mo_best a_mo_boxes a_mo_words a_mo_weeks a_mo_leases a_mo_uses a_mo_arcFrom a_mo_arcTo a_mo_arcRoom a_mo_arcCost a_mo_far a_mo_by a_mo_tape a_mo_kept m_arcs m_tapeMany m_tokenKind m_tokenAt m_tokenEnd m_tokenValue m_fault m_seen m_isKept m_place m_numbers m_routes m_turns m_leave res.2)) (F0 m 29 ls []) := by
  obtain ⟨hx, hb, -⟩ := id X.1
  intro H locs hW ls hl
  rw [fX7_match_29] at h
  refine lv_aload_n hx hb dX7_match_29 rfl (lv_at hl 0 rfl) ?_
  obtain ⟨o72_m_best, hq, h⟩ := bn1_some h
  refine g_cvv X hW (As := []) (ws' := (wX7_match G a_mo a_mo_numbers a_mo_routes a_mo_turns a_mo_leave a_mo_best a_mo_boxes a_mo_words a_mo_weeks a_mo_leases a_mo_uses a_mo_arcFrom a_mo_arcTo a_mo_arcRoom a_mo_arcCost a_mo_far a_mo_by a_mo_tape a_mo_kept m_arcs m_tapeMany m_tokenKind m_tokenAt m_tokenEnd m_tokenValue m_fault m_seen m_isKept m_place m_numbers m_routes m_turns m_leave o72_m_best)) ckX7_match_X7_weigh_142 (kcX7_weigh (l := l) G a_mo a_mo_numbers a_mo_routes a_mo_turns a_mo_leave a_mo_best a_mo_boxes a_mo_words a_mo_weeks a_mo_leases a_mo_uses a_mo_arcFrom a_mo_arcTo a_mo_arcRoom a_mo_arcCost a_mo_far a_mo_by a_mo_tape a_mo_kept m_arcs m_tapeMany m_tokenKind m_tokenAt m_tokenEnd m_tokenValue m_fault m_seen m_isKept m_place m_numbers m_routes m_turns m_leave m_best hq) ⟨rfl, rfl, Nat.le_of_ble_eq_true rfl, Nat.le_of_ble_eq_true rfl⟩ [0, 1, 2, 3, 4, 5] rfl rfl rfl rfl rfl rfl rfl hl.1 (Nat.le_of_ble_eq_true rfl) ⟨Nat.zero_le _, Nat.zero_le _⟩ dX7_match_30 (fun H locs hW => ?_)
  refine lv_iconst hx hb dX7_match_33 qI_0 ?_
  refine lv_istore_n (lv' := [(2, .int (0 : Int32)), (0, .ref a_mo), (1, .int v1)]) hx hb dX7_match_34 rfl hl (by decide) rfl (fun ls hl => ?_)
  refine lv_iconst hx hb dX7_match_35 qI_0 ?_
  refine lv_istore_n (lv' := [(3, .int (0 : Int32)), (2, .int (0 : Int32)), (0, .ref a_mo), (1, .int v1)]) hx hb dX7_match_36 rfl hl (by decide) rfl (fun ls hl => ?_)
  refine lv_iconst hx hb dX7_match_37 qI_0 ?_
  refine lv_istore (lv' := [(4, .int (0 : Int32)), (3, .int (0 : Int32)), (2, .int (0 : Int32)), (0, .ref a_mo), (1, .int v1)]) hx hb dX7_match_38 hl (by decide) rfl (fun ls hl => ?_)
  refine lv_iconst hx hb dX7_match_40 qI_0 ?_
  refine lv_istore (lv' := [(5, .int (0 : Int32)), (4, .int (0 : Int32)), (3, .int (0 : Int32)), (2, .int (0 : Int32)), (0, .ref a_mo), (1, .int v1)]) hx hb dX7_match_41 hl (by decide) rfl (fun ls hl => ?_)
  exact tX7_match_43 X v1 o72_m_best (fun v2_q81 v3_q81 => fX7_match_161 v1 v2_q81 v3_q81 o72_m_best) (fun v2_q81 v3_q81 h H locs hW ls hl => by exact tX7_match_161 X v1 v2_q81 v3_q81 o72_m_best h H locs hW ls hl) FU (0 : Int32) (0 : Int32) (0 : Int32) (0 : Int32) h H locs hW ls (lv_sub hl [4, 5, 3, 2, 1, 0] rfl)
set_option maxHeartbeats 4000000 in
set_option maxRecDepth 100000 in
theorem k0X7_match {l : Launch} (G : Gt) (a_mo a_mo_numbers a_mo_routes a_mo_turns a_mo_leave a_mo_best a_mo_boxes a_mo_words a_mo_weeks a_mo_leases a_mo_uses a_mo_arcFrom a_mo_arcTo a_mo_arcRoom a_mo_arcCost a_mo_far a_mo_by a_mo_tape a_mo_kept : Nat) (v1 : Int32) (m_arcs : Int32) (m_tapeMany : Int32) (m_tokenKind : Int32) (m_tokenAt : Int32) (m_tokenEnd : Int32) (m_tokenValue : Int32) (m_fault : Int32) (m_seen : Int32) (m_isKept : Int32) (m_place : Int32) (m_numbers : (Nat → Int32)) (m_routes : (Nat → Int32)) (m_turns : (Nat → Int32)) (m_leave : (Nat → Int32)) (m_best : (Nat → Int32)) {res : Int32 × (Nat → Int32)} (h : fX7_match v1 m_numbers m_routes m_turns m_leave m_best = some res) : CtI G l yX7_match wsX7_match rmX7_match [.ref a_mo, .int v1] (wX7_match G a_mo a_mo_numbers a_mo_routes a_mo_turns a_mo_leave a_mo_best a_mo_boxes a_mo_words a_mo_weeks a_mo_leases a_mo_uses a_mo_arcFrom a_mo_arcTo a_mo_arcRoom a_mo_arcCost a_mo_far a_mo_by a_mo_tape a_mo_kept m_arcs m_tapeMany m_tokenKind m_tokenAt m_tokenEnd m_tokenValue m_fault m_seen m_isKept m_place m_numbers m_routes m_turns m_leave m_best) res.1 (wX7_match G a_mo a_mo_numbers a_mo_routes a_mo_turns a_mo_leave a_mo_best a_mo_boxes a_mo_words a_mo_weeks a_mo_leases a_mo_uses a_mo_arcFrom a_mo_arcTo a_mo_arcRoom a_mo_arcCost a_mo_far a_mo_by a_mo_tape a_mo_kept m_arcs m_tapeMany m_tokenKind m_tokenAt m_tokenEnd m_tokenValue m_fault m_seen m_isKept m_place m_numbers m_routes m_turns m_leave res.2) := by
  refine CtI.mk (cc := cX7_match) (maxL := 8) (ret := (some .int)) (own := RX7) (by decide) rfl rfl (Nat.le_of_ble_eq_true rfl) ?_
  intro p e s m below meth c A X ls hl hW
  obtain ⟨hx, hb, -⟩ := id X.1
  have hl : lv_has ls 8 [(0, .ref a_mo), (1, .int v1)] := hl
  generalize hH : s.heap = H at hW ⊢
  generalize hLo : ([] : List Loc) = locs at hW ⊢
  rw [fX7_match] at h
  refine lv_iload_n hx hb dX7_match_0 rfl (lv_at hl 1 rfl) ?_
  refine lv_iconst hx hb dX7_match_1 qI_0 ?_
  refine lv_iconst hx hb dX7_match_2 qI_1 ?_
  obtain ⟨r85, hq, h⟩ := bn1_some h
  refine g_csi X hW (As := [.int v1, .int (0 : Int32), .int (1 : Int32)]) (ws' := (wX7_match G a_mo a_mo_numbers a_mo_routes a_mo_turns a_mo_leave a_mo_best a_mo_boxes a_mo_words a_mo_weeks a_mo_leases a_mo_uses a_mo_arcFrom a_mo_arcTo a_mo_arcRoom a_mo_arcCost a_mo_far a_mo_by a_mo_tape a_mo_kept m_arcs m_tapeMany m_tokenKind m_tokenAt m_tokenEnd m_tokenValue m_fault m_seen m_isKept m_place m_numbers m_routes m_turns m_leave m_best)) ckX7_match_X7_in_64 (kcX7_in (l := l) G v1 (0 : Int32) (1 : Int32) hq) ⟨rfl, rfl, Nat.le_of_ble_eq_true rfl, Nat.le_of_ble_eq_true rfl⟩ [] rfl rfl rfl rfl rfl rfl hl.1 (Nat.le_of_ble_eq_true rfl) ⟨Nat.zero_le _, Nat.zero_le _⟩ dX7_match_3 (fun H locs hW => ?_)
  refine lv_if_ne (tgt := 29) hx hb dX7_match_6 (by decide) (fun c86 => ?_) (fun c86 => ?_)
  · have h := (if_neg c86).symm.trans h
    exact tX7_match_29 X v1 m_best h H locs hW ls hl
  · have h := (if_pos c86).symm.trans h
    refine lv_iload_n hx hb dX7_match_9 rfl (lv_at hl 1 rfl) ?_
    refine lv_bipush hx hb dX7_match_10 qB_10 ?_
    refine lv_bipush hx hb dX7_match_12 qB_9 ?_
    refine lv_aload_n hx hb dX7_match_14 rfl (lv_at hl 0 rfl) ?_
    refine g_get X hW eX7_match_7 0 rfl rfl dX7_match_15 ?_
    refine lv_iconst hx hb dX7_match_18 qI_4 ?_
    obtain ⟨g93, h⟩ := gd_some h
    refine g_ald X hW 1 rfl g93 dX7_match_19 ?_
    refine lv_iadd hx hb dX7_match_20 ?_
    obtain ⟨r95, hq, h⟩ := bn1_some h
    refine g_csi X hW (As := [.int v1, .int (10 : Int32), .int ((9 : Int32) + (m_numbers (4 : Int32).toNatClampNeg))]) (ws' := (wX7_match G a_mo a_mo_numbers a_mo_routes a_mo_turns a_mo_leave a_mo_best a_mo_boxes a_mo_words a_mo_weeks a_mo_leases a_mo_uses a_mo_arcFrom a_mo_arcTo a_mo_arcRoom a_mo_arcCost a_mo_far a_mo_by a_mo_tape a_mo_kept m_arcs m_tapeMany m_tokenKind m_tokenAt m_tokenEnd m_tokenValue m_fault m_seen m_isKept m_place m_numbers m_routes m_turns m_leave m_best)) ckX7_match_X7_in_64 (kcX7_in (l := l) G v1 (10 : Int32) ((9 : Int32) + (m_numbers (4 : Int32).toNatClampNeg)) hq) ⟨rfl, rfl, Nat.le_of_ble_eq_true rfl, Nat.le_of_ble_eq_true rfl⟩ [] rfl rfl rfl rfl rfl rfl hl.1 (Nat.le_of_ble_eq_true rfl) ⟨Nat.zero_le _, Nat.zero_le _⟩ dX7_match_21 (fun H locs hW => ?_)
    refine lv_if_ne (tgt := 29) hx hb dX7_match_24 (by decide) (fun c96 => ?_) (fun c96 => ?_)
    · have h := (if_neg c96).symm.trans h
      exact tX7_match_29 X v1 m_best h H locs hW ls hl
    · have h := (if_pos c96).symm.trans h
      refine lv_iconst hx hb dX7_match_27 qI_m1 ?_
      obtain rfl := Option.some.inj h
      exact g_iret X hW dX7_match_28
theorem kcX7_match {l : Launch} (G : Gt) (a_mo a_mo_numbers a_mo_routes a_mo_turns a_mo_leave a_mo_best a_mo_boxes a_mo_words a_mo_weeks a_mo_leases a_mo_uses a_mo_arcFrom a_mo_arcTo a_mo_arcRoom a_mo_arcCost a_mo_far a_mo_by a_mo_tape a_mo_kept : Nat) (v1 : Int32) (m_arcs : Int32) (m_tapeMany : Int32) (m_tokenKind : Int32) (m_tokenAt : Int32) (m_tokenEnd : Int32) (m_tokenValue : Int32) (m_fault : Int32) (m_seen : Int32) (m_isKept : Int32) (m_place : Int32) (m_numbers : (Nat → Int32)) (m_routes : (Nat → Int32)) (m_turns : (Nat → Int32)) (m_leave : (Nat → Int32)) (m_best : (Nat → Int32)) {r : Int32} {z_m_best : (Nat → Int32)} (h : fX7_match v1 m_numbers m_routes m_turns m_leave m_best = some (r, z_m_best)) : CtI G l yX7_match wsX7_match rmX7_match [.ref a_mo, .int v1] (wX7_match G a_mo a_mo_numbers a_mo_routes a_mo_turns a_mo_leave a_mo_best a_mo_boxes a_mo_words a_mo_weeks a_mo_leases a_mo_uses a_mo_arcFrom a_mo_arcTo a_mo_arcRoom a_mo_arcCost a_mo_far a_mo_by a_mo_tape a_mo_kept m_arcs m_tapeMany m_tokenKind m_tokenAt m_tokenEnd m_tokenValue m_fault m_seen m_isKept m_place m_numbers m_routes m_turns m_leave m_best) r (wX7_match G a_mo a_mo_numbers a_mo_routes a_mo_turns a_mo_leave a_mo_best a_mo_boxes a_mo_words a_mo_weeks a_mo_leases a_mo_uses a_mo_arcFrom a_mo_arcTo a_mo_arcRoom a_mo_arcCost a_mo_far a_mo_by a_mo_tape a_mo_kept m_arcs m_tapeMany m_tokenKind m_tokenAt m_tokenEnd m_tokenValue m_fault m_seen m_isKept m_place m_numbers m_routes m_turns m_leave z_m_best) := k0X7_match G a_mo a_mo_numbers a_mo_routes a_mo_turns a_mo_leave a_mo_best a_mo_boxes a_mo_words a_mo_weeks a_mo_leases a_mo_uses a_mo_arcFrom a_mo_arcTo a_mo_arcRoom a_mo_arcCost a_mo_far a_mo_by a_mo_tape a_mo_kept v1 m_arcs m_tapeMany m_tokenKind m_tokenAt m_tokenEnd m_tokenValue m_fault m_seen m_isKept m_place m_numbers m_routes m_turns m_leave m_best h
end MX7_match
/-! EmptyBoxesModel.clear -/
section MX7_clear
theorem hdX7_clear : yX7_clear.cls = RX7 ∧ yX7_clear.cls ≠ "java/lang/invoke/MethodHandle" ∧ yX7_clear.cls ≠ "java/lang/invoke/VarHandle" ∧ (parseMethodDescriptor yX7_clear.desc).map (fun d => d.parameters.length) = some 0 := by decide +kernel
abbrev wX7_clear (G : Gt) (a_mo a_mo_numbers a_mo_boxes a_mo_words a_mo_weeks a_mo_routes a_mo_turns a_mo_leave a_mo_leases a_mo_uses a_mo_arcFrom a_mo_arcTo a_mo_arcRoom a_mo_arcCost a_mo_far a_mo_by a_mo_best a_mo_tape a_mo_kept : Nat) (m_arcs : Int32) (m_tapeMany : Int32) (m_tokenKind : Int32) (m_tokenAt : Int32) (m_tokenEnd : Int32) (m_tokenValue : Int32) (m_fault : Int32) (m_seen : Int32) (m_isKept : Int32) (m_place : Int32) (m_numbers : (Nat → Int32)) : va_W := [(a_mo, .inr (7, [.ref a_mo_numbers, .ref a_mo_boxes, .ref a_mo_words, .ref a_mo_weeks, .ref a_mo_routes, .ref a_mo_turns, .ref a_mo_leave, .ref a_mo_leases, .ref a_mo_uses, .ref a_mo_arcFrom, .ref a_mo_arcTo, .ref a_mo_arcRoom, .ref a_mo_arcCost, .int m_arcs, .ref a_mo_far, .ref a_mo_by, .ref a_mo_best, .ref a_mo_tape, .int m_tapeMany, .int m_tokenKind, .int m_tokenAt, .int m_tokenEnd, .int m_tokenValue, .int m_fault, .int m_seen, .int m_isKept, .ref a_mo_kept, .int m_place])), (a_mo_numbers, .inl (G.2.1, 10, .inl m_numbers))]
abbrev rmX7_clear : Room := { frames := 0, cells := 0, slots := 0, locals := 0 }
theorem iX7_clear_X7 : ∀ w ∈ wsX70, w ∈ wsX7_clear := by decide +kernel
theorem eX7_clear_7 : Fk wsX7_clear RX7 7 7 0 := ⟨RX7, TX7, 28, rfl, iX7_clear_X7, by decide, by decide +kernel⟩
variable {p : Program} {l : Launch} {e : Env} {s : State} {m : MethodId} {args : Array Value} {below : List Frame} {meth : Method} {c : Code} {A : Nat → Prop} {G : Gt} {a_mo a_mo_numbers a_mo_boxes a_mo_words a_mo_weeks a_mo_routes a_mo_turns a_mo_leave a_mo_leases a_mo_uses a_mo_arcFrom a_mo_arcTo a_mo_arcRoom a_mo_arcCost a_mo_far a_mo_by a_mo_best a_mo_tape a_mo_kept : Nat} {m_arcs : Int32} {m_tapeMany : Int32} {m_tokenKind : Int32} {m_tokenAt : Int32} {m_tokenEnd : Int32} {m_tokenValue : Int32} {m_fault : Int32} {m_seen : Int32} {m_isKept : Int32} {m_place : Int32} {res : Int32 × (Nat → Int32)}
set_option maxHeartbeats 4000000 in
set_option maxRecDepth 100000 in
theorem k0X7_clear {l : Launch} (G : Gt) (a_mo a_mo_numbers a_mo_boxes a_mo_words a_mo_weeks a_mo_routes a_mo_turns a_mo_leave a_mo_leases a_mo_uses a_mo_arcFrom a_mo_arcTo a_mo_arcRoom a_mo_arcCost a_mo_far a_mo_by a_mo_best a_mo_tape a_mo_kept : Nat)  (m_arcs : Int32) (m_tapeMany : Int32) (m_tokenKind : Int32) (m_tokenAt : Int32) (m_tokenEnd : Int32) (m_tokenValue : Int32) (m_fault : Int32) (m_seen : Int32) (m_isKept : Int32) (m_place : Int32) (m_numbers : (Nat → Int32)) {res : Int32 × (Nat → Int32)} (h : fX7_clear m_numbers = some res) : CtI G l yX7_clear wsX7_clear rmX7_clear [.ref a_mo] (wX7_clear G a_mo a_mo_numbers a_mo_boxes a_mo_words a_mo_weeks a_mo_routes a_mo_turns a_mo_leave a_mo_leases a_mo_uses a_mo_arcFrom a_mo_arcTo a_mo_arcRoom a_mo_arcCost a_mo_far a_mo_by a_mo_best a_mo_tape a_mo_kept m_arcs m_tapeMany m_tokenKind m_tokenAt m_tokenEnd m_tokenValue m_fault m_seen m_isKept m_place m_numbers) res.1 (wX7_clear G a_mo a_mo_numbers a_mo_boxes a_mo_words a_mo_weeks a_mo_routes a_mo_turns a_mo_leave a_mo_leases a_mo_uses a_mo_arcFrom a_mo_arcTo a_mo_arcRoom a_mo_arcCost a_mo_far a_mo_by a_mo_best a_mo_tape a_mo_kept m_arcs m_tapeMany m_tokenKind m_tokenAt m_tokenEnd m_tokenValue m_fault m_seen m_isKept m_place res.2) := by
  refine CtI.mk (cc := cX7_clear) (maxL := 2) (ret := (some .int)) (own := RX7) (by decide) rfl rfl (Nat.le_of_ble_eq_true rfl) ?_
  intro p e s m below meth c A X ls hl hW
  obtain ⟨hx, hb, -⟩ := id X.1
  have hl : lv_has ls 2 [(0, .ref a_mo)] := hl
  generalize hH : s.heap = H at hW ⊢
  generalize hLo : ([] : List Loc) = locs at hW ⊢
  rw [fX7_clear] at h
  refine lv_aload_n hx hb dX7_clear_0 rfl (lv_at hl 0 rfl) ?_
  refine g_get X hW eX7_clear_7 0 rfl rfl dX7_clear_1 ?_
  refine lv_iconst hx hb dX7_clear_4 qI_4 ?_
  obtain ⟨g4, h⟩ := gd_some h
  refine g_ald X hW 1 rfl g4 dX7_clear_5 ?_
  refine lv_aload_n hx hb dX7_clear_6 rfl (lv_at hl 0 rfl) ?_
  refine g_get X hW eX7_clear_7 0 rfl rfl dX7_clear_7 ?_
  refine lv_iconst hx hb dX7_clear_10 qI_5 ?_
  obtain ⟨g8, h⟩ := gd_some h
  refine g_ald X hW 1 rfl g8 dX7_clear_11 ?_
  refine lv_iadd hx hb dX7_clear_12 ?_
  refine lv_istore_n (lv' := [(1, .int ((m_numbers (4 : Int32).toNatClampNeg) + (m_numbers (5 : Int32).toNatClampNeg))), (0, .ref a_mo)]) hx hb dX7_clear_13 rfl hl (by decide) rfl (fun ls hl => ?_)
  refine lv_aload_n hx hb dX7_clear_14 rfl (lv_at hl 1 rfl) ?_
  refine g_get X hW eX7_clear_7 0 rfl rfl dX7_clear_15 ?_
  refine lv_iconst hx hb dX7_clear_18 qI_4 ?_
  refine lv_iconst hx hb dX7_clear_19 qI_0 ?_
  obtain ⟨g15, h⟩ := gd_some h
  refine g_ast X hW (ws' := (wX7_clear G a_mo a_mo_numbers a_mo_boxes a_mo_words a_mo_weeks a_mo_routes a_mo_turns a_mo_leave a_mo_leases a_mo_uses a_mo_arcFrom a_mo_arcTo a_mo_arcRoom a_mo_arcCost a_mo_far a_mo_by a_mo_best a_mo_tape a_mo_kept m_arcs m_tapeMany m_tokenKind m_tokenAt m_tokenEnd m_tokenValue m_fault m_seen m_isKept m_place (upd m_numbers (4 : Int32).toNatClampNeg (0 : Int32)))) 1 rfl g15 rfl dX7_clear_20 (fun H locs hW => ?_)
  refine lv_aload_n hx hb dX7_clear_21 rfl (lv_at hl 1 rfl) ?_
  refine g_get X hW eX7_clear_7 0 rfl rfl dX7_clear_22 ?_
  refine lv_iconst hx hb dX7_clear_25 qI_5 ?_
  refine lv_iconst hx hb dX7_clear_26 qI_0 ?_
  obtain ⟨g20, h⟩ := gd_some h
  refine g_ast X hW (ws' := (wX7_clear G a_mo a_mo_numbers a_mo_boxes a_mo_words a_mo_weeks a_mo_routes a_mo_turns a_mo_leave a_mo_leases a_mo_uses a_mo_arcFrom a_mo_arcTo a_mo_arcRoom a_mo_arcCost a_mo_far a_mo_by a_mo_best a_mo_tape a_mo_kept m_arcs m_tapeMany m_tokenKind m_tokenAt m_tokenEnd m_tokenValue m_fault m_seen m_isKept m_place (upd (upd m_numbers (4 : Int32).toNatClampNeg (0 : Int32)) (5 : Int32).toNatClampNeg (0 : Int32)))) 1 rfl g20 rfl dX7_clear_27 (fun H locs hW => ?_)
  refine lv_iload_n hx hb dX7_clear_28 rfl (lv_at hl 0 rfl) ?_
  obtain rfl := Option.some.inj h
  exact g_iret X hW dX7_clear_29
theorem kcX7_clear {l : Launch} (G : Gt) (a_mo a_mo_numbers a_mo_boxes a_mo_words a_mo_weeks a_mo_routes a_mo_turns a_mo_leave a_mo_leases a_mo_uses a_mo_arcFrom a_mo_arcTo a_mo_arcRoom a_mo_arcCost a_mo_far a_mo_by a_mo_best a_mo_tape a_mo_kept : Nat)  (m_arcs : Int32) (m_tapeMany : Int32) (m_tokenKind : Int32) (m_tokenAt : Int32) (m_tokenEnd : Int32) (m_tokenValue : Int32) (m_fault : Int32) (m_seen : Int32) (m_isKept : Int32) (m_place : Int32) (m_numbers : (Nat → Int32)) {r : Int32} {z_m_numbers : (Nat → Int32)} (h : fX7_clear m_numbers = some (r, z_m_numbers)) : CtI G l yX7_clear wsX7_clear rmX7_clear [.ref a_mo] (wX7_clear G a_mo a_mo_numbers a_mo_boxes a_mo_words a_mo_weeks a_mo_routes a_mo_turns a_mo_leave a_mo_leases a_mo_uses a_mo_arcFrom a_mo_arcTo a_mo_arcRoom a_mo_arcCost a_mo_far a_mo_by a_mo_best a_mo_tape a_mo_kept m_arcs m_tapeMany m_tokenKind m_tokenAt m_tokenEnd m_tokenValue m_fault m_seen m_isKept m_place m_numbers) r (wX7_clear G a_mo a_mo_numbers a_mo_boxes a_mo_words a_mo_weeks a_mo_routes a_mo_turns a_mo_leave a_mo_leases a_mo_uses a_mo_arcFrom a_mo_arcTo a_mo_arcRoom a_mo_arcCost a_mo_far a_mo_by a_mo_best a_mo_tape a_mo_kept m_arcs m_tapeMany m_tokenKind m_tokenAt m_tokenEnd m_tokenValue m_fault m_seen m_isKept m_place z_m_numbers) := k0X7_clear G a_mo a_mo_numbers a_mo_boxes a_mo_words a_mo_weeks a_mo_routes a_mo_turns a_mo_leave a_mo_leases a_mo_uses a_mo_arcFrom a_mo_arcTo a_mo_arcRoom a_mo_arcCost a_mo_far a_mo_by a_mo_best a_mo_tape a_mo_kept m_arcs m_tapeMany m_tokenKind m_tokenAt m_tokenEnd m_tokenValue m_fault m_seen m_isKept m_place m_numbers h
end MX7_clear
/-! EmptyBoxesModel.feed -/
section MX7_feed
theorem hdX7_feed : yX7_feed.cls = RX7 ∧ yX7_feed.cls ≠ "java/lang/invoke/MethodHandle" ∧ yX7_feed.cls ≠ "java/lang/invoke/VarHandle" ∧ (parseMethodDescriptor yX7_feed.desc).map (fun d => d.parameters.length) = some 2 := by decide +kernel
abbrev wX7_feed (G : Gt) (a_mo a_mo_tape a_mo_numbers a_mo_boxes a_mo_words a_mo_weeks a_mo_routes a_mo_turns a_mo_leave a_mo_leases a_mo_uses a_mo_arcFrom a_mo_arcTo a_mo_arcRoom a_mo_arcCost a_mo_far a_mo_by a_mo_best a_mo_kept : Nat) (m_arcs : Int32) (m_tapeMany : Int32) (m_tokenKind : Int32) (m_tokenAt : Int32) (m_tokenEnd : Int32) (m_tokenValue : Int32) (m_fault : Int32) (m_seen : Int32) (m_isKept : Int32) (m_place : Int32) (m_tape : (Nat → Int32)) : va_W := [(a_mo, .inr (7, [.ref a_mo_numbers, .ref a_mo_boxes, .ref a_mo_words, .ref a_mo_weeks, .ref a_mo_routes, .ref a_mo_turns, .ref a_mo_leave, .ref a_mo_leases, .ref a_mo_uses, .ref a_mo_arcFrom, .ref a_mo_arcTo, .ref a_mo_arcRoom, .ref a_mo_arcCost, .int m_arcs, .ref a_mo_far, .ref a_mo_by, .ref a_mo_best, .ref a_mo_tape, .int m_tapeMany, .int m_tokenKind, .int m_tokenAt, .int m_tokenEnd, .int m_tokenValue, .int m_fault, .int m_seen, .int m_isKept, .ref a_mo_kept, .int m_place])), (a_mo_tape, .inl (G.2.1, 120, .inl m_tape))]
abbrev rmX7_feed : Room := { frames := 1, cells := 0, slots := 0, locals := 22 }
theorem iX7_feed_X7 : ∀ w ∈ wsX70, w ∈ wsX7_feed := by decide +kernel
theorem eX7_feed_145 : Fk wsX7_feed RX7 145 7 18 := ⟨RX7, TX7, 28, rfl, iX7_feed_X7, by decide, by decide +kernel⟩
theorem eX7_feed_58 : Fk wsX7_feed RX7 58 7 17 := ⟨RX7, TX7, 28, rfl, iX7_feed_X7, by decide, by decide +kernel⟩
theorem pX7_feed_145 : Fp wsX7_feed RX7 145 7 18 .int := ⟨RX7, TX7, 28, tyX7, rfl, iX7_feed_X7, by decide, by decide +kernel, tyX7_ok, nmX7, rfl, by decide +kernel⟩
theorem ckX7_feed_X7_in_64 : CkS wsX7_feed RX7 64 yX7_in wsX7_in cX7_in 3 (some .boolean) 3 := ⟨_, gX7_feed_X7_in, rfl, hdX7_in.2⟩
theorem cwX7_feed_148 : Cond.constantLong RX7 148 255 ∈ wsX7_feed := by decide +kernel
variable {p : Program} {l : Launch} {e : Env} {s : State} {m : MethodId} {args : Array Value} {below : List Frame} {meth : Method} {c : Code} {A : Nat → Prop} {G : Gt} {a_mo a_mo_tape a_mo_numbers a_mo_boxes a_mo_words a_mo_weeks a_mo_routes a_mo_turns a_mo_leave a_mo_leases a_mo_uses a_mo_arcFrom a_mo_arcTo a_mo_arcRoom a_mo_arcCost a_mo_far a_mo_by a_mo_best a_mo_kept : Nat} {m_arcs : Int32} {m_tokenKind : Int32} {m_tokenAt : Int32} {m_tokenEnd : Int32} {m_tokenValue : Int32} {m_fault : Int32} {m_seen : Int32} {m_isKept : Int32} {m_place : Int32} {res : Int32 × Int32 × (Nat → Int32)}
set_option maxHeartbeats 4000000 in
set_option maxRecDepth 100000 in
theorem tX7_feed_72 (X : Bx p s m args meth c cX7_feed 5 wsX7_feed RX7 (some .int)) (m_tapeMany : Int32) (m_tape : (Nat → Int32))   (h : fX7_feed_72 m_tapeMany m_tape = some res) : ∀ (H : Heap) (locs : List Loc), Wo G A s (wX7_feed G a_mo a_mo_tape a_mo_numbers a_mo_boxes a_mo_words a_mo_weeks a_mo_routes a_mo_turns a_mo_leave a_mo_leases a_mo_uses a_mo_arcFrom a_mo_arcTo a_mo_arcRoom a_mo_arcCost a_mo_far a_mo_by a_mo_best a_mo_kept m_arcs m_tapeMany m_tokenKind m_tokenAt m_tokenEnd m_tokenValue m_fault m_seen m_isKept m_place m_tape) H locs → ∀ ls : Array Slot, lv_has ls 5 [(0, .ref a_mo)] → W p l e rmX7_feed s m args below meth c H locs 0 0 (QI G A below args s res.1 (wX7_feed G a_mo a_mo_tape a_mo_numbers a_mo_boxes a_mo_words a_mo_weeks a_mo_routes a_mo_turns a_mo_leave a_mo_leases a_mo_uses a_mo_arcFrom a_mo_arcTo a_mo_arcRoom a_mo_arcCost a_mo_far a_mo_by a_mo_best a_mo_kept m_arcs res.2.1 m_tokenKind m_tokenAt m_tokenEnd m_tokenValue m_fault m_seen m_isKept m_place res.2.2)) (F0 m 72 ls []) := by
  obtain ⟨hx, hb, -⟩ := id X.1
  intro H locs hW ls hl
  rw [fX7_feed_72] at h
  refine lv_aload_n hx hb dX7_feed_72 rfl (lv_at hl 0 rfl) ?_
  refine g_get X hW eX7_feed_145 0 rfl rfl dX7_feed_73 ?_
  obtain rfl := Option.some.inj h
  exact g_iret X hW dX7_feed_76
set_option maxHeartbeats 4000000 in
set_option maxRecDepth 100000 in
theorem tX7_feed_29 (X : Bx p s m args meth c cX7_feed 5 wsX7_feed RX7 (some .int)) (v1 : Int64) (v3 : Int32) (k_72 : Int32 → (Nat → Int32) → Option (Int32 × Int32 × (Nat → Int32))) (Hk_72 : ∀ (m_tapeMany : Int32) (m_tape : (Nat → Int32)), k_72 m_tapeMany m_tape = some res → ∀ (H : Heap) (locs : List Loc), Wo G A s (wX7_feed G a_mo a_mo_tape a_mo_numbers a_mo_boxes a_mo_words a_mo_weeks a_mo_routes a_mo_turns a_mo_leave a_mo_leases a_mo_uses a_mo_arcFrom a_mo_arcTo a_mo_arcRoom a_mo_arcCost a_mo_far a_mo_by a_mo_best a_mo_kept m_arcs m_tapeMany m_tokenKind m_tokenAt m_tokenEnd m_tokenValue m_fault m_seen m_isKept m_place m_tape) H locs → ∀ ls : Array Slot, lv_has ls 5 [(0, .ref a_mo)] → W p l e rmX7_feed s m args below meth c H locs 0 0 (QI G A below args s res.1 (wX7_feed G a_mo a_mo_tape a_mo_numbers a_mo_boxes a_mo_words a_mo_weeks a_mo_routes a_mo_turns a_mo_leave a_mo_leases a_mo_uses a_mo_arcFrom a_mo_arcTo a_mo_arcRoom a_mo_arcCost a_mo_far a_mo_by a_mo_best a_mo_kept m_arcs res.2.1 m_tokenKind m_tokenAt m_tokenEnd m_tokenValue m_fault m_seen m_isKept m_place res.2.2)) (F0 m 72 ls [])) : ∀ (n : Nat) (v4 : Int32) (m_tapeMany : Int32) (m_tape : (Nat → Int32)), fX7_feed_29 v1 v3 k_72 n v4 m_tapeMany m_tape = some res → ∀ (H : Heap) (locs : List Loc), Wo G A s (wX7_feed G a_mo a_mo_tape a_mo_numbers a_mo_boxes a_mo_words a_mo_weeks a_mo_routes a_mo_turns a_mo_leave a_mo_leases a_mo_uses a_mo_arcFrom a_mo_arcTo a_mo_arcRoom a_mo_arcCost a_mo_far a_mo_by a_mo_best a_mo_kept m_arcs m_tapeMany m_tokenKind m_tokenAt m_tokenEnd m_tokenValue m_fault m_seen m_isKept m_place m_tape) H locs → ∀ ls : Array Slot, lv_has ls 5 [(0, .ref a_mo), (1, .long v1), (3, .int v3), (4, .int v4)] → W p l e rmX7_feed s m args below meth c H locs 0 0 (QI G A below args s res.1 (wX7_feed G a_mo a_mo_tape a_mo_numbers a_mo_boxes a_mo_words a_mo_weeks a_mo_routes a_mo_turns a_mo_leave a_mo_leases a_mo_uses a_mo_arcFrom a_mo_arcTo a_mo_arcRoom a_mo_arcCost a_mo_far a_mo_by a_mo_best a_mo_kept m_arcs res.2.1 m_tokenKind m_tokenAt m_tokenEnd m_tokenValue m_fault m_seen m_isKept m_place res.2.2)) (F0 m 29 ls []) := by
  obtain ⟨hx, hb, -⟩ := id X.1
  intro n
  induction n with
  | zero => intro v4 m_tapeMany m_tape h; rw [fX7_feed_29] at h; cases h
  | succ n ih =>
    intro v4 m_tapeMany m_tape h H locs hW ls hl
    rw [fX7_feed_29] at h
    refine lv_iload hx hb dX7_feed_29 (lv_at hl 3 rfl) ?_
    refine lv_iload_n hx hb dX7_feed_31 rfl (lv_at hl 2 rfl) ?_
    refine lv_icmp_ge (tgt := 72) hx hb dX7_feed_32 (by decide) (fun c6 => ?_) (fun c6 => ?_)
    · have h := (if_pos c6).symm.trans h
      exact Hk_72 m_tapeMany m_tape h H locs hW ls (lv_sub hl [0] rfl)
    · have h := (if_neg c6).symm.trans h
      refine lv_aload_n hx hb dX7_feed_35 rfl (lv_at hl 0 rfl) ?_
      refine g_get X hW eX7_feed_58 0 rfl rfl dX7_feed_36 ?_
      refine lv_aload_n hx hb dX7_feed_39 rfl (lv_at hl 0 rfl) ?_
      refine g_get X hW eX7_feed_145 0 rfl rfl dX7_feed_40 ?_
      refine lv_lload_n hx hb dX7_feed_43 rfl (lv_at hl 1 rfl) ?_
      refine lv_bipush hx hb dX7_feed_44 qB_8 ?_
      refine lv_iload hx hb dX7_feed_46 (lv_at hl 3 rfl) ?_
      refine lv_imul hx hb dX7_feed_48 ?_
      refine g_lushr hx hb dX7_feed_49 ?_
      refine lv_ldc2 hx hb X.1.2.2.2.1 (X.1.2.2.2.2 _ cwX7_feed_148) dX7_feed_50 ?_
      refine lv_land hx hb dX7_feed_53 ?_
      refine lv_l2i hx hb dX7_feed_54 rfl ?_
      obtain ⟨g19, h⟩ := gd_some h
      refine g_ast X hW (ws' := (wX7_feed G a_mo a_mo_tape a_mo_numbers a_mo_boxes a_mo_words a_mo_weeks a_mo_routes a_mo_turns a_mo_leave a_mo_leases a_mo_uses a_mo_arcFrom a_mo_arcTo a_mo_arcRoom a_mo_arcCost a_mo_far a_mo_by a_mo_best a_mo_kept m_arcs m_tapeMany m_tokenKind m_tokenAt m_tokenEnd m_tokenValue m_fault m_seen m_isKept m_place (upd m_tape m_tapeMany.toNatClampNeg ((lushr v1 ((8 : Int32) * v4)) &&& (255 : Int64)).toInt32))) 1 rfl g19 rfl dX7_feed_55 (fun H locs hW => ?_)
      refine lv_aload_n hx hb dX7_feed_56 rfl (lv_at hl 0 rfl) ?_
      refine lv_dup hx hb dX7_feed_57 rfl ?_
      refine g_get X hW eX7_feed_145 0 rfl rfl dX7_feed_58 ?_
      refine lv_iconst hx hb dX7_feed_61 qI_1 ?_
      refine lv_iadd hx hb dX7_feed_62 ?_
      refine g_put X hW (ws' := (wX7_feed G a_mo a_mo_tape a_mo_numbers a_mo_boxes a_mo_words a_mo_weeks a_mo_routes a_mo_turns a_mo_leave a_mo_leases a_mo_uses a_mo_arcFrom a_mo_arcTo a_mo_arcRoom a_mo_arcCost a_mo_far a_mo_by a_mo_best a_mo_kept m_arcs (m_tapeMany + (1 : Int32)) m_tokenKind m_tokenAt m_tokenEnd m_tokenValue m_fault m_seen m_isKept m_place (upd m_tape m_tapeMany.toNatClampNeg ((lushr v1 ((8 : Int32) * v4)) &&& (255 : Int64)).toInt32))) pX7_feed_145 0 rfl (Nat.le_of_ble_eq_true rfl) rfl rfl rfl dX7_feed_63 (fun H locs hW => ?_)
      refine lv_iinc (v := (v4 + (1 : Int32))) (lv' := [(4, .int (v4 + (1 : Int32))), (0, .ref a_mo), (1, .long v1), (3, .int v3)]) hx hb dX7_feed_66 hl (k := 3) rfl (congrArg (fun z => v4 + z) qI_1) (by decide) rfl (fun ls hl => ?_)
      refine lv_goto (tgt := 29) hx hb dX7_feed_69 (by decide) ?_
      exact ih (v4 + (1 : Int32)) (m_tapeMany + (1 : Int32)) (upd m_tape m_tapeMany.toNatClampNeg ((lushr v1 ((8 : Int32) * v4)) &&& (255 : Int64)).toInt32) h H locs hW ls (lv_sub hl [1, 2, 3, 0] rfl)
set_option maxHeartbeats 4000000 in
set_option maxRecDepth 100000 in
theorem k0X7_feed {l : Launch} (G : Gt) (a_mo a_mo_tape a_mo_numbers a_mo_boxes a_mo_words a_mo_weeks a_mo_routes a_mo_turns a_mo_leave a_mo_leases a_mo_uses a_mo_arcFrom a_mo_arcTo a_mo_arcRoom a_mo_arcCost a_mo_far a_mo_by a_mo_best a_mo_kept : Nat) (v1 : Int64) (v3 : Int32) (m_arcs : Int32) (m_tapeMany : Int32) (m_tokenKind : Int32) (m_tokenAt : Int32) (m_tokenEnd : Int32) (m_tokenValue : Int32) (m_fault : Int32) (m_seen : Int32) (m_isKept : Int32) (m_place : Int32) (m_tape : (Nat → Int32)) {res : Int32 × Int32 × (Nat → Int32)} (h : fX7_feed v1 v3 m_tapeMany m_tape = some res) : CtI G l yX7_feed wsX7_feed rmX7_feed [.ref a_mo, .long v1, .int v3] (wX7_feed G a_mo a_mo_tape a_mo_numbers a_mo_boxes a_mo_words a_mo_weeks a_mo_routes a_mo_turns a_mo_leave a_mo_leases a_mo_uses a_mo_arcFrom a_mo_arcTo a_mo_arcRoom a_mo_arcCost a_mo_far a_mo_by a_mo_best a_mo_kept m_arcs m_tapeMany m_tokenKind m_tokenAt m_tokenEnd m_tokenValue m_fault m_seen m_isKept m_place m_tape) res.1 (wX7_feed G a_mo a_mo_tape a_mo_numbers a_mo_boxes a_mo_words a_mo_weeks a_mo_routes a_mo_turns a_mo_leave a_mo_leases a_mo_uses a_mo_arcFrom a_mo_arcTo a_mo_arcRoom a_mo_arcCost a_mo_far a_mo_by a_mo_best a_mo_kept m_arcs res.2.1 m_tokenKind m_tokenAt m_tokenEnd m_tokenValue m_fault m_seen m_isKept m_place res.2.2) := by
  refine CtI.mk (cc := cX7_feed) (maxL := 5) (ret := (some .int)) (own := RX7) (by decide) rfl rfl (Nat.le_of_ble_eq_true rfl) ?_
  intro p e s m below meth c A X ls hl hW
  obtain ⟨hx, hb, -⟩ := id X.1
  have hl : lv_has ls 5 [(0, .ref a_mo), (1, .long v1), (3, .int v3)] := hl
  generalize hH : s.heap = H at hW ⊢
  generalize hLo : ([] : List Loc) = locs at hW ⊢
  rw [fX7_feed] at h
  refine lv_iload_n hx hb dX7_feed_0 rfl (lv_at hl 2 rfl) ?_
  refine lv_iconst hx hb dX7_feed_1 qI_1 ?_
  refine lv_bipush hx hb dX7_feed_2 qB_8 ?_
  obtain ⟨r31, hq, h⟩ := bn1_some h
  refine g_csi X hW (As := [.int v3, .int (1 : Int32), .int (8 : Int32)]) (ws' := (wX7_feed G a_mo a_mo_tape a_mo_numbers a_mo_boxes a_mo_words a_mo_weeks a_mo_routes a_mo_turns a_mo_leave a_mo_leases a_mo_uses a_mo_arcFrom a_mo_arcTo a_mo_arcRoom a_mo_arcCost a_mo_far a_mo_by a_mo_best a_mo_kept m_arcs m_tapeMany m_tokenKind m_tokenAt m_tokenEnd m_tokenValue m_fault m_seen m_isKept m_place m_tape)) ckX7_feed_X7_in_64 (kcX7_in (l := l) G v3 (1 : Int32) (8 : Int32) hq) ⟨rfl, rfl, Nat.le_of_ble_eq_true rfl, Nat.le_of_ble_eq_true rfl⟩ [] rfl rfl rfl rfl rfl rfl hl.1 (Nat.le_of_ble_eq_true rfl) ⟨Nat.zero_le _, Nat.zero_le _⟩ dX7_feed_4 (fun H locs hW => ?_)
  refine lv_if_ne (tgt := 12) hx hb dX7_feed_7 (by decide) (fun c32 => ?_) (fun c32 => ?_)
  · have h := (if_neg c32).symm.trans h
    refine lv_aload_n hx hb dX7_feed_12 rfl (lv_at hl 0 rfl) ?_
    refine g_get X hW eX7_feed_145 0 rfl rfl dX7_feed_13 ?_
    refine lv_iload_n hx hb dX7_feed_16 rfl (lv_at hl 2 rfl) ?_
    refine lv_iadd hx hb dX7_feed_17 ?_
    refine lv_bipush hx hb dX7_feed_18 qB_120 ?_
    refine lv_icmp_le (tgt := 26) hx hb dX7_feed_20 (by decide) (fun c38 => ?_) (fun c38 => ?_)
    · have h := (if_pos c38).symm.trans h
      refine lv_iconst hx hb dX7_feed_26 qI_0 ?_
      refine lv_istore (lv' := [(4, .int (0 : Int32)), (0, .ref a_mo), (1, .long v1), (3, .int v3)]) hx hb dX7_feed_27 hl (by decide) rfl (fun ls hl => ?_)
      exact tX7_feed_29 X v1 v3 (fun m_tapeMany_q41 m_tape_q41 => fX7_feed_72 m_tapeMany_q41 m_tape_q41) (fun m_tapeMany_q41 m_tape_q41 h H locs hW ls hl => by exact tX7_feed_72 X m_tapeMany_q41 m_tape_q41 h H locs hW ls hl) FU (0 : Int32) m_tapeMany m_tape h H locs hW ls (lv_sub hl [1, 2, 3, 0] rfl)
    · have h := (if_neg c38).symm.trans h
      refine lv_bipush hx hb dX7_feed_23 qB_m2 ?_
      obtain rfl := Option.some.inj h
      exact g_iret X hW dX7_feed_25
  · have h := (if_pos c32).symm.trans h
    refine lv_iconst hx hb dX7_feed_10 qI_m1 ?_
    obtain rfl := Option.some.inj h
    exact g_iret X hW dX7_feed_11
theorem kcX7_feed {l : Launch} (G : Gt) (a_mo a_mo_tape a_mo_numbers a_mo_boxes a_mo_words a_mo_weeks a_mo_routes a_mo_turns a_mo_leave a_mo_leases a_mo_uses a_mo_arcFrom a_mo_arcTo a_mo_arcRoom a_mo_arcCost a_mo_far a_mo_by a_mo_best a_mo_kept : Nat) (v1 : Int64) (v3 : Int32) (m_arcs : Int32) (m_tapeMany : Int32) (m_tokenKind : Int32) (m_tokenAt : Int32) (m_tokenEnd : Int32) (m_tokenValue : Int32) (m_fault : Int32) (m_seen : Int32) (m_isKept : Int32) (m_place : Int32) (m_tape : (Nat → Int32)) {r : Int32} {z_m_tapeMany : Int32} {z_m_tape : (Nat → Int32)} (h : fX7_feed v1 v3 m_tapeMany m_tape = some (r, z_m_tapeMany, z_m_tape)) : CtI G l yX7_feed wsX7_feed rmX7_feed [.ref a_mo, .long v1, .int v3] (wX7_feed G a_mo a_mo_tape a_mo_numbers a_mo_boxes a_mo_words a_mo_weeks a_mo_routes a_mo_turns a_mo_leave a_mo_leases a_mo_uses a_mo_arcFrom a_mo_arcTo a_mo_arcRoom a_mo_arcCost a_mo_far a_mo_by a_mo_best a_mo_kept m_arcs m_tapeMany m_tokenKind m_tokenAt m_tokenEnd m_tokenValue m_fault m_seen m_isKept m_place m_tape) r (wX7_feed G a_mo a_mo_tape a_mo_numbers a_mo_boxes a_mo_words a_mo_weeks a_mo_routes a_mo_turns a_mo_leave a_mo_leases a_mo_uses a_mo_arcFrom a_mo_arcTo a_mo_arcRoom a_mo_arcCost a_mo_far a_mo_by a_mo_best a_mo_kept m_arcs z_m_tapeMany m_tokenKind m_tokenAt m_tokenEnd m_tokenValue m_fault m_seen m_isKept m_place z_m_tape) := k0X7_feed G a_mo a_mo_tape a_mo_numbers a_mo_boxes a_mo_words a_mo_weeks a_mo_routes a_mo_turns a_mo_leave a_mo_leases a_mo_uses a_mo_arcFrom a_mo_arcTo a_mo_arcRoom a_mo_arcCost a_mo_far a_mo_by a_mo_best a_mo_kept v1 v3 m_arcs m_tapeMany m_tokenKind m_tokenAt m_tokenEnd m_tokenValue m_fault m_seen m_isKept m_place m_tape h
end MX7_feed
/-! EmptyBoxesModel.isLetter -/
section MX7_isLetter
theorem hdX7_isLetter : yX7_isLetter.cls = RX7 ∧ yX7_isLetter.cls ≠ "java/lang/invoke/MethodHandle" ∧ yX7_isLetter.cls ≠ "java/lang/invoke/VarHandle" ∧ (parseMethodDescriptor yX7_isLetter.desc).map (fun d => d.parameters.length) = some 1 := by decide +kernel
abbrev rmX7_isLetter : Room := { frames := 0, cells := 0, slots := 0, locals := 0 }
variable {p : Program} {l : Launch} {e : Env} {s : State} {m : MethodId} {args : Array Value} {below : List Frame} {meth : Method} {c : Code} {A : Nat → Prop} {G : Gt} {res : Int32}
set_option maxHeartbeats 4000000 in
set_option maxRecDepth 100000 in
theorem k0X7_isLetter {l : Launch} (G : Gt) (v0 : Int32)  {res : Int32} (h : fX7_isLetter v0 = some res) : CtI G l yX7_isLetter wsX7_isLetter rmX7_isLetter [.int v0] ([] : va_W) res ([] : va_W) := by
  refine CtI.mk (cc := cX7_isLetter) (maxL := 1) (ret := (some .boolean)) (own := RX7) (by decide) rfl rfl (Nat.le_of_ble_eq_true rfl) ?_
  intro p e s m below meth c A X ls hl hW
  obtain ⟨hx, hb, -⟩ := id X.1
  have hl : lv_has ls 1 [(0, .int v0)] := hl
  generalize hH : s.heap = H at hW ⊢
  generalize hLo : ([] : List Loc) = locs at hW ⊢
  rw [fX7_isLetter] at h
  refine lv_iload_n hx hb dX7_isLetter_0 rfl (lv_at hl 0 rfl) ?_
  refine lv_bipush hx hb dX7_isLetter_1 qB_97 ?_
  refine lv_icmp_lt (tgt := 16) hx hb dX7_isLetter_3 (by decide) (fun c3 => ?_) (fun c3 => ?_)
  · have h := (if_pos c3).symm.trans h
    refine lv_iconst hx hb dX7_isLetter_16 qI_0 ?_
    obtain rfl := Option.some.inj h
    exact g_zret X hW rfl dX7_isLetter_17
  · have h := (if_neg c3).symm.trans h
    refine lv_iload_n hx hb dX7_isLetter_6 rfl (lv_at hl 0 rfl) ?_
    refine lv_bipush hx hb dX7_isLetter_7 qB_122 ?_
    refine lv_icmp_gt (tgt := 16) hx hb dX7_isLetter_9 (by decide) (fun c8 => ?_) (fun c8 => ?_)
    · have h := (if_pos c8).symm.trans h
      refine lv_iconst hx hb dX7_isLetter_16 qI_0 ?_
      obtain rfl := Option.some.inj h
      exact g_zret X hW rfl dX7_isLetter_17
    · have h := (if_neg c8).symm.trans h
      refine lv_iconst hx hb dX7_isLetter_12 qI_1 ?_
      refine lv_goto (tgt := 17) hx hb dX7_isLetter_13 (by decide) ?_
      obtain rfl := Option.some.inj h
      exact g_zret X hW rfl dX7_isLetter_17
theorem kcX7_isLetter {l : Launch} (G : Gt) (v0 : Int32)  {r : Int32}  (h : fX7_isLetter v0 = some r) : CtI G l yX7_isLetter wsX7_isLetter rmX7_isLetter [.int v0] ([] : va_W) r ([] : va_W) := k0X7_isLetter G v0 h
end MX7_isLetter
/-! EmptyBoxesModel.isDigit -/
section MX7_isDigit
theorem hdX7_isDigit : yX7_isDigit.cls = RX7 ∧ yX7_isDigit.cls ≠ "java/lang/invoke/MethodHandle" ∧ yX7_isDigit.cls ≠ "java/lang/invoke/VarHandle" ∧ (parseMethodDescriptor yX7_isDigit.desc).map (fun d => d.parameters.length) = some 1 := by decide +kernel
abbrev rmX7_isDigit : Room := { frames := 0, cells := 0, slots := 0, locals := 0 }
variable {p : Program} {l : Launch} {e : Env} {s : State} {m : MethodId} {args : Array Value} {below : List Frame} {meth : Method} {c : Code} {A : Nat → Prop} {G : Gt} {res : Int32}
set_option maxHeartbeats 4000000 in
set_option maxRecDepth 100000 in
theorem k0X7_isDigit {l : Launch} (G : Gt) (v0 : Int32)  {res : Int32} (h : fX7_isDigit v0 = some res) : CtI G l yX7_isDigit wsX7_isDigit rmX7_isDigit [.int v0] ([] : va_W) res ([] : va_W) := by
  refine CtI.mk (cc := cX7_isDigit) (maxL := 1) (ret := (some .boolean)) (own := RX7) (by decide) rfl rfl (Nat.le_of_ble_eq_true rfl) ?_
  intro p e s m below meth c A X ls hl hW
  obtain ⟨hx, hb, -⟩ := id X.1
  have hl : lv_has ls 1 [(0, .int v0)] := hl
  generalize hH : s.heap = H at hW ⊢
  generalize hLo : ([] : List Loc) = locs at hW ⊢
  rw [fX7_isDigit] at h
  refine lv_iload_n hx hb dX7_isDigit_0 rfl (lv_at hl 0 rfl) ?_
  refine lv_bipush hx hb dX7_isDigit_1 qB_48 ?_
  refine lv_icmp_lt (tgt := 16) hx hb dX7_isDigit_3 (by decide) (fun c3 => ?_) (fun c3 => ?_)
  · have h := (if_pos c3).symm.trans h
    refine lv_iconst hx hb dX7_isDigit_16 qI_0 ?_
    obtain rfl := Option.some.inj h
    exact g_zret X hW rfl dX7_isDigit_17
  · have h := (if_neg c3).symm.trans h
    refine lv_iload_n hx hb dX7_isDigit_6 rfl (lv_at hl 0 rfl) ?_
    refine lv_bipush hx hb dX7_isDigit_7 qB_57 ?_
    refine lv_icmp_gt (tgt := 16) hx hb dX7_isDigit_9 (by decide) (fun c8 => ?_) (fun c8 => ?_)
    · have h := (if_pos c8).symm.trans h
      refine lv_iconst hx hb dX7_isDigit_16 qI_0 ?_
      obtain rfl := Option.some.inj h
      exact g_zret X hW rfl dX7_isDigit_17
    · have h := (if_neg c8).symm.trans h
      refine lv_iconst hx hb dX7_isDigit_12 qI_1 ?_
      refine lv_goto (tgt := 17) hx hb dX7_isDigit_13 (by decide) ?_
      obtain rfl := Option.some.inj h
      exact g_zret X hW rfl dX7_isDigit_17
theorem kcX7_isDigit {l : Launch} (G : Gt) (v0 : Int32)  {r : Int32}  (h : fX7_isDigit v0 = some r) : CtI G l yX7_isDigit wsX7_isDigit rmX7_isDigit [.int v0] ([] : va_W) r ([] : va_W) := k0X7_isDigit G v0 h
end MX7_isDigit
/-! EmptyBoxesModel.advance -/
section MX7_advance
theorem hdX7_advance : yX7_advance.cls = RX7 ∧ yX7_advance.cls ≠ "java/lang/invoke/MethodHandle" ∧ yX7_advance.cls ≠ "java/lang/invoke/VarHandle" ∧ (parseMethodDescriptor yX7_advance.desc).map (fun d => d.parameters.length) = some 0 := by decide +kernel
abbrev wX7_advance (G : Gt) (a_mo a_mo_tape a_mo_numbers a_mo_boxes a_mo_words a_mo_weeks a_mo_routes a_mo_turns a_mo_leave a_mo_leases a_mo_uses a_mo_arcFrom a_mo_arcTo a_mo_arcRoom a_mo_arcCost a_mo_far a_mo_by a_mo_best a_mo_kept : Nat) (m_arcs : Int32) (m_tapeMany : Int32) (m_tokenKind : Int32) (m_tokenAt : Int32) (m_tokenEnd : Int32) (m_tokenValue : Int32) (m_fault : Int32) (m_seen : Int32) (m_isKept : Int32) (m_place : Int32) (m_tape : (Nat → Int32)) : va_W := [(a_mo, .inr (7, [.ref a_mo_numbers, .ref a_mo_boxes, .ref a_mo_words, .ref a_mo_weeks, .ref a_mo_routes, .ref a_mo_turns, .ref a_mo_leave, .ref a_mo_leases, .ref a_mo_uses, .ref a_mo_arcFrom, .ref a_mo_arcTo, .ref a_mo_arcRoom, .ref a_mo_arcCost, .int m_arcs, .ref a_mo_far, .ref a_mo_by, .ref a_mo_best, .ref a_mo_tape, .int m_tapeMany, .int m_tokenKind, .int m_tokenAt, .int m_tokenEnd, .int m_tokenValue, .int m_fault, .int m_seen, .int m_isKept, .ref a_mo_kept, .int m_place])), (a_mo_tape, .inl (G.2.1, 120, .inl m_tape))]
abbrev rmX7_advance : Room := { frames := 1, cells := 0, slots := 0, locals := 20 }
theorem iX7_advance_X7 : ∀ w ∈ wsX70, w ∈ wsX7_advance := by decide +kernel
theorem eX7_advance_145 : Fk wsX7_advance RX7 145 7 18 := ⟨RX7, TX7, 28, rfl, iX7_advance_X7, by decide, by decide +kernel⟩
theorem eX7_advance_150 : Fk wsX7_advance RX7 150 7 21 := ⟨RX7, TX7, 28, rfl, iX7_advance_X7, by decide, by decide +kernel⟩
theorem eX7_advance_153 : Fk wsX7_advance RX7 153 7 20 := ⟨RX7, TX7, 28, rfl, iX7_advance_X7, by decide, by decide +kernel⟩
theorem eX7_advance_156 : Fk wsX7_advance RX7 156 7 22 := ⟨RX7, TX7, 28, rfl, iX7_advance_X7, by decide, by decide +kernel⟩
theorem eX7_advance_58 : Fk wsX7_advance RX7 58 7 17 := ⟨RX7, TX7, 28, rfl, iX7_advance_X7, by decide, by decide +kernel⟩
theorem pX7_advance_150 : Fp wsX7_advance RX7 150 7 21 .int := ⟨RX7, TX7, 28, tyX7, rfl, iX7_advance_X7, by decide, by decide +kernel, tyX7_ok, nmX7, rfl, by decide +kernel⟩
theorem pX7_advance_153 : Fp wsX7_advance RX7 153 7 20 .int := ⟨RX7, TX7, 28, tyX7, rfl, iX7_advance_X7, by decide, by decide +kernel, tyX7_ok, nmX7, rfl, by decide +kernel⟩
theorem pX7_advance_156 : Fp wsX7_advance RX7 156 7 22 .int := ⟨RX7, TX7, 28, tyX7, rfl, iX7_advance_X7, by decide, by decide +kernel, tyX7_ok, nmX7, rfl, by decide +kernel⟩
theorem pX7_advance_159 : Fp wsX7_advance RX7 159 7 19 .int := ⟨RX7, TX7, 28, tyX7, rfl, iX7_advance_X7, by decide, by decide +kernel, tyX7_ok, nmX7, rfl, by decide +kernel⟩
theorem ckX7_advance_X7_isDigit_165 : CkS wsX7_advance RX7 165 yX7_isDigit wsX7_isDigit cX7_isDigit 1 (some .boolean) 1 := ⟨_, gX7_advance_X7_isDigit, rfl, hdX7_isDigit.2⟩
theorem ckX7_advance_X7_isLetter_162 : CkS wsX7_advance RX7 162 yX7_isLetter wsX7_isLetter cX7_isLetter 1 (some .boolean) 1 := ⟨_, gX7_advance_X7_isLetter, rfl, hdX7_isLetter.2⟩
variable {p : Program} {l : Launch} {e : Env} {s : State} {m : MethodId} {args : Array Value} {below : List Frame} {meth : Method} {c : Code} {A : Nat → Prop} {G : Gt} {a_mo a_mo_tape a_mo_numbers a_mo_boxes a_mo_words a_mo_weeks a_mo_routes a_mo_turns a_mo_leave a_mo_leases a_mo_uses a_mo_arcFrom a_mo_arcTo a_mo_arcRoom a_mo_arcCost a_mo_far a_mo_by a_mo_best a_mo_kept : Nat} {m_arcs : Int32} {m_tapeMany : Int32} {m_fault : Int32} {m_seen : Int32} {m_isKept : Int32} {m_place : Int32} {m_tape : (Nat → Int32)} {res : Int32 × Int32 × Int32 × Int32}
set_option maxHeartbeats 4000000 in
set_option maxRecDepth 100000 in
theorem tX7_advance_258 (X : Bx p s m args meth c cX7_advance 2 wsX7_advance RX7 none) (v1 : Int32) (m_tokenKind : Int32) (m_tokenAt : Int32) (m_tokenEnd : Int32) (m_tokenValue : Int32)   (h : fX7_advance_258 v1 m_tokenKind m_tokenAt m_tokenValue = some res) : ∀ (H : Heap) (locs : List Loc), Wo G A s (wX7_advance G a_mo a_mo_tape a_mo_numbers a_mo_boxes a_mo_words a_mo_weeks a_mo_routes a_mo_turns a_mo_leave a_mo_leases a_mo_uses a_mo_arcFrom a_mo_arcTo a_mo_arcRoom a_mo_arcCost a_mo_far a_mo_by a_mo_best a_mo_kept m_arcs m_tapeMany m_tokenKind m_tokenAt m_tokenEnd m_tokenValue m_fault m_seen m_isKept m_place m_tape) H locs → ∀ ls : Array Slot, lv_has ls 2 [(0, .ref a_mo), (1, .int v1)] → W p l e rmX7_advance s m args below meth c H locs 0 0 (QV G A below args s (wX7_advance G a_mo a_mo_tape a_mo_numbers a_mo_boxes a_mo_words a_mo_weeks a_mo_routes a_mo_turns a_mo_leave a_mo_leases a_mo_uses a_mo_arcFrom a_mo_arcTo a_mo_arcRoom a_mo_arcCost a_mo_far a_mo_by a_mo_best a_mo_kept m_arcs m_tapeMany res.1 res.2.1 res.2.2.1 res.2.2.2 m_fault m_seen m_isKept m_place m_tape)) (F0 m 258 ls []) := by
  obtain ⟨hx, hb, -⟩ := id X.1
  intro H locs hW ls hl
  rw [fX7_advance_258] at h
  refine lv_aload_n hx hb dX7_advance_258 rfl (lv_at hl 0 rfl) ?_
  refine lv_iload_n hx hb dX7_advance_259 rfl (lv_at hl 1 rfl) ?_
  refine g_put X hW (ws' := (wX7_advance G a_mo a_mo_tape a_mo_numbers a_mo_boxes a_mo_words a_mo_weeks a_mo_routes a_mo_turns a_mo_leave a_mo_leases a_mo_uses a_mo_arcFrom a_mo_arcTo a_mo_arcRoom a_mo_arcCost a_mo_far a_mo_by a_mo_best a_mo_kept m_arcs m_tapeMany m_tokenKind m_tokenAt v1 m_tokenValue m_fault m_seen m_isKept m_place m_tape)) pX7_advance_150 0 rfl (Nat.le_of_ble_eq_true rfl) rfl rfl rfl dX7_advance_260 (fun H locs hW => ?_)
  obtain rfl := Option.some.inj h
  exact g_vret X hW dX7_advance_263
set_option maxHeartbeats 4000000 in
set_option maxRecDepth 100000 in
theorem tX7_advance_231 (X : Bx p s m args meth c cX7_advance 2 wsX7_advance RX7 none) (v1 : Int32) (t1 : Int32) (m_tokenKind : Int32) (m_tokenAt : Int32) (m_tokenEnd : Int32) (m_tokenValue : Int32) (k_176 : Int32 → Int32 → Option (Int32 × Int32 × Int32 × Int32)) (Hk_176 : ∀ (v1 : Int32) (m_tokenValue : Int32), k_176 v1 m_tokenValue = some res → ∀ (H : Heap) (locs : List Loc), Wo G A s (wX7_advance G a_mo a_mo_tape a_mo_numbers a_mo_boxes a_mo_words a_mo_weeks a_mo_routes a_mo_turns a_mo_leave a_mo_leases a_mo_uses a_mo_arcFrom a_mo_arcTo a_mo_arcRoom a_mo_arcCost a_mo_far a_mo_by a_mo_best a_mo_kept m_arcs m_tapeMany m_tokenKind m_tokenAt m_tokenEnd m_tokenValue m_fault m_seen m_isKept m_place m_tape) H locs → ∀ ls : Array Slot, lv_has ls 2 [(0, .ref a_mo), (1, .int v1)] → W p l e rmX7_advance s m args below meth c H locs 0 0 (QV G A below args s (wX7_advance G a_mo a_mo_tape a_mo_numbers a_mo_boxes a_mo_words a_mo_weeks a_mo_routes a_mo_turns a_mo_leave a_mo_leases a_mo_uses a_mo_arcFrom a_mo_arcTo a_mo_arcRoom a_mo_arcCost a_mo_far a_mo_by a_mo_best a_mo_kept m_arcs m_tapeMany res.1 res.2.1 res.2.2.1 res.2.2.2 m_fault m_seen m_isKept m_place m_tape)) (F0 m 176 ls [])) (h : fX7_advance_231 k_176 v1 t1 = some res) : ∀ (H : Heap) (locs : List Loc), Wo G A s (wX7_advance G a_mo a_mo_tape a_mo_numbers a_mo_boxes a_mo_words a_mo_weeks a_mo_routes a_mo_turns a_mo_leave a_mo_leases a_mo_uses a_mo_arcFrom a_mo_arcTo a_mo_arcRoom a_mo_arcCost a_mo_far a_mo_by a_mo_best a_mo_kept m_arcs m_tapeMany m_tokenKind m_tokenAt m_tokenEnd m_tokenValue m_fault m_seen m_isKept m_place m_tape) H locs → ∀ ls : Array Slot, lv_has ls 2 [(0, .ref a_mo), (1, .int v1)] → W p l e rmX7_advance s m args below meth c H locs 0 0 (QV G A below args s (wX7_advance G a_mo a_mo_tape a_mo_numbers a_mo_boxes a_mo_words a_mo_weeks a_mo_routes a_mo_turns a_mo_leave a_mo_leases a_mo_uses a_mo_arcFrom a_mo_arcTo a_mo_arcRoom a_mo_arcCost a_mo_far a_mo_by a_mo_best a_mo_kept m_arcs m_tapeMany res.1 res.2.1 res.2.2.1 res.2.2.2 m_fault m_seen m_isKept m_place m_tape)) (F0 m 231 ls [.int t1, .ref a_mo]) := by
  obtain ⟨hx, hb, -⟩ := id X.1
  intro H locs hW ls hl
  rw [fX7_advance_231] at h
  refine g_put X hW (ws' := (wX7_advance G a_mo a_mo_tape a_mo_numbers a_mo_boxes a_mo_words a_mo_weeks a_mo_routes a_mo_turns a_mo_leave a_mo_leases a_mo_uses a_mo_arcFrom a_mo_arcTo a_mo_arcRoom a_mo_arcCost a_mo_far a_mo_by a_mo_best a_mo_kept m_arcs m_tapeMany m_tokenKind m_tokenAt m_tokenEnd t1 m_fault m_seen m_isKept m_place m_tape)) pX7_advance_156 0 rfl (Nat.le_of_ble_eq_true rfl) rfl rfl rfl dX7_advance_231 (fun H locs hW => ?_)
  refine lv_iinc (v := (v1 + (1 : Int32))) (lv' := [(1, .int (v1 + (1 : Int32))), (0, .ref a_mo)]) hx hb dX7_advance_234 hl (k := 1) rfl (congrArg (fun z => v1 + z) qI_1) (by decide) rfl (fun ls hl => ?_)
  refine lv_goto (tgt := 176) hx hb dX7_advance_237 (by decide) ?_
  exact Hk_176 (v1 + (1 : Int32)) t1 h H locs hW ls (lv_sub hl [1, 0] rfl)
set_option maxHeartbeats 4000000 in
set_option maxRecDepth 100000 in
theorem tX7_advance_176 (X : Bx p s m args meth c cX7_advance 2 wsX7_advance RX7 none) (m_tokenKind : Int32) (m_tokenAt : Int32) (m_tokenEnd : Int32) (k_258 : Int32 → Int32 → Option (Int32 × Int32 × Int32 × Int32)) (Hk_258 : ∀ (v1 : Int32) (m_tokenValue : Int32), k_258 v1 m_tokenValue = some res → ∀ (H : Heap) (locs : List Loc), Wo G A s (wX7_advance G a_mo a_mo_tape a_mo_numbers a_mo_boxes a_mo_words a_mo_weeks a_mo_routes a_mo_turns a_mo_leave a_mo_leases a_mo_uses a_mo_arcFrom a_mo_arcTo a_mo_arcRoom a_mo_arcCost a_mo_far a_mo_by a_mo_best a_mo_kept m_arcs m_tapeMany m_tokenKind m_tokenAt m_tokenEnd m_tokenValue m_fault m_seen m_isKept m_place m_tape) H locs → ∀ ls : Array Slot, lv_has ls 2 [(0, .ref a_mo), (1, .int v1)] → W p l e rmX7_advance s m args below meth c H locs 0 0 (QV G A below args s (wX7_advance G a_mo a_mo_tape a_mo_numbers a_mo_boxes a_mo_words a_mo_weeks a_mo_routes a_mo_turns a_mo_leave a_mo_leases a_mo_uses a_mo_arcFrom a_mo_arcTo a_mo_arcRoom a_mo_arcCost a_mo_far a_mo_by a_mo_best a_mo_kept m_arcs m_tapeMany res.1 res.2.1 res.2.2.1 res.2.2.2 m_fault m_seen m_isKept m_place m_tape)) (F0 m 258 ls [])) : ∀ (n : Nat) (v1 : Int32) (m_tokenValue : Int32), fX7_advance_176 m_tapeMany m_tokenAt m_tape k_258 n v1 m_tokenValue = some res → ∀ (H : Heap) (locs : List Loc), Wo G A s (wX7_advance G a_mo a_mo_tape a_mo_numbers a_mo_boxes a_mo_words a_mo_weeks a_mo_routes a_mo_turns a_mo_leave a_mo_leases a_mo_uses a_mo_arcFrom a_mo_arcTo a_mo_arcRoom a_mo_arcCost a_mo_far a_mo_by a_mo_best a_mo_kept m_arcs m_tapeMany m_tokenKind m_tokenAt m_tokenEnd m_tokenValue m_fault m_seen m_isKept m_place m_tape) H locs → ∀ ls : Array Slot, lv_has ls 2 [(0, .ref a_mo), (1, .int v1)] → W p l e rmX7_advance s m args below meth c H locs 0 0 (QV G A below args s (wX7_advance G a_mo a_mo_tape a_mo_numbers a_mo_boxes a_mo_words a_mo_weeks a_mo_routes a_mo_turns a_mo_leave a_mo_leases a_mo_uses a_mo_arcFrom a_mo_arcTo a_mo_arcRoom a_mo_arcCost a_mo_far a_mo_by a_mo_best a_mo_kept m_arcs m_tapeMany res.1 res.2.1 res.2.2.1 res.2.2.2 m_fault m_seen m_isKept m_place m_tape)) (F0 m 176 ls []) := by
  obtain ⟨hx, hb, -⟩ := id X.1
  intro n
  induction n with
  | zero => intro v1 m_tokenValue h; rw [fX7_advance_176] at h; cases h
  | succ n ih =>
    intro v1 m_tokenValue h H locs hW ls hl
    rw [fX7_advance_176] at h
    refine lv_iload_n hx hb dX7_advance_176 rfl (lv_at hl 1 rfl) ?_
    refine lv_aload_n hx hb dX7_advance_177 rfl (lv_at hl 0 rfl) ?_
    refine g_get X hW eX7_advance_145 0 rfl rfl dX7_advance_178 ?_
    refine lv_icmp_ge (tgt := 258) hx hb dX7_advance_181 (by decide) (fun c11 => ?_) (fun c11 => ?_)
    · have h := (if_pos c11).symm.trans h
      exact Hk_258 v1 m_tokenValue h H locs hW ls hl
    · have h := (if_neg c11).symm.trans h
      refine lv_aload_n hx hb dX7_advance_184 rfl (lv_at hl 0 rfl) ?_
      refine g_get X hW eX7_advance_58 0 rfl rfl dX7_advance_185 ?_
      refine lv_iload_n hx hb dX7_advance_188 rfl (lv_at hl 1 rfl) ?_
      obtain ⟨g15, h⟩ := gd_some h
      refine g_ald X hW 1 rfl g15 dX7_advance_189 ?_
      obtain ⟨r16, hq, h⟩ := bn1_some h
      refine g_csi X hW (As := [.int (m_tape v1.toNatClampNeg)]) (ws' := (wX7_advance G a_mo a_mo_tape a_mo_numbers a_mo_boxes a_mo_words a_mo_weeks a_mo_routes a_mo_turns a_mo_leave a_mo_leases a_mo_uses a_mo_arcFrom a_mo_arcTo a_mo_arcRoom a_mo_arcCost a_mo_far a_mo_by a_mo_best a_mo_kept m_arcs m_tapeMany m_tokenKind m_tokenAt m_tokenEnd m_tokenValue m_fault m_seen m_isKept m_place m_tape)) ckX7_advance_X7_isDigit_165 (kcX7_isDigit (l := l) G (m_tape v1.toNatClampNeg) hq) ⟨rfl, rfl, Nat.le_of_ble_eq_true rfl, Nat.le_of_ble_eq_true rfl⟩ [] rfl rfl rfl rfl rfl rfl hl.1 (Nat.le_of_ble_eq_true rfl) ⟨Nat.zero_le _, Nat.zero_le _⟩ dX7_advance_190 (fun H locs hW => ?_)
      refine lv_if_eq (tgt := 258) hx hb dX7_advance_193 (by decide) (fun c17 => ?_) (fun c17 => ?_)
      · have h := (if_pos c17).symm.trans h
        exact Hk_258 v1 m_tokenValue h H locs hW ls hl
      · have h := (if_neg c17).symm.trans h
        refine lv_aload_n hx hb dX7_advance_196 rfl (lv_at hl 0 rfl) ?_
        refine lv_iload_n hx hb dX7_advance_197 rfl (lv_at hl 1 rfl) ?_
        refine lv_aload_n hx hb dX7_advance_198 rfl (lv_at hl 0 rfl) ?_
        refine g_get X hW eX7_advance_153 0 rfl rfl dX7_advance_199 ?_
        refine lv_isub hx hb dX7_advance_202 ?_
        refine lv_iconst hx hb dX7_advance_203 qI_3 ?_
        refine lv_icmp_ge (tgt := 227) hx hb dX7_advance_204 (by decide) (fun c24 => ?_) (fun c24 => ?_)
        · have h := (if_pos c24).symm.trans h
          refine lv_aload_n hx hb dX7_advance_227 rfl (lv_at hl 0 rfl) ?_
          refine g_get X hW eX7_advance_156 0 rfl rfl dX7_advance_228 ?_
          exact tX7_advance_231 X v1 m_tokenValue m_tokenKind m_tokenAt m_tokenEnd m_tokenValue (fun v1 m_tokenValue => fX7_advance_176 m_tapeMany m_tokenAt m_tape k_258 n v1 m_tokenValue) ih h H locs hW ls hl
        · have h := (if_neg c24).symm.trans h
          refine lv_bipush hx hb dX7_advance_207 qB_10 ?_
          refine lv_aload_n hx hb dX7_advance_209 rfl (lv_at hl 0 rfl) ?_
          refine g_get X hW eX7_advance_156 0 rfl rfl dX7_advance_210 ?_
          refine lv_imul hx hb dX7_advance_213 ?_
          refine lv_aload_n hx hb dX7_advance_214 rfl (lv_at hl 0 rfl) ?_
          refine g_get X hW eX7_advance_58 0 rfl rfl dX7_advance_215 ?_
          refine lv_iload_n hx hb dX7_advance_218 rfl (lv_at hl 1 rfl) ?_
          obtain ⟨g34, h⟩ := gd_some h
          refine g_ald X hW 1 rfl g34 dX7_advance_219 ?_
          refine lv_iadd hx hb dX7_advance_220 ?_
          refine lv_bipush hx hb dX7_advance_221 qB_48 ?_
          refine lv_isub hx hb dX7_advance_223 ?_
          refine lv_goto (tgt := 231) hx hb dX7_advance_224 (by decide) ?_
          exact tX7_advance_231 X v1 ((((10 : Int32) * m_tokenValue) + (m_tape v1.toNatClampNeg)) - (48 : Int32)) m_tokenKind m_tokenAt m_tokenEnd m_tokenValue (fun v1 m_tokenValue => fX7_advance_176 m_tapeMany m_tokenAt m_tape k_258 n v1 m_tokenValue) ih h H locs hW ls hl
set_option maxHeartbeats 4000000 in
set_option maxRecDepth 100000 in
theorem tX7_advance_153 (X : Bx p s m args meth c cX7_advance 2 wsX7_advance RX7 none) (v1 : Int32) (t1 : Int32) (m_tokenKind : Int32) (m_tokenAt : Int32) (m_tokenEnd : Int32) (m_tokenValue : Int32)   (h : fX7_advance_153 v1 t1 m_tokenKind m_tokenAt = some res) : ∀ (H : Heap) (locs : List Loc), Wo G A s (wX7_advance G a_mo a_mo_tape a_mo_numbers a_mo_boxes a_mo_words a_mo_weeks a_mo_routes a_mo_turns a_mo_leave a_mo_leases a_mo_uses a_mo_arcFrom a_mo_arcTo a_mo_arcRoom a_mo_arcCost a_mo_far a_mo_by a_mo_best a_mo_kept m_arcs m_tapeMany m_tokenKind m_tokenAt m_tokenEnd m_tokenValue m_fault m_seen m_isKept m_place m_tape) H locs → ∀ ls : Array Slot, lv_has ls 2 [(0, .ref a_mo), (1, .int v1)] → W p l e rmX7_advance s m args below meth c H locs 0 0 (QV G A below args s (wX7_advance G a_mo a_mo_tape a_mo_numbers a_mo_boxes a_mo_words a_mo_weeks a_mo_routes a_mo_turns a_mo_leave a_mo_leases a_mo_uses a_mo_arcFrom a_mo_arcTo a_mo_arcRoom a_mo_arcCost a_mo_far a_mo_by a_mo_best a_mo_kept m_arcs m_tapeMany res.1 res.2.1 res.2.2.1 res.2.2.2 m_fault m_seen m_isKept m_place m_tape)) (F0 m 153 ls [.int t1, .ref a_mo]) := by
  obtain ⟨hx, hb, -⟩ := id X.1
  intro H locs hW ls hl
  rw [fX7_advance_153] at h
  refine g_put X hW (ws' := (wX7_advance G a_mo a_mo_tape a_mo_numbers a_mo_boxes a_mo_words a_mo_weeks a_mo_routes a_mo_turns a_mo_leave a_mo_leases a_mo_uses a_mo_arcFrom a_mo_arcTo a_mo_arcRoom a_mo_arcCost a_mo_far a_mo_by a_mo_best a_mo_kept m_arcs m_tapeMany m_tokenKind m_tokenAt m_tokenEnd t1 m_fault m_seen m_isKept m_place m_tape)) pX7_advance_156 0 rfl (Nat.le_of_ble_eq_true rfl) rfl rfl rfl dX7_advance_153 (fun H locs hW => ?_)
  refine lv_goto (tgt := 258) hx hb dX7_advance_156 (by decide) ?_
  exact tX7_advance_258 X v1 m_tokenKind m_tokenAt m_tokenEnd t1 h H locs hW ls hl
set_option maxHeartbeats 4000000 in
set_option maxRecDepth 100000 in
theorem tX7_advance_134 (X : Bx p s m args meth c cX7_advance 2 wsX7_advance RX7 none) (v1 : Int32) (m_tokenKind : Int32) (m_tokenAt : Int32) (m_tokenEnd : Int32) (m_tokenValue : Int32)   (h : fX7_advance_134 v1 m_tokenKind m_tokenAt m_tokenValue = some res) : ∀ (H : Heap) (locs : List Loc), Wo G A s (wX7_advance G a_mo a_mo_tape a_mo_numbers a_mo_boxes a_mo_words a_mo_weeks a_mo_routes a_mo_turns a_mo_leave a_mo_leases a_mo_uses a_mo_arcFrom a_mo_arcTo a_mo_arcRoom a_mo_arcCost a_mo_far a_mo_by a_mo_best a_mo_kept m_arcs m_tapeMany m_tokenKind m_tokenAt m_tokenEnd m_tokenValue m_fault m_seen m_isKept m_place m_tape) H locs → ∀ ls : Array Slot, lv_has ls 2 [(0, .ref a_mo), (1, .int v1)] → W p l e rmX7_advance s m args below meth c H locs 0 0 (QV G A below args s (wX7_advance G a_mo a_mo_tape a_mo_numbers a_mo_boxes a_mo_words a_mo_weeks a_mo_routes a_mo_turns a_mo_leave a_mo_leases a_mo_uses a_mo_arcFrom a_mo_arcTo a_mo_arcRoom a_mo_arcCost a_mo_far a_mo_by a_mo_best a_mo_kept m_arcs m_tapeMany res.1 res.2.1 res.2.2.1 res.2.2.2 m_fault m_seen m_isKept m_place m_tape)) (F0 m 134 ls []) := by
  obtain ⟨hx, hb, -⟩ := id X.1
  intro H locs hW ls hl
  rw [fX7_advance_134] at h
  refine lv_aload_n hx hb dX7_advance_134 rfl (lv_at hl 0 rfl) ?_
  refine lv_iload_n hx hb dX7_advance_135 rfl (lv_at hl 1 rfl) ?_
  refine lv_aload_n hx hb dX7_advance_136 rfl (lv_at hl 0 rfl) ?_
  refine g_get X hW eX7_advance_153 0 rfl rfl dX7_advance_137 ?_
  refine lv_isub hx hb dX7_advance_140 ?_
  refine lv_iconst hx hb dX7_advance_141 qI_5 ?_
  refine lv_icmp_le (tgt := 149) hx hb dX7_advance_142 (by decide) (fun c47 => ?_) (fun c47 => ?_)
  · have h := (if_pos c47).symm.trans h
    refine lv_aload_n hx hb dX7_advance_149 rfl (lv_at hl 0 rfl) ?_
    refine g_get X hW eX7_advance_156 0 rfl rfl dX7_advance_150 ?_
    exact tX7_advance_153 X v1 m_tokenValue m_tokenKind m_tokenAt m_tokenEnd m_tokenValue h H locs hW ls hl
  · have h := (if_neg c47).symm.trans h
    refine lv_iconst hx hb dX7_advance_145 qI_0 ?_
    refine lv_goto (tgt := 153) hx hb dX7_advance_146 (by decide) ?_
    exact tX7_advance_153 X v1 (0 : Int32) m_tokenKind m_tokenAt m_tokenEnd m_tokenValue h H locs hW ls hl
set_option maxHeartbeats 4000000 in
set_option maxRecDepth 100000 in
theorem tX7_advance_125 (X : Bx p s m args meth c cX7_advance 2 wsX7_advance RX7 none) (v1 : Int32) (t1 : Int32) (m_tokenKind : Int32) (m_tokenAt : Int32) (m_tokenEnd : Int32) (m_tokenValue : Int32) (k_73 : Int32 → Int32 → Option (Int32 × Int32 × Int32 × Int32)) (Hk_73 : ∀ (v1 : Int32) (m_tokenValue : Int32), k_73 v1 m_tokenValue = some res → ∀ (H : Heap) (locs : List Loc), Wo G A s (wX7_advance G a_mo a_mo_tape a_mo_numbers a_mo_boxes a_mo_words a_mo_weeks a_mo_routes a_mo_turns a_mo_leave a_mo_leases a_mo_uses a_mo_arcFrom a_mo_arcTo a_mo_arcRoom a_mo_arcCost a_mo_far a_mo_by a_mo_best a_mo_kept m_arcs m_tapeMany m_tokenKind m_tokenAt m_tokenEnd m_tokenValue m_fault m_seen m_isKept m_place m_tape) H locs → ∀ ls : Array Slot, lv_has ls 2 [(0, .ref a_mo), (1, .int v1)] → W p l e rmX7_advance s m args below meth c H locs 0 0 (QV G A below args s (wX7_advance G a_mo a_mo_tape a_mo_numbers a_mo_boxes a_mo_words a_mo_weeks a_mo_routes a_mo_turns a_mo_leave a_mo_leases a_mo_uses a_mo_arcFrom a_mo_arcTo a_mo_arcRoom a_mo_arcCost a_mo_far a_mo_by a_mo_best a_mo_kept m_arcs m_tapeMany res.1 res.2.1 res.2.2.1 res.2.2.2 m_fault m_seen m_isKept m_place m_tape)) (F0 m 73 ls [])) (h : fX7_advance_125 k_73 v1 t1 = some res) : ∀ (H : Heap) (locs : List Loc), Wo G A s (wX7_advance G a_mo a_mo_tape a_mo_numbers a_mo_boxes a_mo_words a_mo_weeks a_mo_routes a_mo_turns a_mo_leave a_mo_leases a_mo_uses a_mo_arcFrom a_mo_arcTo a_mo_arcRoom a_mo_arcCost a_mo_far a_mo_by a_mo_best a_mo_kept m_arcs m_tapeMany m_tokenKind m_tokenAt m_tokenEnd m_tokenValue m_fault m_seen m_isKept m_place m_tape) H locs → ∀ ls : Array Slot, lv_has ls 2 [(0, .ref a_mo), (1, .int v1)] → W p l e rmX7_advance s m args below meth c H locs 0 0 (QV G A below args s (wX7_advance G a_mo a_mo_tape a_mo_numbers a_mo_boxes a_mo_words a_mo_weeks a_mo_routes a_mo_turns a_mo_leave a_mo_leases a_mo_uses a_mo_arcFrom a_mo_arcTo a_mo_arcRoom a_mo_arcCost a_mo_far a_mo_by a_mo_best a_mo_kept m_arcs m_tapeMany res.1 res.2.1 res.2.2.1 res.2.2.2 m_fault m_seen m_isKept m_place m_tape)) (F0 m 125 ls [.int t1, .ref a_mo]) := by
  obtain ⟨hx, hb, -⟩ := id X.1
  intro H locs hW ls hl
  rw [fX7_advance_125] at h
  refine g_put X hW (ws' := (wX7_advance G a_mo a_mo_tape a_mo_numbers a_mo_boxes a_mo_words a_mo_weeks a_mo_routes a_mo_turns a_mo_leave a_mo_leases a_mo_uses a_mo_arcFrom a_mo_arcTo a_mo_arcRoom a_mo_arcCost a_mo_far a_mo_by a_mo_best a_mo_kept m_arcs m_tapeMany m_tokenKind m_tokenAt m_tokenEnd t1 m_fault m_seen m_isKept m_place m_tape)) pX7_advance_156 0 rfl (Nat.le_of_ble_eq_true rfl) rfl rfl rfl dX7_advance_125 (fun H locs hW => ?_)
  refine lv_iinc (v := (v1 + (1 : Int32))) (lv' := [(1, .int (v1 + (1 : Int32))), (0, .ref a_mo)]) hx hb dX7_advance_128 hl (k := 1) rfl (congrArg (fun z => v1 + z) qI_1) (by decide) rfl (fun ls hl => ?_)
  refine lv_goto (tgt := 73) hx hb dX7_advance_131 (by decide) ?_
  exact Hk_73 (v1 + (1 : Int32)) t1 h H locs hW ls (lv_sub hl [1, 0] rfl)
set_option maxHeartbeats 4000000 in
set_option maxRecDepth 100000 in
theorem tX7_advance_73 (X : Bx p s m args meth c cX7_advance 2 wsX7_advance RX7 none) (m_tokenKind : Int32) (m_tokenAt : Int32) (m_tokenEnd : Int32) (k_134 : Int32 → Int32 → Option (Int32 × Int32 × Int32 × Int32)) (Hk_134 : ∀ (v1 : Int32) (m_tokenValue : Int32), k_134 v1 m_tokenValue = some res → ∀ (H : Heap) (locs : List Loc), Wo G A s (wX7_advance G a_mo a_mo_tape a_mo_numbers a_mo_boxes a_mo_words a_mo_weeks a_mo_routes a_mo_turns a_mo_leave a_mo_leases a_mo_uses a_mo_arcFrom a_mo_arcTo a_mo_arcRoom a_mo_arcCost a_mo_far a_mo_by a_mo_best a_mo_kept m_arcs m_tapeMany m_tokenKind m_tokenAt m_tokenEnd m_tokenValue m_fault m_seen m_isKept m_place m_tape) H locs → ∀ ls : Array Slot, lv_has ls 2 [(0, .ref a_mo), (1, .int v1)] → W p l e rmX7_advance s m args below meth c H locs 0 0 (QV G A below args s (wX7_advance G a_mo a_mo_tape a_mo_numbers a_mo_boxes a_mo_words a_mo_weeks a_mo_routes a_mo_turns a_mo_leave a_mo_leases a_mo_uses a_mo_arcFrom a_mo_arcTo a_mo_arcRoom a_mo_arcCost a_mo_far a_mo_by a_mo_best a_mo_kept m_arcs m_tapeMany res.1 res.2.1 res.2.2.1 res.2.2.2 m_fault m_seen m_isKept m_place m_tape)) (F0 m 134 ls [])) : ∀ (n : Nat) (v1 : Int32) (m_tokenValue : Int32), fX7_advance_73 m_tapeMany m_tokenAt m_tape k_134 n v1 m_tokenValue = some res → ∀ (H : Heap) (locs : List Loc), Wo G A s (wX7_advance G a_mo a_mo_tape a_mo_numbers a_mo_boxes a_mo_words a_mo_weeks a_mo_routes a_mo_turns a_mo_leave a_mo_leases a_mo_uses a_mo_arcFrom a_mo_arcTo a_mo_arcRoom a_mo_arcCost a_mo_far a_mo_by a_mo_best a_mo_kept m_arcs m_tapeMany m_tokenKind m_tokenAt m_tokenEnd m_tokenValue m_fault m_seen m_isKept m_place m_tape) H locs → ∀ ls : Array Slot, lv_has ls 2 [(0, .ref a_mo), (1, .int v1)] → W p l e rmX7_advance s m args below meth c H locs 0 0 (QV G A below args s (wX7_advance G a_mo a_mo_tape a_mo_numbers a_mo_boxes a_mo_words a_mo_weeks a_mo_routes a_mo_turns a_mo_leave a_mo_leases a_mo_uses a_mo_arcFrom a_mo_arcTo a_mo_arcRoom a_mo_arcCost a_mo_far a_mo_by a_mo_best a_mo_kept m_arcs m_tapeMany res.1 res.2.1 res.2.2.1 res.2.2.2 m_fault m_seen m_isKept m_place m_tape)) (F0 m 73 ls []) := by
  obtain ⟨hx, hb, -⟩ := id X.1
  intro n
  induction n with
  | zero => intro v1 m_tokenValue h; rw [fX7_advance_73] at h; cases h
  | succ n ih =>
    intro v1 m_tokenValue h H locs hW ls hl
    rw [fX7_advance_73] at h
    refine lv_iload_n hx hb dX7_advance_73 rfl (lv_at hl 1 rfl) ?_
    refine lv_aload_n hx hb dX7_advance_74 rfl (lv_at hl 0 rfl) ?_
    refine g_get X hW eX7_advance_145 0 rfl rfl dX7_advance_75 ?_
    refine lv_icmp_ge (tgt := 134) hx hb dX7_advance_78 (by decide) (fun c58 => ?_) (fun c58 => ?_)
    · have h := (if_pos c58).symm.trans h
      exact Hk_134 v1 m_tokenValue h H locs hW ls hl
    · have h := (if_neg c58).symm.trans h
      refine lv_aload_n hx hb dX7_advance_81 rfl (lv_at hl 0 rfl) ?_
      refine g_get X hW eX7_advance_58 0 rfl rfl dX7_advance_82 ?_
      refine lv_iload_n hx hb dX7_advance_85 rfl (lv_at hl 1 rfl) ?_
      obtain ⟨g62, h⟩ := gd_some h
      refine g_ald X hW 1 rfl g62 dX7_advance_86 ?_
      obtain ⟨r63, hq, h⟩ := bn1_some h
      refine g_csi X hW (As := [.int (m_tape v1.toNatClampNeg)]) (ws' := (wX7_advance G a_mo a_mo_tape a_mo_numbers a_mo_boxes a_mo_words a_mo_weeks a_mo_routes a_mo_turns a_mo_leave a_mo_leases a_mo_uses a_mo_arcFrom a_mo_arcTo a_mo_arcRoom a_mo_arcCost a_mo_far a_mo_by a_mo_best a_mo_kept m_arcs m_tapeMany m_tokenKind m_tokenAt m_tokenEnd m_tokenValue m_fault m_seen m_isKept m_place m_tape)) ckX7_advance_X7_isLetter_162 (kcX7_isLetter (l := l) G (m_tape v1.toNatClampNeg) hq) ⟨rfl, rfl, Nat.le_of_ble_eq_true rfl, Nat.le_of_ble_eq_true rfl⟩ [] rfl rfl rfl rfl rfl rfl hl.1 (Nat.le_of_ble_eq_true rfl) ⟨Nat.zero_le _, Nat.zero_le _⟩ dX7_advance_87 (fun H locs hW => ?_)
      refine lv_if_eq (tgt := 134) hx hb dX7_advance_90 (by decide) (fun c64 => ?_) (fun c64 => ?_)
      · have h := (if_pos c64).symm.trans h
        exact Hk_134 v1 m_tokenValue h H locs hW ls hl
      · have h := (if_neg c64).symm.trans h
        refine lv_aload_n hx hb dX7_advance_93 rfl (lv_at hl 0 rfl) ?_
        refine lv_iload_n hx hb dX7_advance_94 rfl (lv_at hl 1 rfl) ?_
        refine lv_aload_n hx hb dX7_advance_95 rfl (lv_at hl 0 rfl) ?_
        refine g_get X hW eX7_advance_153 0 rfl rfl dX7_advance_96 ?_
        refine lv_isub hx hb dX7_advance_99 ?_
        refine lv_iconst hx hb dX7_advance_100 qI_5 ?_
        refine lv_icmp_ge (tgt := 124) hx hb dX7_advance_101 (by decide) (fun c71 => ?_) (fun c71 => ?_)
        · have h := (if_pos c71).symm.trans h
          refine lv_iconst hx hb dX7_advance_124 qI_0 ?_
          exact tX7_advance_125 X v1 (0 : Int32) m_tokenKind m_tokenAt m_tokenEnd m_tokenValue (fun v1 m_tokenValue => fX7_advance_73 m_tapeMany m_tokenAt m_tape k_134 n v1 m_tokenValue) ih h H locs hW ls hl
        · have h := (if_neg c71).symm.trans h
          refine lv_bipush hx hb dX7_advance_104 qB_27 ?_
          refine lv_aload_n hx hb dX7_advance_106 rfl (lv_at hl 0 rfl) ?_
          refine g_get X hW eX7_advance_156 0 rfl rfl dX7_advance_107 ?_
          refine lv_imul hx hb dX7_advance_110 ?_
          refine lv_aload_n hx hb dX7_advance_111 rfl (lv_at hl 0 rfl) ?_
          refine g_get X hW eX7_advance_58 0 rfl rfl dX7_advance_112 ?_
          refine lv_iload_n hx hb dX7_advance_115 rfl (lv_at hl 1 rfl) ?_
          obtain ⟨g80, h⟩ := gd_some h
          refine g_ald X hW 1 rfl g80 dX7_advance_116 ?_
          refine lv_iadd hx hb dX7_advance_117 ?_
          refine lv_bipush hx hb dX7_advance_118 qB_96 ?_
          refine lv_isub hx hb dX7_advance_120 ?_
          refine lv_goto (tgt := 125) hx hb dX7_advance_121 (by decide) ?_
          exact tX7_advance_125 X v1 ((((27 : Int32) * m_tokenValue) + (m_tape v1.toNatClampNeg)) - (96 : Int32)) m_tokenKind m_tokenAt m_tokenEnd m_tokenValue (fun v1 m_tokenValue => fX7_advance_73 m_tapeMany m_tokenAt m_tape k_134 n v1 m_tokenValue) ih h H locs hW ls hl
set_option maxHeartbeats 4000000 in
set_option maxRecDepth 100000 in
theorem tX7_advance_30 (X : Bx p s m args meth c cX7_advance 2 wsX7_advance RX7 none) (v1 : Int32) (m_tokenKind : Int32) (m_tokenAt : Int32) (m_tokenEnd : Int32) (m_tokenValue : Int32)   (h : fX7_advance_30 v1 m_tapeMany m_tape = some res) : ∀ (H : Heap) (locs : List Loc), Wo G A s (wX7_advance G a_mo a_mo_tape a_mo_numbers a_mo_boxes a_mo_words a_mo_weeks a_mo_routes a_mo_turns a_mo_leave a_mo_leases a_mo_uses a_mo_arcFrom a_mo_arcTo a_mo_arcRoom a_mo_arcCost a_mo_far a_mo_by a_mo_best a_mo_kept m_arcs m_tapeMany m_tokenKind m_tokenAt m_tokenEnd m_tokenValue m_fault m_seen m_isKept m_place m_tape) H locs → ∀ ls : Array Slot, lv_has ls 2 [(0, .ref a_mo), (1, .int v1)] → W p l e rmX7_advance s m args below meth c H locs 0 0 (QV G A below args s (wX7_advance G a_mo a_mo_tape a_mo_numbers a_mo_boxes a_mo_words a_mo_weeks a_mo_routes a_mo_turns a_mo_leave a_mo_leases a_mo_uses a_mo_arcFrom a_mo_arcTo a_mo_arcRoom a_mo_arcCost a_mo_far a_mo_by a_mo_best a_mo_kept m_arcs m_tapeMany res.1 res.2.1 res.2.2.1 res.2.2.2 m_fault m_seen m_isKept m_place m_tape)) (F0 m 30 ls []) := by
  obtain ⟨hx, hb, -⟩ := id X.1
  intro H locs hW ls hl
  rw [fX7_advance_30] at h
  refine lv_aload_n hx hb dX7_advance_30 rfl (lv_at hl 0 rfl) ?_
  refine lv_iload_n hx hb dX7_advance_31 rfl (lv_at hl 1 rfl) ?_
  refine g_put X hW (ws' := (wX7_advance G a_mo a_mo_tape a_mo_numbers a_mo_boxes a_mo_words a_mo_weeks a_mo_routes a_mo_turns a_mo_leave a_mo_leases a_mo_uses a_mo_arcFrom a_mo_arcTo a_mo_arcRoom a_mo_arcCost a_mo_far a_mo_by a_mo_best a_mo_kept m_arcs m_tapeMany m_tokenKind v1 m_tokenEnd m_tokenValue m_fault m_seen m_isKept m_place m_tape)) pX7_advance_153 0 rfl (Nat.le_of_ble_eq_true rfl) rfl rfl rfl dX7_advance_32 (fun H locs hW => ?_)
  refine lv_aload_n hx hb dX7_advance_35 rfl (lv_at hl 0 rfl) ?_
  refine lv_iconst hx hb dX7_advance_36 qI_0 ?_
  refine g_put X hW (ws' := (wX7_advance G a_mo a_mo_tape a_mo_numbers a_mo_boxes a_mo_words a_mo_weeks a_mo_routes a_mo_turns a_mo_leave a_mo_leases a_mo_uses a_mo_arcFrom a_mo_arcTo a_mo_arcRoom a_mo_arcCost a_mo_far a_mo_by a_mo_best a_mo_kept m_arcs m_tapeMany m_tokenKind v1 m_tokenEnd (0 : Int32) m_fault m_seen m_isKept m_place m_tape)) pX7_advance_156 0 rfl (Nat.le_of_ble_eq_true rfl) rfl rfl rfl dX7_advance_37 (fun H locs hW => ?_)
  refine lv_iload_n hx hb dX7_advance_40 rfl (lv_at hl 1 rfl) ?_
  refine lv_aload_n hx hb dX7_advance_41 rfl (lv_at hl 0 rfl) ?_
  refine g_get X hW eX7_advance_145 0 rfl rfl dX7_advance_42 ?_
  refine lv_icmp_ne (tgt := 56) hx hb dX7_advance_45 (by decide) (fun c94 => ?_) (fun c94 => ?_)
  · have h := (if_neg c94).symm.trans h
    refine lv_aload_n hx hb dX7_advance_56 rfl (lv_at hl 0 rfl) ?_
    refine g_get X hW eX7_advance_58 0 rfl rfl dX7_advance_57 ?_
    refine lv_iload_n hx hb dX7_advance_60 rfl (lv_at hl 1 rfl) ?_
    obtain ⟨g98, h⟩ := gd_some h
    refine g_ald X hW 1 rfl g98 dX7_advance_61 ?_
    obtain ⟨r99, hq, h⟩ := bn1_some h
    refine g_csi X hW (As := [.int (m_tape v1.toNatClampNeg)]) (ws' := (wX7_advance G a_mo a_mo_tape a_mo_numbers a_mo_boxes a_mo_words a_mo_weeks a_mo_routes a_mo_turns a_mo_leave a_mo_leases a_mo_uses a_mo_arcFrom a_mo_arcTo a_mo_arcRoom a_mo_arcCost a_mo_far a_mo_by a_mo_best a_mo_kept m_arcs m_tapeMany m_tokenKind v1 m_tokenEnd (0 : Int32) m_fault m_seen m_isKept m_place m_tape)) ckX7_advance_X7_isLetter_162 (kcX7_isLetter (l := l) G (m_tape v1.toNatClampNeg) hq) ⟨rfl, rfl, Nat.le_of_ble_eq_true rfl, Nat.le_of_ble_eq_true rfl⟩ [] rfl rfl rfl rfl rfl rfl hl.1 (Nat.le_of_ble_eq_true rfl) ⟨Nat.zero_le _, Nat.zero_le _⟩ dX7_advance_62 (fun H locs hW => ?_)
    refine lv_if_eq (tgt := 159) hx hb dX7_advance_65 (by decide) (fun c100 => ?_) (fun c100 => ?_)
    · have h := (if_pos c100).symm.trans h
      refine lv_aload_n hx hb dX7_advance_159 rfl (lv_at hl 0 rfl) ?_
      refine g_get X hW eX7_advance_58 0 rfl rfl dX7_advance_160 ?_
      refine lv_iload_n hx hb dX7_advance_163 rfl (lv_at hl 1 rfl) ?_
      obtain ⟨g104, h⟩ := gd_some h
      refine g_ald X hW 1 rfl g104 dX7_advance_164 ?_
      obtain ⟨r105, hq, h⟩ := bn1_some h
      refine g_csi X hW (As := [.int (m_tape v1.toNatClampNeg)]) (ws' := (wX7_advance G a_mo a_mo_tape a_mo_numbers a_mo_boxes a_mo_words a_mo_weeks a_mo_routes a_mo_turns a_mo_leave a_mo_leases a_mo_uses a_mo_arcFrom a_mo_arcTo a_mo_arcRoom a_mo_arcCost a_mo_far a_mo_by a_mo_best a_mo_kept m_arcs m_tapeMany m_tokenKind v1 m_tokenEnd (0 : Int32) m_fault m_seen m_isKept m_place m_tape)) ckX7_advance_X7_isDigit_165 (kcX7_isDigit (l := l) G (m_tape v1.toNatClampNeg) hq) ⟨rfl, rfl, Nat.le_of_ble_eq_true rfl, Nat.le_of_ble_eq_true rfl⟩ [] rfl rfl rfl rfl rfl rfl hl.1 (Nat.le_of_ble_eq_true rfl) ⟨Nat.zero_le _, Nat.zero_le _⟩ dX7_advance_165 (fun H locs hW => ?_)
      refine lv_if_eq (tgt := 240) hx hb dX7_advance_168 (by decide) (fun c106 => ?_) (fun c106 => ?_)
      · have h := (if_pos c106).symm.trans h
        refine lv_aload_n hx hb dX7_advance_240 rfl (lv_at hl 0 rfl) ?_
        refine lv_iconst hx hb dX7_advance_241 qI_3 ?_
        refine g_put X hW (ws' := (wX7_advance G a_mo a_mo_tape a_mo_numbers a_mo_boxes a_mo_words a_mo_weeks a_mo_routes a_mo_turns a_mo_leave a_mo_leases a_mo_uses a_mo_arcFrom a_mo_arcTo a_mo_arcRoom a_mo_arcCost a_mo_far a_mo_by a_mo_best a_mo_kept m_arcs m_tapeMany (3 : Int32) v1 m_tokenEnd (0 : Int32) m_fault m_seen m_isKept m_place m_tape)) pX7_advance_159 0 rfl (Nat.le_of_ble_eq_true rfl) rfl rfl rfl dX7_advance_242 (fun H locs hW => ?_)
        refine lv_aload_n hx hb dX7_advance_245 rfl (lv_at hl 0 rfl) ?_
        refine lv_aload_n hx hb dX7_advance_246 rfl (lv_at hl 0 rfl) ?_
        refine g_get X hW eX7_advance_58 0 rfl rfl dX7_advance_247 ?_
        refine lv_iload_n hx hb dX7_advance_250 rfl (lv_at hl 1 rfl) ?_
        obtain ⟨g114, h⟩ := gd_some h
        refine g_ald X hW 1 rfl g114 dX7_advance_251 ?_
        refine g_put X hW (ws' := (wX7_advance G a_mo a_mo_tape a_mo_numbers a_mo_boxes a_mo_words a_mo_weeks a_mo_routes a_mo_turns a_mo_leave a_mo_leases a_mo_uses a_mo_arcFrom a_mo_arcTo a_mo_arcRoom a_mo_arcCost a_mo_far a_mo_by a_mo_best a_mo_kept m_arcs m_tapeMany (3 : Int32) v1 m_tokenEnd (m_tape v1.toNatClampNeg) m_fault m_seen m_isKept m_place m_tape)) pX7_advance_156 0 rfl (Nat.le_of_ble_eq_true rfl) rfl rfl rfl dX7_advance_252 (fun H locs hW => ?_)
        refine lv_iinc (v := (v1 + (1 : Int32))) (lv' := [(1, .int (v1 + (1 : Int32))), (0, .ref a_mo)]) hx hb dX7_advance_255 hl (k := 1) rfl (congrArg (fun z => v1 + z) qI_1) (by decide) rfl (fun ls hl => ?_)
        exact tX7_advance_258 X (v1 + (1 : Int32)) (3 : Int32) v1 m_tokenEnd (m_tape v1.toNatClampNeg) h H locs hW ls (lv_sub hl [1, 0] rfl)
      · have h := (if_neg c106).symm.trans h
        refine lv_aload_n hx hb dX7_advance_171 rfl (lv_at hl 0 rfl) ?_
        refine lv_iconst hx hb dX7_advance_172 qI_2 ?_
        refine g_put X hW (ws' := (wX7_advance G a_mo a_mo_tape a_mo_numbers a_mo_boxes a_mo_words a_mo_weeks a_mo_routes a_mo_turns a_mo_leave a_mo_leases a_mo_uses a_mo_arcFrom a_mo_arcTo a_mo_arcRoom a_mo_arcCost a_mo_far a_mo_by a_mo_best a_mo_kept m_arcs m_tapeMany (2 : Int32) v1 m_tokenEnd (0 : Int32) m_fault m_seen m_isKept m_place m_tape)) pX7_advance_159 0 rfl (Nat.le_of_ble_eq_true rfl) rfl rfl rfl dX7_advance_173 (fun H locs hW => ?_)
        exact tX7_advance_176 X (2 : Int32) v1 m_tokenEnd (fun v1_q120 m_tokenValue_q120 => fX7_advance_258 v1_q120 (2 : Int32) v1 m_tokenValue_q120) (fun v1_q120 m_tokenValue_q120 h H locs hW ls hl => by exact tX7_advance_258 X v1_q120 (2 : Int32) v1 m_tokenEnd m_tokenValue_q120 h H locs hW ls hl) FU v1 (0 : Int32) h H locs hW ls hl
    · have h := (if_neg c100).symm.trans h
      refine lv_aload_n hx hb dX7_advance_68 rfl (lv_at hl 0 rfl) ?_
      refine lv_iconst hx hb dX7_advance_69 qI_1 ?_
      refine g_put X hW (ws' := (wX7_advance G a_mo a_mo_tape a_mo_numbers a_mo_boxes a_mo_words a_mo_weeks a_mo_routes a_mo_turns a_mo_leave a_mo_leases a_mo_uses a_mo_arcFrom a_mo_arcTo a_mo_arcRoom a_mo_arcCost a_mo_far a_mo_by a_mo_best a_mo_kept m_arcs m_tapeMany (1 : Int32) v1 m_tokenEnd (0 : Int32) m_fault m_seen m_isKept m_place m_tape)) pX7_advance_159 0 rfl (Nat.le_of_ble_eq_true rfl) rfl rfl rfl dX7_advance_70 (fun H locs hW => ?_)
      exact tX7_advance_73 X (1 : Int32) v1 m_tokenEnd (fun v1_q124 m_tokenValue_q124 => fX7_advance_134 v1_q124 (1 : Int32) v1 m_tokenValue_q124) (fun v1_q124 m_tokenValue_q124 h H locs hW ls hl => by exact tX7_advance_134 X v1_q124 (1 : Int32) v1 m_tokenEnd m_tokenValue_q124 h H locs hW ls hl) FU v1 (0 : Int32) h H locs hW ls hl
  · have h := (if_pos c94).symm.trans h
    refine lv_aload_n hx hb dX7_advance_48 rfl (lv_at hl 0 rfl) ?_
    refine lv_iconst hx hb dX7_advance_49 qI_0 ?_
    refine g_put X hW (ws' := (wX7_advance G a_mo a_mo_tape a_mo_numbers a_mo_boxes a_mo_words a_mo_weeks a_mo_routes a_mo_turns a_mo_leave a_mo_leases a_mo_uses a_mo_arcFrom a_mo_arcTo a_mo_arcRoom a_mo_arcCost a_mo_far a_mo_by a_mo_best a_mo_kept m_arcs m_tapeMany (0 : Int32) v1 m_tokenEnd (0 : Int32) m_fault m_seen m_isKept m_place m_tape)) pX7_advance_159 0 rfl (Nat.le_of_ble_eq_true rfl) rfl rfl rfl dX7_advance_50 (fun H locs hW => ?_)
    refine lv_goto (tgt := 258) hx hb dX7_advance_53 (by decide) ?_
    exact tX7_advance_258 X v1 (0 : Int32) v1 m_tokenEnd (0 : Int32) h H locs hW ls hl
set_option maxHeartbeats 4000000 in
set_option maxRecDepth 100000 in
theorem tX7_advance_5 (X : Bx p s m args meth c cX7_advance 2 wsX7_advance RX7 none) (m_tokenKind : Int32) (m_tokenAt : Int32) (m_tokenEnd : Int32) (m_tokenValue : Int32) (k_30 : Int32 → Option (Int32 × Int32 × Int32 × Int32)) (Hk_30 : ∀ (v1 : Int32), k_30 v1 = some res → ∀ (H : Heap) (locs : List Loc), Wo G A s (wX7_advance G a_mo a_mo_tape a_mo_numbers a_mo_boxes a_mo_words a_mo_weeks a_mo_routes a_mo_turns a_mo_leave a_mo_leases a_mo_uses a_mo_arcFrom a_mo_arcTo a_mo_arcRoom a_mo_arcCost a_mo_far a_mo_by a_mo_best a_mo_kept m_arcs m_tapeMany m_tokenKind m_tokenAt m_tokenEnd m_tokenValue m_fault m_seen m_isKept m_place m_tape) H locs → ∀ ls : Array Slot, lv_has ls 2 [(0, .ref a_mo), (1, .int v1)] → W p l e rmX7_advance s m args below meth c H locs 0 0 (QV G A below args s (wX7_advance G a_mo a_mo_tape a_mo_numbers a_mo_boxes a_mo_words a_mo_weeks a_mo_routes a_mo_turns a_mo_leave a_mo_leases a_mo_uses a_mo_arcFrom a_mo_arcTo a_mo_arcRoom a_mo_arcCost a_mo_far a_mo_by a_mo_best a_mo_kept m_arcs m_tapeMany res.1 res.2.1 res.2.2.1 res.2.2.2 m_fault m_seen m_isKept m_place m_tape)) (F0 m 30 ls [])) : ∀ (n : Nat) (v1 : Int32), fX7_advance_5 m_tapeMany m_tape k_30 n v1 = some res → ∀ (H : Heap) (locs : List Loc), Wo G A s (wX7_advance G a_mo a_mo_tape a_mo_numbers a_mo_boxes a_mo_words a_mo_weeks a_mo_routes a_mo_turns a_mo_leave a_mo_leases a_mo_uses a_mo_arcFrom a_mo_arcTo a_mo_arcRoom a_mo_arcCost a_mo_far a_mo_by a_mo_best a_mo_kept m_arcs m_tapeMany m_tokenKind m_tokenAt m_tokenEnd m_tokenValue m_fault m_seen m_isKept m_place m_tape) H locs → ∀ ls : Array Slot, lv_has ls 2 [(0, .ref a_mo), (1, .int v1)] → W p l e rmX7_advance s m args below meth c H locs 0 0 (QV G A below args s (wX7_advance G a_mo a_mo_tape a_mo_numbers a_mo_boxes a_mo_words a_mo_weeks a_mo_routes a_mo_turns a_mo_leave a_mo_leases a_mo_uses a_mo_arcFrom a_mo_arcTo a_mo_arcRoom a_mo_arcCost a_mo_far a_mo_by a_mo_best a_mo_kept m_arcs m_tapeMany res.1 res.2.1 res.2.2.1 res.2.2.2 m_fault m_seen m_isKept m_place m_tape)) (F0 m 5 ls []) := by
  obtain ⟨hx, hb, -⟩ := id X.1
  intro n
  induction n with
  | zero => intro v1 h; rw [fX7_advance_5] at h; cases h
  | succ n ih =>
    intro v1 h H locs hW ls hl
    rw [fX7_advance_5] at h
    refine lv_iload_n hx hb dX7_advance_5 rfl (lv_at hl 1 rfl) ?_
    refine lv_aload_n hx hb dX7_advance_6 rfl (lv_at hl 0 rfl) ?_
    refine g_get X hW eX7_advance_145 0 rfl rfl dX7_advance_7 ?_
    refine lv_icmp_ge (tgt := 30) hx hb dX7_advance_10 (by decide) (fun c132 => ?_) (fun c132 => ?_)
    · have h := (if_pos c132).symm.trans h
      exact Hk_30 v1 h H locs hW ls hl
    · have h := (if_neg c132).symm.trans h
      refine lv_aload_n hx hb dX7_advance_13 rfl (lv_at hl 0 rfl) ?_
      refine g_get X hW eX7_advance_58 0 rfl rfl dX7_advance_14 ?_
      refine lv_iload_n hx hb dX7_advance_17 rfl (lv_at hl 1 rfl) ?_
      obtain ⟨g136, h⟩ := gd_some h
      refine g_ald X hW 1 rfl g136 dX7_advance_18 ?_
      refine lv_bipush hx hb dX7_advance_19 qB_32 ?_
      refine lv_icmp_ne (tgt := 30) hx hb dX7_advance_21 (by decide) (fun c138 => ?_) (fun c138 => ?_)
      · have h := (if_neg c138).symm.trans h
        exact Hk_30 v1 h H locs hW ls hl
      · have h := (if_pos c138).symm.trans h
        refine lv_iinc (v := (v1 + (1 : Int32))) (lv' := [(1, .int (v1 + (1 : Int32))), (0, .ref a_mo)]) hx hb dX7_advance_24 hl (k := 1) rfl (congrArg (fun z => v1 + z) qI_1) (by decide) rfl (fun ls hl => ?_)
        refine lv_goto (tgt := 5) hx hb dX7_advance_27 (by decide) ?_
        exact ih (v1 + (1 : Int32)) h H locs hW ls (lv_sub hl [1, 0] rfl)
set_option maxHeartbeats 4000000 in
set_option maxRecDepth 100000 in
theorem k0X7_advance {l : Launch} (G : Gt) (a_mo a_mo_tape a_mo_numbers a_mo_boxes a_mo_words a_mo_weeks a_mo_routes a_mo_turns a_mo_leave a_mo_leases a_mo_uses a_mo_arcFrom a_mo_arcTo a_mo_arcRoom a_mo_arcCost a_mo_far a_mo_by a_mo_best a_mo_kept : Nat)  (m_arcs : Int32) (m_tapeMany : Int32) (m_tokenKind : Int32) (m_tokenAt : Int32) (m_tokenEnd : Int32) (m_tokenValue : Int32) (m_fault : Int32) (m_seen : Int32) (m_isKept : Int32) (m_place : Int32) (m_tape : (Nat → Int32)) {res : Int32 × Int32 × Int32 × Int32} (h : fX7_advance m_tapeMany m_tokenKind m_tokenAt m_tokenEnd m_tokenValue m_tape = some res) : CtV G l yX7_advance wsX7_advance rmX7_advance [.ref a_mo] (wX7_advance G a_mo a_mo_tape a_mo_numbers a_mo_boxes a_mo_words a_mo_weeks a_mo_routes a_mo_turns a_mo_leave a_mo_leases a_mo_uses a_mo_arcFrom a_mo_arcTo a_mo_arcRoom a_mo_arcCost a_mo_far a_mo_by a_mo_best a_mo_kept m_arcs m_tapeMany m_tokenKind m_tokenAt m_tokenEnd m_tokenValue m_fault m_seen m_isKept m_place m_tape) (wX7_advance G a_mo a_mo_tape a_mo_numbers a_mo_boxes a_mo_words a_mo_weeks a_mo_routes a_mo_turns a_mo_leave a_mo_leases a_mo_uses a_mo_arcFrom a_mo_arcTo a_mo_arcRoom a_mo_arcCost a_mo_far a_mo_by a_mo_best a_mo_kept m_arcs m_tapeMany res.1 res.2.1 res.2.2.1 res.2.2.2 m_fault m_seen m_isKept m_place m_tape) := by
  refine CtV.mk (cc := cX7_advance) (maxL := 2) (ret := none) (own := RX7) (by decide) rfl rfl (Nat.le_of_ble_eq_true rfl) ?_
  intro p e s m below meth c A X ls hl hW
  obtain ⟨hx, hb, -⟩ := id X.1
  have hl : lv_has ls 2 [(0, .ref a_mo)] := hl
  generalize hH : s.heap = H at hW ⊢
  generalize hLo : ([] : List Loc) = locs at hW ⊢
  rw [fX7_advance] at h
  refine lv_aload_n hx hb dX7_advance_0 rfl (lv_at hl 0 rfl) ?_
  refine g_get X hW eX7_advance_150 0 rfl rfl dX7_advance_1 ?_
  refine lv_istore_n (lv' := [(1, .int m_tokenEnd), (0, .ref a_mo)]) hx hb dX7_advance_4 rfl hl (by decide) rfl (fun ls hl => ?_)
  exact tX7_advance_5 X m_tokenKind m_tokenAt m_tokenEnd m_tokenValue (fun v1_q144 => fX7_advance_30 v1_q144 m_tapeMany m_tape) (fun v1_q144 h H locs hW ls hl => by exact tX7_advance_30 X v1_q144 m_tokenKind m_tokenAt m_tokenEnd m_tokenValue h H locs hW ls hl) FU m_tokenEnd h H locs hW ls (lv_sub hl [1, 0] rfl)
theorem kcX7_advance {l : Launch} (G : Gt) (a_mo a_mo_tape a_mo_numbers a_mo_boxes a_mo_words a_mo_weeks a_mo_routes a_mo_turns a_mo_leave a_mo_leases a_mo_uses a_mo_arcFrom a_mo_arcTo a_mo_arcRoom a_mo_arcCost a_mo_far a_mo_by a_mo_best a_mo_kept : Nat)  (m_arcs : Int32) (m_tapeMany : Int32) (m_tokenKind : Int32) (m_tokenAt : Int32) (m_tokenEnd : Int32) (m_tokenValue : Int32) (m_fault : Int32) (m_seen : Int32) (m_isKept : Int32) (m_place : Int32) (m_tape : (Nat → Int32))  {z_m_tokenKind : Int32} {z_m_tokenAt : Int32} {z_m_tokenEnd : Int32} {z_m_tokenValue : Int32} (h : fX7_advance m_tapeMany m_tokenKind m_tokenAt m_tokenEnd m_tokenValue m_tape = some (z_m_tokenKind, z_m_tokenAt, z_m_tokenEnd, z_m_tokenValue)) : CtV G l yX7_advance wsX7_advance rmX7_advance [.ref a_mo] (wX7_advance G a_mo a_mo_tape a_mo_numbers a_mo_boxes a_mo_words a_mo_weeks a_mo_routes a_mo_turns a_mo_leave a_mo_leases a_mo_uses a_mo_arcFrom a_mo_arcTo a_mo_arcRoom a_mo_arcCost a_mo_far a_mo_by a_mo_best a_mo_kept m_arcs m_tapeMany m_tokenKind m_tokenAt m_tokenEnd m_tokenValue m_fault m_seen m_isKept m_place m_tape) (wX7_advance G a_mo a_mo_tape a_mo_numbers a_mo_boxes a_mo_words a_mo_weeks a_mo_routes a_mo_turns a_mo_leave a_mo_leases a_mo_uses a_mo_arcFrom a_mo_arcTo a_mo_arcRoom a_mo_arcCost a_mo_far a_mo_by a_mo_best a_mo_kept m_arcs m_tapeMany z_m_tokenKind z_m_tokenAt z_m_tokenEnd z_m_tokenValue m_fault m_seen m_isKept m_place m_tape) := k0X7_advance G a_mo a_mo_tape a_mo_numbers a_mo_boxes a_mo_words a_mo_weeks a_mo_routes a_mo_turns a_mo_leave a_mo_leases a_mo_uses a_mo_arcFrom a_mo_arcTo a_mo_arcRoom a_mo_arcCost a_mo_far a_mo_by a_mo_best a_mo_kept m_arcs m_tapeMany m_tokenKind m_tokenAt m_tokenEnd m_tokenValue m_fault m_seen m_isKept m_place m_tape h
end MX7_advance
/-! EmptyBoxesModel.isGood -/
section MX7_isGood
theorem hdX7_isGood : yX7_isGood.cls = RX7 ∧ yX7_isGood.cls ≠ "java/lang/invoke/MethodHandle" ∧ yX7_isGood.cls ≠ "java/lang/invoke/VarHandle" ∧ (parseMethodDescriptor yX7_isGood.desc).map (fun d => d.parameters.length) = some 0 := by decide +kernel
abbrev wX7_isGood (G : Gt) (a_mo a_mo_numbers a_mo_boxes a_mo_words a_mo_weeks a_mo_routes a_mo_turns a_mo_leave a_mo_leases a_mo_uses a_mo_arcFrom a_mo_arcTo a_mo_arcRoom a_mo_arcCost a_mo_far a_mo_by a_mo_best a_mo_tape a_mo_kept : Nat) (m_arcs : Int32) (m_tapeMany : Int32) (m_tokenKind : Int32) (m_tokenAt : Int32) (m_tokenEnd : Int32) (m_tokenValue : Int32) (m_fault : Int32) (m_seen : Int32) (m_isKept : Int32) (m_place : Int32) : va_W := [(a_mo, .inr (7, [.ref a_mo_numbers, .ref a_mo_boxes, .ref a_mo_words, .ref a_mo_weeks, .ref a_mo_routes, .ref a_mo_turns, .ref a_mo_leave, .ref a_mo_leases, .ref a_mo_uses, .ref a_mo_arcFrom, .ref a_mo_arcTo, .ref a_mo_arcRoom, .ref a_mo_arcCost, .int m_arcs, .ref a_mo_far, .ref a_mo_by, .ref a_mo_best, .ref a_mo_tape, .int m_tapeMany, .int m_tokenKind, .int m_tokenAt, .int m_tokenEnd, .int m_tokenValue, .int m_fault, .int m_seen, .int m_isKept, .ref a_mo_kept, .int m_place]))]
abbrev rmX7_isGood : Room := { frames := 0, cells := 0, slots := 0, locals := 0 }
theorem iX7_isGood_X7 : ∀ w ∈ wsX70, w ∈ wsX7_isGood := by decide +kernel
theorem eX7_isGood_168 : Fk wsX7_isGood RX7 168 7 23 := ⟨RX7, TX7, 28, rfl, iX7_isGood_X7, by decide, by decide +kernel⟩
variable {p : Program} {l : Launch} {e : Env} {s : State} {m : MethodId} {args : Array Value} {below : List Frame} {meth : Method} {c : Code} {A : Nat → Prop} {G : Gt} {a_mo a_mo_numbers a_mo_boxes a_mo_words a_mo_weeks a_mo_routes a_mo_turns a_mo_leave a_mo_leases a_mo_uses a_mo_arcFrom a_mo_arcTo a_mo_arcRoom a_mo_arcCost a_mo_far a_mo_by a_mo_best a_mo_tape a_mo_kept : Nat} {m_arcs : Int32} {m_tapeMany : Int32} {m_tokenKind : Int32} {m_tokenAt : Int32} {m_tokenEnd : Int32} {m_tokenValue : Int32} {m_fault : Int32} {m_seen : Int32} {m_isKept : Int32} {m_place : Int32} {res : Int32}
set_option maxHeartbeats 4000000 in
set_option maxRecDepth 100000 in
theorem k0X7_isGood {l : Launch} (G : Gt) (a_mo a_mo_numbers a_mo_boxes a_mo_words a_mo_weeks a_mo_routes a_mo_turns a_mo_leave a_mo_leases a_mo_uses a_mo_arcFrom a_mo_arcTo a_mo_arcRoom a_mo_arcCost a_mo_far a_mo_by a_mo_best a_mo_tape a_mo_kept : Nat)  (m_arcs : Int32) (m_tapeMany : Int32) (m_tokenKind : Int32) (m_tokenAt : Int32) (m_tokenEnd : Int32) (m_tokenValue : Int32) (m_fault : Int32) (m_seen : Int32) (m_isKept : Int32) (m_place : Int32) {res : Int32} (h : fX7_isGood m_fault = some res) : CtI G l yX7_isGood wsX7_isGood rmX7_isGood [.ref a_mo] (wX7_isGood G a_mo a_mo_numbers a_mo_boxes a_mo_words a_mo_weeks a_mo_routes a_mo_turns a_mo_leave a_mo_leases a_mo_uses a_mo_arcFrom a_mo_arcTo a_mo_arcRoom a_mo_arcCost a_mo_far a_mo_by a_mo_best a_mo_tape a_mo_kept m_arcs m_tapeMany m_tokenKind m_tokenAt m_tokenEnd m_tokenValue m_fault m_seen m_isKept m_place) res (wX7_isGood G a_mo a_mo_numbers a_mo_boxes a_mo_words a_mo_weeks a_mo_routes a_mo_turns a_mo_leave a_mo_leases a_mo_uses a_mo_arcFrom a_mo_arcTo a_mo_arcRoom a_mo_arcCost a_mo_far a_mo_by a_mo_best a_mo_tape a_mo_kept m_arcs m_tapeMany m_tokenKind m_tokenAt m_tokenEnd m_tokenValue m_fault m_seen m_isKept m_place) := by
  refine CtI.mk (cc := cX7_isGood) (maxL := 1) (ret := (some .boolean)) (own := RX7) (by decide) rfl rfl (Nat.le_of_ble_eq_true rfl) ?_
  intro p e s m below meth c A X ls hl hW
  obtain ⟨hx, hb, -⟩ := id X.1
  have hl : lv_has ls 1 [(0, .ref a_mo)] := hl
  generalize hH : s.heap = H at hW ⊢
  generalize hLo : ([] : List Loc) = locs at hW ⊢
  rw [fX7_isGood] at h
  refine lv_aload_n hx hb dX7_isGood_0 rfl (lv_at hl 0 rfl) ?_
  refine g_get X hW eX7_isGood_168 0 rfl rfl dX7_isGood_1 ?_
  refine lv_if_ge (tgt := 11) hx hb dX7_isGood_4 (by decide) (fun c3 => ?_) (fun c3 => ?_)
  · have h := (if_pos c3).symm.trans h
    refine lv_iconst hx hb dX7_isGood_11 qI_0 ?_
    obtain rfl := Option.some.inj h
    exact g_zret X hW rfl dX7_isGood_12
  · have h := (if_neg c3).symm.trans h
    refine lv_iconst hx hb dX7_isGood_7 qI_1 ?_
    refine lv_goto (tgt := 12) hx hb dX7_isGood_8 (by decide) ?_
    obtain rfl := Option.some.inj h
    exact g_zret X hW rfl dX7_isGood_12
theorem kcX7_isGood {l : Launch} (G : Gt) (a_mo a_mo_numbers a_mo_boxes a_mo_words a_mo_weeks a_mo_routes a_mo_turns a_mo_leave a_mo_leases a_mo_uses a_mo_arcFrom a_mo_arcTo a_mo_arcRoom a_mo_arcCost a_mo_far a_mo_by a_mo_best a_mo_tape a_mo_kept : Nat)  (m_arcs : Int32) (m_tapeMany : Int32) (m_tokenKind : Int32) (m_tokenAt : Int32) (m_tokenEnd : Int32) (m_tokenValue : Int32) (m_fault : Int32) (m_seen : Int32) (m_isKept : Int32) (m_place : Int32) {r : Int32}  (h : fX7_isGood m_fault = some r) : CtI G l yX7_isGood wsX7_isGood rmX7_isGood [.ref a_mo] (wX7_isGood G a_mo a_mo_numbers a_mo_boxes a_mo_words a_mo_weeks a_mo_routes a_mo_turns a_mo_leave a_mo_leases a_mo_uses a_mo_arcFrom a_mo_arcTo a_mo_arcRoom a_mo_arcCost a_mo_far a_mo_by a_mo_best a_mo_tape a_mo_kept m_arcs m_tapeMany m_tokenKind m_tokenAt m_tokenEnd m_tokenValue m_fault m_seen m_isKept m_place) r (wX7_isGood G a_mo a_mo_numbers a_mo_boxes a_mo_words a_mo_weeks a_mo_routes a_mo_turns a_mo_leave a_mo_leases a_mo_uses a_mo_arcFrom a_mo_arcTo a_mo_arcRoom a_mo_arcCost a_mo_far a_mo_by a_mo_best a_mo_tape a_mo_kept m_arcs m_tapeMany m_tokenKind m_tokenAt m_tokenEnd m_tokenValue m_fault m_seen m_isKept m_place) := k0X7_isGood G a_mo a_mo_numbers a_mo_boxes a_mo_words a_mo_weeks a_mo_routes a_mo_turns a_mo_leave a_mo_leases a_mo_uses a_mo_arcFrom a_mo_arcTo a_mo_arcRoom a_mo_arcCost a_mo_far a_mo_by a_mo_best a_mo_tape a_mo_kept m_arcs m_tapeMany m_tokenKind m_tokenAt m_tokenEnd m_tokenValue m_fault m_seen m_isKept m_place h
end MX7_isGood
/-! EmptyBoxesModel.wrong -/
section MX7_wrong
theorem hdX7_wrong : yX7_wrong.cls = RX7 ∧ yX7_wrong.cls ≠ "java/lang/invoke/MethodHandle" ∧ yX7_wrong.cls ≠ "java/lang/invoke/VarHandle" ∧ (parseMethodDescriptor yX7_wrong.desc).map (fun d => d.parameters.length) = some 0 := by decide +kernel
abbrev wX7_wrong (G : Gt) (a_mo a_mo_numbers a_mo_boxes a_mo_words a_mo_weeks a_mo_routes a_mo_turns a_mo_leave a_mo_leases a_mo_uses a_mo_arcFrom a_mo_arcTo a_mo_arcRoom a_mo_arcCost a_mo_far a_mo_by a_mo_best a_mo_tape a_mo_kept : Nat) (m_arcs : Int32) (m_tapeMany : Int32) (m_tokenKind : Int32) (m_tokenAt : Int32) (m_tokenEnd : Int32) (m_tokenValue : Int32) (m_fault : Int32) (m_seen : Int32) (m_isKept : Int32) (m_place : Int32) : va_W := [(a_mo, .inr (7, [.ref a_mo_numbers, .ref a_mo_boxes, .ref a_mo_words, .ref a_mo_weeks, .ref a_mo_routes, .ref a_mo_turns, .ref a_mo_leave, .ref a_mo_leases, .ref a_mo_uses, .ref a_mo_arcFrom, .ref a_mo_arcTo, .ref a_mo_arcRoom, .ref a_mo_arcCost, .int m_arcs, .ref a_mo_far, .ref a_mo_by, .ref a_mo_best, .ref a_mo_tape, .int m_tapeMany, .int m_tokenKind, .int m_tokenAt, .int m_tokenEnd, .int m_tokenValue, .int m_fault, .int m_seen, .int m_isKept, .ref a_mo_kept, .int m_place]))]
abbrev rmX7_wrong : Room := { frames := 0, cells := 0, slots := 0, locals := 0 }
theorem iX7_wrong_X7 : ∀ w ∈ wsX70, w ∈ wsX7_wrong := by decide +kernel
theorem eX7_wrong_153 : Fk wsX7_wrong RX7 153 7 20 := ⟨RX7, TX7, 28, rfl, iX7_wrong_X7, by decide, by decide +kernel⟩
theorem eX7_wrong_168 : Fk wsX7_wrong RX7 168 7 23 := ⟨RX7, TX7, 28, rfl, iX7_wrong_X7, by decide, by decide +kernel⟩
theorem pX7_wrong_168 : Fp wsX7_wrong RX7 168 7 23 .int := ⟨RX7, TX7, 28, tyX7, rfl, iX7_wrong_X7, by decide, by decide +kernel, tyX7_ok, nmX7, rfl, by decide +kernel⟩
variable {p : Program} {l : Launch} {e : Env} {s : State} {m : MethodId} {args : Array Value} {below : List Frame} {meth : Method} {c : Code} {A : Nat → Prop} {G : Gt} {a_mo a_mo_numbers a_mo_boxes a_mo_words a_mo_weeks a_mo_routes a_mo_turns a_mo_leave a_mo_leases a_mo_uses a_mo_arcFrom a_mo_arcTo a_mo_arcRoom a_mo_arcCost a_mo_far a_mo_by a_mo_best a_mo_tape a_mo_kept : Nat} {m_arcs : Int32} {m_tapeMany : Int32} {m_tokenKind : Int32} {m_tokenAt : Int32} {m_tokenEnd : Int32} {m_tokenValue : Int32} {m_seen : Int32} {m_isKept : Int32} {m_place : Int32} {res : Int32}
set_option maxHeartbeats 4000000 in
set_option maxRecDepth 100000 in
theorem tX7_wrong_19 (X : Bx p s m args meth c cX7_wrong 1 wsX7_wrong RX7 none) (t1 : Int32) (m_fault : Int32)   (h : fX7_wrong_19 t1 = some res) : ∀ (H : Heap) (locs : List Loc), Wo G A s (wX7_wrong G a_mo a_mo_numbers a_mo_boxes a_mo_words a_mo_weeks a_mo_routes a_mo_turns a_mo_leave a_mo_leases a_mo_uses a_mo_arcFrom a_mo_arcTo a_mo_arcRoom a_mo_arcCost a_mo_far a_mo_by a_mo_best a_mo_tape a_mo_kept m_arcs m_tapeMany m_tokenKind m_tokenAt m_tokenEnd m_tokenValue m_fault m_seen m_isKept m_place) H locs → ∀ ls : Array Slot, lv_has ls 1 [] → W p l e rmX7_wrong s m args below meth c H locs 0 0 (QV G A below args s (wX7_wrong G a_mo a_mo_numbers a_mo_boxes a_mo_words a_mo_weeks a_mo_routes a_mo_turns a_mo_leave a_mo_leases a_mo_uses a_mo_arcFrom a_mo_arcTo a_mo_arcRoom a_mo_arcCost a_mo_far a_mo_by a_mo_best a_mo_tape a_mo_kept m_arcs m_tapeMany m_tokenKind m_tokenAt m_tokenEnd m_tokenValue res m_seen m_isKept m_place)) (F0 m 19 ls [.int t1, .ref a_mo]) := by
  obtain ⟨hx, hb, -⟩ := id X.1
  intro H locs hW ls hl
  rw [fX7_wrong_19] at h
  refine g_put X hW (ws' := (wX7_wrong G a_mo a_mo_numbers a_mo_boxes a_mo_words a_mo_weeks a_mo_routes a_mo_turns a_mo_leave a_mo_leases a_mo_uses a_mo_arcFrom a_mo_arcTo a_mo_arcRoom a_mo_arcCost a_mo_far a_mo_by a_mo_best a_mo_tape a_mo_kept m_arcs m_tapeMany m_tokenKind m_tokenAt m_tokenEnd m_tokenValue t1 m_seen m_isKept m_place)) pX7_wrong_168 0 rfl (Nat.le_of_ble_eq_true rfl) rfl rfl rfl dX7_wrong_19 (fun H locs hW => ?_)
  obtain rfl := Option.some.inj h
  exact g_vret X hW dX7_wrong_22
set_option maxHeartbeats 4000000 in
set_option maxRecDepth 100000 in
theorem k0X7_wrong {l : Launch} (G : Gt) (a_mo a_mo_numbers a_mo_boxes a_mo_words a_mo_weeks a_mo_routes a_mo_turns a_mo_leave a_mo_leases a_mo_uses a_mo_arcFrom a_mo_arcTo a_mo_arcRoom a_mo_arcCost a_mo_far a_mo_by a_mo_best a_mo_tape a_mo_kept : Nat)  (m_arcs : Int32) (m_tapeMany : Int32) (m_tokenKind : Int32) (m_tokenAt : Int32) (m_tokenEnd : Int32) (m_tokenValue : Int32) (m_fault : Int32) (m_seen : Int32) (m_isKept : Int32) (m_place : Int32) {res : Int32} (h : fX7_wrong m_tokenAt m_fault = some res) : CtV G l yX7_wrong wsX7_wrong rmX7_wrong [.ref a_mo] (wX7_wrong G a_mo a_mo_numbers a_mo_boxes a_mo_words a_mo_weeks a_mo_routes a_mo_turns a_mo_leave a_mo_leases a_mo_uses a_mo_arcFrom a_mo_arcTo a_mo_arcRoom a_mo_arcCost a_mo_far a_mo_by a_mo_best a_mo_tape a_mo_kept m_arcs m_tapeMany m_tokenKind m_tokenAt m_tokenEnd m_tokenValue m_fault m_seen m_isKept m_place) (wX7_wrong G a_mo a_mo_numbers a_mo_boxes a_mo_words a_mo_weeks a_mo_routes a_mo_turns a_mo_leave a_mo_leases a_mo_uses a_mo_arcFrom a_mo_arcTo a_mo_arcRoom a_mo_arcCost a_mo_far a_mo_by a_mo_best a_mo_tape a_mo_kept m_arcs m_tapeMany m_tokenKind m_tokenAt m_tokenEnd m_tokenValue res m_seen m_isKept m_place) := by
  refine CtV.mk (cc := cX7_wrong) (maxL := 1) (ret := none) (own := RX7) (by decide) rfl rfl (Nat.le_of_ble_eq_true rfl) ?_
  intro p e s m below meth c A X ls hl hW
  obtain ⟨hx, hb, -⟩ := id X.1
  have hl : lv_has ls 1 [(0, .ref a_mo)] := hl
  generalize hH : s.heap = H at hW ⊢
  generalize hLo : ([] : List Loc) = locs at hW ⊢
  rw [fX7_wrong] at h
  refine lv_aload_n hx hb dX7_wrong_0 rfl (lv_at hl 0 rfl) ?_
  refine lv_aload_n hx hb dX7_wrong_1 rfl (lv_at hl 0 rfl) ?_
  refine g_get X hW eX7_wrong_168 0 rfl rfl dX7_wrong_2 ?_
  refine lv_if_ge (tgt := 15) hx hb dX7_wrong_5 (by decide) (fun c6 => ?_) (fun c6 => ?_)
  · have h := (if_pos c6).symm.trans h
    refine lv_aload_n hx hb dX7_wrong_15 rfl (lv_at hl 0 rfl) ?_
    refine g_get X hW eX7_wrong_168 0 rfl rfl dX7_wrong_16 ?_
    exact tX7_wrong_19 X m_fault m_fault h H locs hW ls (lv_sub hl [] rfl)
  · have h := (if_neg c6).symm.trans h
    refine lv_aload_n hx hb dX7_wrong_8 rfl (lv_at hl 0 rfl) ?_
    refine g_get X hW eX7_wrong_153 0 rfl rfl dX7_wrong_9 ?_
    refine lv_goto (tgt := 19) hx hb dX7_wrong_12 (by decide) ?_
    exact tX7_wrong_19 X m_tokenAt m_fault h H locs hW ls (lv_sub hl [] rfl)
theorem kcX7_wrong {l : Launch} (G : Gt) (a_mo a_mo_numbers a_mo_boxes a_mo_words a_mo_weeks a_mo_routes a_mo_turns a_mo_leave a_mo_leases a_mo_uses a_mo_arcFrom a_mo_arcTo a_mo_arcRoom a_mo_arcCost a_mo_far a_mo_by a_mo_best a_mo_tape a_mo_kept : Nat)  (m_arcs : Int32) (m_tapeMany : Int32) (m_tokenKind : Int32) (m_tokenAt : Int32) (m_tokenEnd : Int32) (m_tokenValue : Int32) (m_fault : Int32) (m_seen : Int32) (m_isKept : Int32) (m_place : Int32)  {z_m_fault : Int32} (h : fX7_wrong m_tokenAt m_fault = some z_m_fault) : CtV G l yX7_wrong wsX7_wrong rmX7_wrong [.ref a_mo] (wX7_wrong G a_mo a_mo_numbers a_mo_boxes a_mo_words a_mo_weeks a_mo_routes a_mo_turns a_mo_leave a_mo_leases a_mo_uses a_mo_arcFrom a_mo_arcTo a_mo_arcRoom a_mo_arcCost a_mo_far a_mo_by a_mo_best a_mo_tape a_mo_kept m_arcs m_tapeMany m_tokenKind m_tokenAt m_tokenEnd m_tokenValue m_fault m_seen m_isKept m_place) (wX7_wrong G a_mo a_mo_numbers a_mo_boxes a_mo_words a_mo_weeks a_mo_routes a_mo_turns a_mo_leave a_mo_leases a_mo_uses a_mo_arcFrom a_mo_arcTo a_mo_arcRoom a_mo_arcCost a_mo_far a_mo_by a_mo_best a_mo_tape a_mo_kept m_arcs m_tapeMany m_tokenKind m_tokenAt m_tokenEnd m_tokenValue z_m_fault m_seen m_isKept m_place) := k0X7_wrong G a_mo a_mo_numbers a_mo_boxes a_mo_words a_mo_weeks a_mo_routes a_mo_turns a_mo_leave a_mo_leases a_mo_uses a_mo_arcFrom a_mo_arcTo a_mo_arcRoom a_mo_arcCost a_mo_far a_mo_by a_mo_best a_mo_tape a_mo_kept m_arcs m_tapeMany m_tokenKind m_tokenAt m_tokenEnd m_tokenValue m_fault m_seen m_isKept m_place h
end MX7_wrong
/-! EmptyBoxesModel.wantNumber -/
section MX7_wantNumber
theorem hdX7_wantNumber : yX7_wantNumber.cls = RX7 ∧ yX7_wantNumber.cls ≠ "java/lang/invoke/MethodHandle" ∧ yX7_wantNumber.cls ≠ "java/lang/invoke/VarHandle" ∧ (parseMethodDescriptor yX7_wantNumber.desc).map (fun d => d.parameters.length) = some 1 := by decide +kernel
abbrev wX7_wantNumber (G : Gt) (a_mo a_mo_tape a_mo_numbers a_mo_boxes a_mo_words a_mo_weeks a_mo_routes a_mo_turns a_mo_leave a_mo_leases a_mo_uses a_mo_arcFrom a_mo_arcTo a_mo_arcRoom a_mo_arcCost a_mo_far a_mo_by a_mo_best a_mo_kept : Nat) (m_arcs : Int32) (m_tapeMany : Int32) (m_tokenKind : Int32) (m_tokenAt : Int32) (m_tokenEnd : Int32) (m_tokenValue : Int32) (m_fault : Int32) (m_seen : Int32) (m_isKept : Int32) (m_place : Int32) (m_tape : (Nat → Int32)) : va_W := [(a_mo, .inr (7, [.ref a_mo_numbers, .ref a_mo_boxes, .ref a_mo_words, .ref a_mo_weeks, .ref a_mo_routes, .ref a_mo_turns, .ref a_mo_leave, .ref a_mo_leases, .ref a_mo_uses, .ref a_mo_arcFrom, .ref a_mo_arcTo, .ref a_mo_arcRoom, .ref a_mo_arcCost, .int m_arcs, .ref a_mo_far, .ref a_mo_by, .ref a_mo_best, .ref a_mo_tape, .int m_tapeMany, .int m_tokenKind, .int m_tokenAt, .int m_tokenEnd, .int m_tokenValue, .int m_fault, .int m_seen, .int m_isKept, .ref a_mo_kept, .int m_place])), (a_mo_tape, .inl (G.2.1, 120, .inl m_tape))]
abbrev rmX7_wantNumber : Room := { frames := 2, cells := 0, slots := 0, locals := 41 }
theorem iX7_wantNumber_X7 : ∀ w ∈ wsX70, w ∈ wsX7_wantNumber := by decide +kernel
theorem eX7_wantNumber_150 : Fk wsX7_wantNumber RX7 150 7 21 := ⟨RX7, TX7, 28, rfl, iX7_wantNumber_X7, by decide, by decide +kernel⟩
theorem eX7_wantNumber_153 : Fk wsX7_wantNumber RX7 153 7 20 := ⟨RX7, TX7, 28, rfl, iX7_wantNumber_X7, by decide, by decide +kernel⟩
theorem eX7_wantNumber_156 : Fk wsX7_wantNumber RX7 156 7 22 := ⟨RX7, TX7, 28, rfl, iX7_wantNumber_X7, by decide, by decide +kernel⟩
theorem eX7_wantNumber_159 : Fk wsX7_wantNumber RX7 159 7 19 := ⟨RX7, TX7, 28, rfl, iX7_wantNumber_X7, by decide, by decide +kernel⟩
theorem ckX7_wantNumber_X7_advance_175 : CkV wsX7_wantNumber RX7 175 yX7_advance wsX7_advance cX7_advance 2 none 0 7 := ⟨RX7, TX7, 28, _, rfl, gX7_wantNumber_X7_advance, rfl, hdX7_advance⟩
theorem ckX7_wantNumber_X7_isGood_171 : CkV wsX7_wantNumber RX7 171 yX7_isGood wsX7_isGood cX7_isGood 1 (some .boolean) 0 7 := ⟨RX7, TX7, 28, _, rfl, gX7_wantNumber_X7_isGood, rfl, hdX7_isGood⟩
theorem ckX7_wantNumber_X7_wrong_178 : CkV wsX7_wantNumber RX7 178 yX7_wrong wsX7_wrong cX7_wrong 1 none 0 7 := ⟨RX7, TX7, 28, _, rfl, gX7_wantNumber_X7_wrong, rfl, hdX7_wrong⟩
variable {p : Program} {l : Launch} {e : Env} {s : State} {m : MethodId} {args : Array Value} {below : List Frame} {meth : Method} {c : Code} {A : Nat → Prop} {G : Gt} {a_mo a_mo_tape a_mo_numbers a_mo_boxes a_mo_words a_mo_weeks a_mo_routes a_mo_turns a_mo_leave a_mo_leases a_mo_uses a_mo_arcFrom a_mo_arcTo a_mo_arcRoom a_mo_arcCost a_mo_far a_mo_by a_mo_best a_mo_kept : Nat} {m_arcs : Int32} {m_tapeMany : Int32} {m_seen : Int32} {m_isKept : Int32} {m_place : Int32} {m_tape : (Nat → Int32)} {res : Int32 × Int32 × Int32 × Int32 × Int32 × Int32}
set_option maxHeartbeats 4000000 in
set_option maxRecDepth 100000 in
theorem tX7_wantNumber_45 (X : Bx p s m args meth c cX7_wantNumber 3 wsX7_wantNumber RX7 (some .int)) (v2 : Int32) (m_tokenKind : Int32) (m_tokenAt : Int32) (m_tokenEnd : Int32) (m_tokenValue : Int32) (m_fault : Int32)   (h : fX7_wantNumber_45 v2 m_tokenKind m_tokenAt m_tokenEnd m_tokenValue m_fault = some res) : ∀ (H : Heap) (locs : List Loc), Wo G A s (wX7_wantNumber G a_mo a_mo_tape a_mo_numbers a_mo_boxes a_mo_words a_mo_weeks a_mo_routes a_mo_turns a_mo_leave a_mo_leases a_mo_uses a_mo_arcFrom a_mo_arcTo a_mo_arcRoom a_mo_arcCost a_mo_far a_mo_by a_mo_best a_mo_kept m_arcs m_tapeMany m_tokenKind m_tokenAt m_tokenEnd m_tokenValue m_fault m_seen m_isKept m_place m_tape) H locs → ∀ ls : Array Slot, lv_has ls 3 [(0, .ref a_mo), (2, .int v2)] → W p l e rmX7_wantNumber s m args below meth c H locs 0 0 (QI G A below args s res.1 (wX7_wantNumber G a_mo a_mo_tape a_mo_numbers a_mo_boxes a_mo_words a_mo_weeks a_mo_routes a_mo_turns a_mo_leave a_mo_leases a_mo_uses a_mo_arcFrom a_mo_arcTo a_mo_arcRoom a_mo_arcCost a_mo_far a_mo_by a_mo_best a_mo_kept m_arcs m_tapeMany res.2.1 res.2.2.1 res.2.2.2.1 res.2.2.2.2.1 res.2.2.2.2.2 m_seen m_isKept m_place m_tape)) (F0 m 45 ls []) := by
  obtain ⟨hx, hb, -⟩ := id X.1
  intro H locs hW ls hl
  rw [fX7_wantNumber_45] at h
  refine lv_aload_n hx hb dX7_wantNumber_45 rfl (lv_at hl 0 rfl) ?_
  obtain ⟨o2_m_fault, hq, h⟩ := bn1_some h
  refine g_cvv X hW (As := []) (ws' := (wX7_wantNumber G a_mo a_mo_tape a_mo_numbers a_mo_boxes a_mo_words a_mo_weeks a_mo_routes a_mo_turns a_mo_leave a_mo_leases a_mo_uses a_mo_arcFrom a_mo_arcTo a_mo_arcRoom a_mo_arcCost a_mo_far a_mo_by a_mo_best a_mo_kept m_arcs m_tapeMany m_tokenKind m_tokenAt m_tokenEnd m_tokenValue o2_m_fault m_seen m_isKept m_place m_tape)) ckX7_wantNumber_X7_wrong_178 (kcX7_wrong (l := l) G a_mo a_mo_numbers a_mo_boxes a_mo_words a_mo_weeks a_mo_routes a_mo_turns a_mo_leave a_mo_leases a_mo_uses a_mo_arcFrom a_mo_arcTo a_mo_arcRoom a_mo_arcCost a_mo_far a_mo_by a_mo_best a_mo_tape a_mo_kept m_arcs m_tapeMany m_tokenKind m_tokenAt m_tokenEnd m_tokenValue m_fault m_seen m_isKept m_place hq) ⟨rfl, rfl, Nat.le_of_ble_eq_true rfl, Nat.le_of_ble_eq_true rfl⟩ [0] rfl rfl rfl rfl rfl rfl rfl hl.1 (Nat.le_of_ble_eq_true rfl) ⟨Nat.zero_le _, Nat.zero_le _⟩ dX7_wantNumber_46 (fun H locs hW => ?_)
  refine lv_iload_n hx hb dX7_wantNumber_49 rfl (lv_at hl 1 rfl) ?_
  obtain rfl := Option.some.inj h
  exact g_iret X hW dX7_wantNumber_50
set_option maxHeartbeats 4000000 in
set_option maxRecDepth 100000 in
theorem k0X7_wantNumber {l : Launch} (G : Gt) (a_mo a_mo_tape a_mo_numbers a_mo_boxes a_mo_words a_mo_weeks a_mo_routes a_mo_turns a_mo_leave a_mo_leases a_mo_uses a_mo_arcFrom a_mo_arcTo a_mo_arcRoom a_mo_arcCost a_mo_far a_mo_by a_mo_best a_mo_kept : Nat) (v1 : Int32) (m_arcs : Int32) (m_tapeMany : Int32) (m_tokenKind : Int32) (m_tokenAt : Int32) (m_tokenEnd : Int32) (m_tokenValue : Int32) (m_fault : Int32) (m_seen : Int32) (m_isKept : Int32) (m_place : Int32) (m_tape : (Nat → Int32)) {res : Int32 × Int32 × Int32 × Int32 × Int32 × Int32} (h : fX7_wantNumber v1 m_tapeMany m_tokenKind m_tokenAt m_tokenEnd m_tokenValue m_fault m_tape = some res) : CtI G l yX7_wantNumber wsX7_wantNumber rmX7_wantNumber [.ref a_mo, .int v1] (wX7_wantNumber G a_mo a_mo_tape a_mo_numbers a_mo_boxes a_mo_words a_mo_weeks a_mo_routes a_mo_turns a_mo_leave a_mo_leases a_mo_uses a_mo_arcFrom a_mo_arcTo a_mo_arcRoom a_mo_arcCost a_mo_far a_mo_by a_mo_best a_mo_kept m_arcs m_tapeMany m_tokenKind m_tokenAt m_tokenEnd m_tokenValue m_fault m_seen m_isKept m_place m_tape) res.1 (wX7_wantNumber G a_mo a_mo_tape a_mo_numbers a_mo_boxes a_mo_words a_mo_weeks a_mo_routes a_mo_turns a_mo_leave a_mo_leases a_mo_uses a_mo_arcFrom a_mo_arcTo a_mo_arcRoom a_mo_arcCost a_mo_far a_mo_by a_mo_best a_mo_kept m_arcs m_tapeMany res.2.1 res.2.2.1 res.2.2.2.1 res.2.2.2.2.1 res.2.2.2.2.2 m_seen m_isKept m_place m_tape) := by
  refine CtI.mk (cc := cX7_wantNumber) (maxL := 3) (ret := (some .int)) (own := RX7) (by decide) rfl rfl (Nat.le_of_ble_eq_true rfl) ?_
  intro p e s m below meth c A X ls hl hW
  obtain ⟨hx, hb, -⟩ := id X.1
  have hl : lv_has ls 3 [(0, .ref a_mo), (1, .int v1)] := hl
  generalize hH : s.heap = H at hW ⊢
  generalize hLo : ([] : List Loc) = locs at hW ⊢
  rw [fX7_wantNumber] at h
  refine lv_aload_n hx hb dX7_wantNumber_0 rfl (lv_at hl 0 rfl) ?_
  refine g_get X hW eX7_wantNumber_156 0 rfl rfl dX7_wantNumber_1 ?_
  refine lv_istore_n (lv' := [(2, .int m_tokenValue), (0, .ref a_mo), (1, .int v1)]) hx hb dX7_wantNumber_4 rfl hl (by decide) rfl (fun ls hl => ?_)
  refine lv_aload_n hx hb dX7_wantNumber_5 rfl (lv_at hl 1 rfl) ?_
  obtain ⟨r9, hq, h⟩ := bn1_some h
  refine g_cvi X hW (As := []) (ws' := (wX7_wantNumber G a_mo a_mo_tape a_mo_numbers a_mo_boxes a_mo_words a_mo_weeks a_mo_routes a_mo_turns a_mo_leave a_mo_leases a_mo_uses a_mo_arcFrom a_mo_arcTo a_mo_arcRoom a_mo_arcCost a_mo_far a_mo_by a_mo_best a_mo_kept m_arcs m_tapeMany m_tokenKind m_tokenAt m_tokenEnd m_tokenValue m_fault m_seen m_isKept m_place m_tape)) ckX7_wantNumber_X7_isGood_171 (kcX7_isGood (l := l) G a_mo a_mo_numbers a_mo_boxes a_mo_words a_mo_weeks a_mo_routes a_mo_turns a_mo_leave a_mo_leases a_mo_uses a_mo_arcFrom a_mo_arcTo a_mo_arcRoom a_mo_arcCost a_mo_far a_mo_by a_mo_best a_mo_tape a_mo_kept m_arcs m_tapeMany m_tokenKind m_tokenAt m_tokenEnd m_tokenValue m_fault m_seen m_isKept m_place hq) ⟨rfl, rfl, Nat.le_of_ble_eq_true rfl, Nat.le_of_ble_eq_true rfl⟩ [0] rfl rfl rfl rfl rfl rfl rfl hl.1 (Nat.le_of_ble_eq_true rfl) ⟨Nat.zero_le _, Nat.zero_le _⟩ dX7_wantNumber_6 (fun H locs hW => ?_)
  refine lv_if_eq (tgt := 49) hx hb dX7_wantNumber_9 (by decide) (fun c10 => ?_) (fun c10 => ?_)
  · have h := (if_pos c10).symm.trans h
    refine lv_iload_n hx hb dX7_wantNumber_49 rfl (lv_at hl 0 rfl) ?_
    obtain rfl := Option.some.inj h
    exact g_iret X hW dX7_wantNumber_50
  · have h := (if_neg c10).symm.trans h
    refine lv_aload_n hx hb dX7_wantNumber_12 rfl (lv_at hl 1 rfl) ?_
    refine g_get X hW eX7_wantNumber_159 0 rfl rfl dX7_wantNumber_13 ?_
    refine lv_iconst hx hb dX7_wantNumber_16 qI_2 ?_
    refine lv_icmp_ne (tgt := 45) hx hb dX7_wantNumber_17 (by decide) (fun c16 => ?_) (fun c16 => ?_)
    · have h := (if_neg c16).symm.trans h
      exact tX7_wantNumber_45 X m_tokenValue m_tokenKind m_tokenAt m_tokenEnd m_tokenValue m_fault h H locs hW ls (lv_sub hl [1, 0] rfl)
    · have h := (if_pos c16).symm.trans h
      refine lv_aload_n hx hb dX7_wantNumber_20 rfl (lv_at hl 1 rfl) ?_
      refine g_get X hW eX7_wantNumber_150 0 rfl rfl dX7_wantNumber_21 ?_
      refine lv_aload_n hx hb dX7_wantNumber_24 rfl (lv_at hl 1 rfl) ?_
      refine g_get X hW eX7_wantNumber_153 0 rfl rfl dX7_wantNumber_25 ?_
      refine lv_isub hx hb dX7_wantNumber_28 ?_
      refine lv_iconst hx hb dX7_wantNumber_29 qI_3 ?_
      refine lv_icmp_gt (tgt := 45) hx hb dX7_wantNumber_30 (by decide) (fun c23 => ?_) (fun c23 => ?_)
      · have h := (if_pos c23).symm.trans h
        exact tX7_wantNumber_45 X m_tokenValue m_tokenKind m_tokenAt m_tokenEnd m_tokenValue m_fault h H locs hW ls (lv_sub hl [1, 0] rfl)
      · have h := (if_neg c23).symm.trans h
        refine lv_iload_n hx hb dX7_wantNumber_33 rfl (lv_at hl 0 rfl) ?_
        refine lv_iload_n hx hb dX7_wantNumber_34 rfl (lv_at hl 2 rfl) ?_
        refine lv_icmp_gt (tgt := 45) hx hb dX7_wantNumber_35 (by decide) (fun c26 => ?_) (fun c26 => ?_)
        · have h := (if_pos c26).symm.trans h
          exact tX7_wantNumber_45 X m_tokenValue m_tokenKind m_tokenAt m_tokenEnd m_tokenValue m_fault h H locs hW ls (lv_sub hl [1, 0] rfl)
        · have h := (if_neg c26).symm.trans h
          refine lv_aload_n hx hb dX7_wantNumber_38 rfl (lv_at hl 1 rfl) ?_
          obtain ⟨o28_m_tokenKind, o28_m_tokenAt, o28_m_tokenEnd, o28_m_tokenValue, hq, h⟩ := bn4_some h
          refine g_cvv X hW (As := []) (ws' := (wX7_wantNumber G a_mo a_mo_tape a_mo_numbers a_mo_boxes a_mo_words a_mo_weeks a_mo_routes a_mo_turns a_mo_leave a_mo_leases a_mo_uses a_mo_arcFrom a_mo_arcTo a_mo_arcRoom a_mo_arcCost a_mo_far a_mo_by a_mo_best a_mo_kept m_arcs m_tapeMany o28_m_tokenKind o28_m_tokenAt o28_m_tokenEnd o28_m_tokenValue m_fault m_seen m_isKept m_place m_tape)) ckX7_wantNumber_X7_advance_175 (kcX7_advance (l := l) G a_mo a_mo_tape a_mo_numbers a_mo_boxes a_mo_words a_mo_weeks a_mo_routes a_mo_turns a_mo_leave a_mo_leases a_mo_uses a_mo_arcFrom a_mo_arcTo a_mo_arcRoom a_mo_arcCost a_mo_far a_mo_by a_mo_best a_mo_kept m_arcs m_tapeMany m_tokenKind m_tokenAt m_tokenEnd m_tokenValue m_fault m_seen m_isKept m_place m_tape hq) ⟨rfl, rfl, Nat.le_of_ble_eq_true rfl, Nat.le_of_ble_eq_true rfl⟩ [0, 1] rfl rfl rfl rfl rfl rfl rfl hl.1 (Nat.le_of_ble_eq_true rfl) ⟨Nat.zero_le _, Nat.zero_le _⟩ dX7_wantNumber_39 (fun H locs hW => ?_)
          refine lv_goto (tgt := 49) hx hb dX7_wantNumber_42 (by decide) ?_
          refine lv_iload_n hx hb dX7_wantNumber_49 rfl (lv_at hl 0 rfl) ?_
          obtain rfl := Option.some.inj h
          exact g_iret X hW dX7_wantNumber_50
theorem kcX7_wantNumber {l : Launch} (G : Gt) (a_mo a_mo_tape a_mo_numbers a_mo_boxes a_mo_words a_mo_weeks a_mo_routes a_mo_turns a_mo_leave a_mo_leases a_mo_uses a_mo_arcFrom a_mo_arcTo a_mo_arcRoom a_mo_arcCost a_mo_far a_mo_by a_mo_best a_mo_kept : Nat) (v1 : Int32) (m_arcs : Int32) (m_tapeMany : Int32) (m_tokenKind : Int32) (m_tokenAt : Int32) (m_tokenEnd : Int32) (m_tokenValue : Int32) (m_fault : Int32) (m_seen : Int32) (m_isKept : Int32) (m_place : Int32) (m_tape : (Nat → Int32)) {r : Int32} {z_m_tokenKind : Int32} {z_m_tokenAt : Int32} {z_m_tokenEnd : Int32} {z_m_tokenValue : Int32} {z_m_fault : Int32} (h : fX7_wantNumber v1 m_tapeMany m_tokenKind m_tokenAt m_tokenEnd m_tokenValue m_fault m_tape = some (r, z_m_tokenKind, z_m_tokenAt, z_m_tokenEnd, z_m_tokenValue, z_m_fault)) : CtI G l yX7_wantNumber wsX7_wantNumber rmX7_wantNumber [.ref a_mo, .int v1] (wX7_wantNumber G a_mo a_mo_tape a_mo_numbers a_mo_boxes a_mo_words a_mo_weeks a_mo_routes a_mo_turns a_mo_leave a_mo_leases a_mo_uses a_mo_arcFrom a_mo_arcTo a_mo_arcRoom a_mo_arcCost a_mo_far a_mo_by a_mo_best a_mo_kept m_arcs m_tapeMany m_tokenKind m_tokenAt m_tokenEnd m_tokenValue m_fault m_seen m_isKept m_place m_tape) r (wX7_wantNumber G a_mo a_mo_tape a_mo_numbers a_mo_boxes a_mo_words a_mo_weeks a_mo_routes a_mo_turns a_mo_leave a_mo_leases a_mo_uses a_mo_arcFrom a_mo_arcTo a_mo_arcRoom a_mo_arcCost a_mo_far a_mo_by a_mo_best a_mo_kept m_arcs m_tapeMany z_m_tokenKind z_m_tokenAt z_m_tokenEnd z_m_tokenValue z_m_fault m_seen m_isKept m_place m_tape) := k0X7_wantNumber G a_mo a_mo_tape a_mo_numbers a_mo_boxes a_mo_words a_mo_weeks a_mo_routes a_mo_turns a_mo_leave a_mo_leases a_mo_uses a_mo_arcFrom a_mo_arcTo a_mo_arcRoom a_mo_arcCost a_mo_far a_mo_by a_mo_best a_mo_kept v1 m_arcs m_tapeMany m_tokenKind m_tokenAt m_tokenEnd m_tokenValue m_fault m_seen m_isKept m_place m_tape h
end MX7_wantNumber
/-! EmptyBoxesModel.kindOf -/
section MX7_kindOf
theorem hdX7_kindOf : yX7_kindOf.cls = RX7 ∧ yX7_kindOf.cls ≠ "java/lang/invoke/MethodHandle" ∧ yX7_kindOf.cls ≠ "java/lang/invoke/VarHandle" ∧ (parseMethodDescriptor yX7_kindOf.desc).map (fun d => d.parameters.length) = some 0 := by decide +kernel
abbrev wX7_kindOf (G : Gt) (a_mo a_mo_numbers a_mo_boxes a_mo_words a_mo_weeks a_mo_routes a_mo_turns a_mo_leave a_mo_leases a_mo_uses a_mo_arcFrom a_mo_arcTo a_mo_arcRoom a_mo_arcCost a_mo_far a_mo_by a_mo_best a_mo_tape a_mo_kept : Nat) (m_arcs : Int32) (m_tapeMany : Int32) (m_tokenKind : Int32) (m_tokenAt : Int32) (m_tokenEnd : Int32) (m_tokenValue : Int32) (m_fault : Int32) (m_seen : Int32) (m_isKept : Int32) (m_place : Int32) : va_W := [(a_mo, .inr (7, [.ref a_mo_numbers, .ref a_mo_boxes, .ref a_mo_words, .ref a_mo_weeks, .ref a_mo_routes, .ref a_mo_turns, .ref a_mo_leave, .ref a_mo_leases, .ref a_mo_uses, .ref a_mo_arcFrom, .ref a_mo_arcTo, .ref a_mo_arcRoom, .ref a_mo_arcCost, .int m_arcs, .ref a_mo_far, .ref a_mo_by, .ref a_mo_best, .ref a_mo_tape, .int m_tapeMany, .int m_tokenKind, .int m_tokenAt, .int m_tokenEnd, .int m_tokenValue, .int m_fault, .int m_seen, .int m_isKept, .ref a_mo_kept, .int m_place]))]
abbrev rmX7_kindOf : Room := { frames := 0, cells := 0, slots := 0, locals := 0 }
theorem iX7_kindOf_X7 : ∀ w ∈ wsX70, w ∈ wsX7_kindOf := by decide +kernel
theorem eX7_kindOf_156 : Fk wsX7_kindOf RX7 156 7 22 := ⟨RX7, TX7, 28, rfl, iX7_kindOf_X7, by decide, by decide +kernel⟩
theorem eX7_kindOf_159 : Fk wsX7_kindOf RX7 159 7 19 := ⟨RX7, TX7, 28, rfl, iX7_kindOf_X7, by decide, by decide +kernel⟩
variable {p : Program} {l : Launch} {e : Env} {s : State} {m : MethodId} {args : Array Value} {below : List Frame} {meth : Method} {c : Code} {A : Nat → Prop} {G : Gt} {a_mo a_mo_numbers a_mo_boxes a_mo_words a_mo_weeks a_mo_routes a_mo_turns a_mo_leave a_mo_leases a_mo_uses a_mo_arcFrom a_mo_arcTo a_mo_arcRoom a_mo_arcCost a_mo_far a_mo_by a_mo_best a_mo_tape a_mo_kept : Nat} {m_arcs : Int32} {m_tapeMany : Int32} {m_tokenKind : Int32} {m_tokenAt : Int32} {m_tokenEnd : Int32} {m_tokenValue : Int32} {m_fault : Int32} {m_seen : Int32} {m_isKept : Int32} {m_place : Int32} {res : Int32}
set_option maxHeartbeats 4000000 in
set_option maxRecDepth 100000 in
theorem k0X7_kindOf {l : Launch} (G : Gt) (a_mo a_mo_numbers a_mo_boxes a_mo_words a_mo_weeks a_mo_routes a_mo_turns a_mo_leave a_mo_leases a_mo_uses a_mo_arcFrom a_mo_arcTo a_mo_arcRoom a_mo_arcCost a_mo_far a_mo_by a_mo_best a_mo_tape a_mo_kept : Nat)  (m_arcs : Int32) (m_tapeMany : Int32) (m_tokenKind : Int32) (m_tokenAt : Int32) (m_tokenEnd : Int32) (m_tokenValue : Int32) (m_fault : Int32) (m_seen : Int32) (m_isKept : Int32) (m_place : Int32) {res : Int32} (h : fX7_kindOf m_tokenKind m_tokenValue = some res) : CtI G l yX7_kindOf wsX7_kindOf rmX7_kindOf [.ref a_mo] (wX7_kindOf G a_mo a_mo_numbers a_mo_boxes a_mo_words a_mo_weeks a_mo_routes a_mo_turns a_mo_leave a_mo_leases a_mo_uses a_mo_arcFrom a_mo_arcTo a_mo_arcRoom a_mo_arcCost a_mo_far a_mo_by a_mo_best a_mo_tape a_mo_kept m_arcs m_tapeMany m_tokenKind m_tokenAt m_tokenEnd m_tokenValue m_fault m_seen m_isKept m_place) res (wX7_kindOf G a_mo a_mo_numbers a_mo_boxes a_mo_words a_mo_weeks a_mo_routes a_mo_turns a_mo_leave a_mo_leases a_mo_uses a_mo_arcFrom a_mo_arcTo a_mo_arcRoom a_mo_arcCost a_mo_far a_mo_by a_mo_best a_mo_tape a_mo_kept m_arcs m_tapeMany m_tokenKind m_tokenAt m_tokenEnd m_tokenValue m_fault m_seen m_isKept m_place) := by
  refine CtI.mk (cc := cX7_kindOf) (maxL := 1) (ret := (some .int)) (own := RX7) (by decide) rfl rfl (Nat.le_of_ble_eq_true rfl) ?_
  intro p e s m below meth c A X ls hl hW
  obtain ⟨hx, hb, -⟩ := id X.1
  have hl : lv_has ls 1 [(0, .ref a_mo)] := hl
  generalize hH : s.heap = H at hW ⊢
  generalize hLo : ([] : List Loc) = locs at hW ⊢
  rw [fX7_kindOf] at h
  refine lv_aload_n hx hb dX7_kindOf_0 rfl (lv_at hl 0 rfl) ?_
  refine g_get X hW eX7_kindOf_159 0 rfl rfl dX7_kindOf_1 ?_
  refine lv_iconst hx hb dX7_kindOf_4 qI_1 ?_
  refine lv_icmp_eq (tgt := 10) hx hb dX7_kindOf_5 (by decide) (fun c4 => ?_) (fun c4 => ?_)
  · have h := (if_pos c4).symm.trans h
    refine lv_aload_n hx hb dX7_kindOf_10 rfl (lv_at hl 0 rfl) ?_
    refine g_get X hW eX7_kindOf_156 0 rfl rfl dX7_kindOf_11 ?_
    by_cases c8 : m_tokenValue = (2968 : Int32)
    · have h := (if_pos c8).symm.trans h
      refine lv_lookup (off := 60) (tgt := 74) hx hb dX7_kindOf_14 (by decide) (by rw [c8]; try rfl) (by decide) ?_
      refine lv_iconst hx hb dX7_kindOf_74 qI_1 ?_
      obtain rfl := Option.some.inj h
      exact g_iret X hW dX7_kindOf_75
    replace h := (if_neg c8).symm.trans h
    by_cases c11 : m_tokenValue = (92275 : Int32)
    · have h := (if_pos c11).symm.trans h
      refine lv_lookup (off := 66) (tgt := 80) hx hb dX7_kindOf_14 (by decide) (by rw [c11]; try rfl) (by decide) ?_
      refine lv_iconst hx hb dX7_kindOf_80 qI_4 ?_
      obtain rfl := Option.some.inj h
      exact g_iret X hW dX7_kindOf_81
    replace h := (if_neg c11).symm.trans h
    by_cases c14 : m_tokenValue = (131360 : Int32)
    · have h := (if_pos c14).symm.trans h
      refine lv_lookup (off := 58) (tgt := 72) hx hb dX7_kindOf_14 (by decide) (by rw [c14]; try rfl) (by decide) ?_
      refine lv_iconst hx hb dX7_kindOf_72 qI_0 ?_
      obtain rfl := Option.some.inj h
      exact g_iret X hW dX7_kindOf_73
    replace h := (if_neg c14).symm.trans h
    by_cases c17 : m_tokenValue = (247664 : Int32)
    · have h := (if_pos c17).symm.trans h
      refine lv_lookup (off := 64) (tgt := 78) hx hb dX7_kindOf_14 (by decide) (by rw [c17]; try rfl) (by decide) ?_
      refine lv_iconst hx hb dX7_kindOf_78 qI_3 ?_
      obtain rfl := Option.some.inj h
      exact g_iret X hW dX7_kindOf_79
    replace h := (if_neg c17).symm.trans h
    by_cases c20 : m_tokenValue = (365647 : Int32)
    · have h := (if_pos c20).symm.trans h
      refine lv_lookup (off := 68) (tgt := 82) hx hb dX7_kindOf_14 (by decide) (by rw [c20]; try rfl) (by decide) ?_
      refine lv_bipush hx hb dX7_kindOf_82 qB_10 ?_
      obtain rfl := Option.some.inj h
      exact g_iret X hW dX7_kindOf_84
    replace h := (if_neg c20).symm.trans h
    by_cases c23 : m_tokenValue = (464144 : Int32)
    · have h := (if_pos c23).symm.trans h
      refine lv_lookup (off := 62) (tgt := 76) hx hb dX7_kindOf_14 (by decide) (by rw [c23]; try rfl) (by decide) ?_
      refine lv_iconst hx hb dX7_kindOf_76 qI_2 ?_
      obtain rfl := Option.some.inj h
      exact g_iret X hW dX7_kindOf_77
    replace h := (if_neg c23).symm.trans h
    have c8 : ¬ (2968 : Int) = m_tokenValue.toInt := fun q => lv_neT (a := 2968) c8 (by decide) q.symm
    have c11 : ¬ (92275 : Int) = m_tokenValue.toInt := fun q => lv_neT (a := 92275) c11 (by decide) q.symm
    have c14 : ¬ (131360 : Int) = m_tokenValue.toInt := fun q => lv_neT (a := 131360) c14 (by decide) q.symm
    have c17 : ¬ (247664 : Int) = m_tokenValue.toInt := fun q => lv_neT (a := 247664) c17 (by decide) q.symm
    have c20 : ¬ (365647 : Int) = m_tokenValue.toInt := fun q => lv_neT (a := 365647) c20 (by decide) q.symm
    have c23 : ¬ (464144 : Int) = m_tokenValue.toInt := fun q => lv_neT (a := 464144) c23 (by decide) q.symm
    refine lv_lookup (off := 71) (tgt := 85) hx hb dX7_kindOf_14 (by decide) (by simp [Op.lookupswitch.offset, c8, c11, c14, c17, c20, c23]) (by decide) ?_
    refine lv_iconst hx hb dX7_kindOf_85 qI_m1 ?_
    obtain rfl := Option.some.inj h
    exact g_iret X hW dX7_kindOf_86
  · have h := (if_neg c4).symm.trans h
    refine lv_iconst hx hb dX7_kindOf_8 qI_m1 ?_
    obtain rfl := Option.some.inj h
    exact g_iret X hW dX7_kindOf_9
theorem kcX7_kindOf {l : Launch} (G : Gt) (a_mo a_mo_numbers a_mo_boxes a_mo_words a_mo_weeks a_mo_routes a_mo_turns a_mo_leave a_mo_leases a_mo_uses a_mo_arcFrom a_mo_arcTo a_mo_arcRoom a_mo_arcCost a_mo_far a_mo_by a_mo_best a_mo_tape a_mo_kept : Nat)  (m_arcs : Int32) (m_tapeMany : Int32) (m_tokenKind : Int32) (m_tokenAt : Int32) (m_tokenEnd : Int32) (m_tokenValue : Int32) (m_fault : Int32) (m_seen : Int32) (m_isKept : Int32) (m_place : Int32) {r : Int32}  (h : fX7_kindOf m_tokenKind m_tokenValue = some r) : CtI G l yX7_kindOf wsX7_kindOf rmX7_kindOf [.ref a_mo] (wX7_kindOf G a_mo a_mo_numbers a_mo_boxes a_mo_words a_mo_weeks a_mo_routes a_mo_turns a_mo_leave a_mo_leases a_mo_uses a_mo_arcFrom a_mo_arcTo a_mo_arcRoom a_mo_arcCost a_mo_far a_mo_by a_mo_best a_mo_tape a_mo_kept m_arcs m_tapeMany m_tokenKind m_tokenAt m_tokenEnd m_tokenValue m_fault m_seen m_isKept m_place) r (wX7_kindOf G a_mo a_mo_numbers a_mo_boxes a_mo_words a_mo_weeks a_mo_routes a_mo_turns a_mo_leave a_mo_leases a_mo_uses a_mo_arcFrom a_mo_arcTo a_mo_arcRoom a_mo_arcCost a_mo_far a_mo_by a_mo_best a_mo_tape a_mo_kept m_arcs m_tapeMany m_tokenKind m_tokenAt m_tokenEnd m_tokenValue m_fault m_seen m_isKept m_place) := k0X7_kindOf G a_mo a_mo_numbers a_mo_boxes a_mo_words a_mo_weeks a_mo_routes a_mo_turns a_mo_leave a_mo_leases a_mo_uses a_mo_arcFrom a_mo_arcTo a_mo_arcRoom a_mo_arcCost a_mo_far a_mo_by a_mo_best a_mo_tape a_mo_kept m_arcs m_tapeMany m_tokenKind m_tokenAt m_tokenEnd m_tokenValue m_fault m_seen m_isKept m_place h
end MX7_kindOf
/-! EmptyBoxesModel.wantClause -/
section MX7_wantClause
theorem hdX7_wantClause : yX7_wantClause.cls = RX7 ∧ yX7_wantClause.cls ≠ "java/lang/invoke/MethodHandle" ∧ yX7_wantClause.cls ≠ "java/lang/invoke/VarHandle" ∧ (parseMethodDescriptor yX7_wantClause.desc).map (fun d => d.parameters.length) = some 0 := by decide +kernel
abbrev wX7_wantClause (G : Gt) (a_mo a_mo_leases a_mo_tape a_mo_numbers a_mo_boxes a_mo_words a_mo_weeks a_mo_routes a_mo_turns a_mo_leave a_mo_uses a_mo_arcFrom a_mo_arcTo a_mo_arcRoom a_mo_arcCost a_mo_far a_mo_by a_mo_best a_mo_kept : Nat) (m_arcs : Int32) (m_tapeMany : Int32) (m_tokenKind : Int32) (m_tokenAt : Int32) (m_tokenEnd : Int32) (m_tokenValue : Int32) (m_fault : Int32) (m_seen : Int32) (m_isKept : Int32) (m_place : Int32) (m_leases : (Nat → Int32)) (m_tape : (Nat → Int32)) : va_W := [(a_mo, .inr (7, [.ref a_mo_numbers, .ref a_mo_boxes, .ref a_mo_words, .ref a_mo_weeks, .ref a_mo_routes, .ref a_mo_turns, .ref a_mo_leave, .ref a_mo_leases, .ref a_mo_uses, .ref a_mo_arcFrom, .ref a_mo_arcTo, .ref a_mo_arcRoom, .ref a_mo_arcCost, .int m_arcs, .ref a_mo_far, .ref a_mo_by, .ref a_mo_best, .ref a_mo_tape, .int m_tapeMany, .int m_tokenKind, .int m_tokenAt, .int m_tokenEnd, .int m_tokenValue, .int m_fault, .int m_seen, .int m_isKept, .ref a_mo_kept, .int m_place])), (a_mo_leases, .inl (G.2.1, 68, .inl m_leases)), (a_mo_tape, .inl (G.2.1, 120, .inl m_tape))]
abbrev rmX7_wantClause : Room := { frames := 3, cells := 0, slots := 0, locals := 63 }
theorem iX7_wantClause_X7 : ∀ w ∈ wsX70, w ∈ wsX7_wantClause := by decide +kernel
theorem eX7_wantClause_150 : Fk wsX7_wantClause RX7 150 7 21 := ⟨RX7, TX7, 28, rfl, iX7_wantClause_X7, by decide, by decide +kernel⟩
theorem eX7_wantClause_153 : Fk wsX7_wantClause RX7 153 7 20 := ⟨RX7, TX7, 28, rfl, iX7_wantClause_X7, by decide, by decide +kernel⟩
theorem eX7_wantClause_156 : Fk wsX7_wantClause RX7 156 7 22 := ⟨RX7, TX7, 28, rfl, iX7_wantClause_X7, by decide, by decide +kernel⟩
theorem eX7_wantClause_159 : Fk wsX7_wantClause RX7 159 7 19 := ⟨RX7, TX7, 28, rfl, iX7_wantClause_X7, by decide, by decide +kernel⟩
theorem eX7_wantClause_184 : Fk wsX7_wantClause RX7 184 7 24 := ⟨RX7, TX7, 28, rfl, iX7_wantClause_X7, by decide, by decide +kernel⟩
theorem eX7_wantClause_31 : Fk wsX7_wantClause RX7 31 7 7 := ⟨RX7, TX7, 28, rfl, iX7_wantClause_X7, by decide, by decide +kernel⟩
theorem pX7_wantClause_184 : Fp wsX7_wantClause RX7 184 7 24 .int := ⟨RX7, TX7, 28, tyX7, rfl, iX7_wantClause_X7, by decide, by decide +kernel, tyX7_ok, nmX7, rfl, by decide +kernel⟩
theorem ckX7_wantClause_X7_advance_175 : CkV wsX7_wantClause RX7 175 yX7_advance wsX7_advance cX7_advance 2 none 0 7 := ⟨RX7, TX7, 28, _, rfl, gX7_wantClause_X7_advance, rfl, hdX7_advance⟩
theorem ckX7_wantClause_X7_isGood_171 : CkV wsX7_wantClause RX7 171 yX7_isGood wsX7_isGood cX7_isGood 1 (some .boolean) 0 7 := ⟨RX7, TX7, 28, _, rfl, gX7_wantClause_X7_isGood, rfl, hdX7_isGood⟩
theorem ckX7_wantClause_X7_kindOf_181 : CkV wsX7_wantClause RX7 181 yX7_kindOf wsX7_kindOf cX7_kindOf 1 (some .int) 0 7 := ⟨RX7, TX7, 28, _, rfl, gX7_wantClause_X7_kindOf, rfl, hdX7_kindOf⟩
theorem ckX7_wantClause_X7_wantNumber_187 : CkV wsX7_wantClause RX7 187 yX7_wantNumber wsX7_wantNumber cX7_wantNumber 3 (some .int) 1 7 := ⟨RX7, TX7, 28, _, rfl, gX7_wantClause_X7_wantNumber, rfl, hdX7_wantNumber⟩
theorem ckX7_wantClause_X7_wrong_178 : CkV wsX7_wantClause RX7 178 yX7_wrong wsX7_wrong cX7_wrong 1 none 0 7 := ⟨RX7, TX7, 28, _, rfl, gX7_wantClause_X7_wrong, rfl, hdX7_wrong⟩
variable {p : Program} {l : Launch} {e : Env} {s : State} {m : MethodId} {args : Array Value} {below : List Frame} {meth : Method} {c : Code} {A : Nat → Prop} {G : Gt} {a_mo a_mo_leases a_mo_tape a_mo_numbers a_mo_boxes a_mo_words a_mo_weeks a_mo_routes a_mo_turns a_mo_leave a_mo_uses a_mo_arcFrom a_mo_arcTo a_mo_arcRoom a_mo_arcCost a_mo_far a_mo_by a_mo_best a_mo_kept : Nat} {m_arcs : Int32} {m_tapeMany : Int32} {m_isKept : Int32} {m_place : Int32} {m_tape : (Nat → Int32)} {res : Int32 × Int32 × Int32 × Int32 × Int32 × Int32 × (Nat → Int32)}
set_option maxHeartbeats 4000000 in
set_option maxRecDepth 100000 in
theorem tX7_wantClause_26 (X : Bx p s m args meth c cX7_wantClause 3 wsX7_wantClause RX7 none) (m_tokenKind : Int32) (m_tokenAt : Int32) (m_tokenEnd : Int32) (m_tokenValue : Int32) (m_fault : Int32) (m_seen : Int32) (m_leases : (Nat → Int32))   (h : fX7_wantClause_26 m_tokenKind m_tokenAt m_tokenEnd m_tokenValue m_fault m_seen m_leases = some res) : ∀ (H : Heap) (locs : List Loc), Wo G A s (wX7_wantClause G a_mo a_mo_leases a_mo_tape a_mo_numbers a_mo_boxes a_mo_words a_mo_weeks a_mo_routes a_mo_turns a_mo_leave a_mo_uses a_mo_arcFrom a_mo_arcTo a_mo_arcRoom a_mo_arcCost a_mo_far a_mo_by a_mo_best a_mo_kept m_arcs m_tapeMany m_tokenKind m_tokenAt m_tokenEnd m_tokenValue m_fault m_seen m_isKept m_place m_leases m_tape) H locs → ∀ ls : Array Slot, lv_has ls 3 [(0, .ref a_mo)] → W p l e rmX7_wantClause s m args below meth c H locs 0 0 (QV G A below args s (wX7_wantClause G a_mo a_mo_leases a_mo_tape a_mo_numbers a_mo_boxes a_mo_words a_mo_weeks a_mo_routes a_mo_turns a_mo_leave a_mo_uses a_mo_arcFrom a_mo_arcTo a_mo_arcRoom a_mo_arcCost a_mo_far a_mo_by a_mo_best a_mo_kept m_arcs m_tapeMany res.1 res.2.1 res.2.2.1 res.2.2.2.1 res.2.2.2.2.1 res.2.2.2.2.2.1 m_isKept m_place res.2.2.2.2.2.2 m_tape)) (F0 m 26 ls []) := by
  obtain ⟨hx, hb, -⟩ := id X.1
  intro H locs hW ls hl
  rw [fX7_wantClause_26] at h
  refine lv_aload_n hx hb dX7_wantClause_26 rfl (lv_at hl 0 rfl) ?_
  obtain ⟨o2_m_fault, hq, h⟩ := bn1_some h
  refine g_cvv X hW (As := []) (ws' := (wX7_wantClause G a_mo a_mo_leases a_mo_tape a_mo_numbers a_mo_boxes a_mo_words a_mo_weeks a_mo_routes a_mo_turns a_mo_leave a_mo_uses a_mo_arcFrom a_mo_arcTo a_mo_arcRoom a_mo_arcCost a_mo_far a_mo_by a_mo_best a_mo_kept m_arcs m_tapeMany m_tokenKind m_tokenAt m_tokenEnd m_tokenValue o2_m_fault m_seen m_isKept m_place m_leases m_tape)) ckX7_wantClause_X7_wrong_178 (kcX7_wrong (l := l) G a_mo a_mo_numbers a_mo_boxes a_mo_words a_mo_weeks a_mo_routes a_mo_turns a_mo_leave a_mo_leases a_mo_uses a_mo_arcFrom a_mo_arcTo a_mo_arcRoom a_mo_arcCost a_mo_far a_mo_by a_mo_best a_mo_tape a_mo_kept m_arcs m_tapeMany m_tokenKind m_tokenAt m_tokenEnd m_tokenValue m_fault m_seen m_isKept m_place hq) ⟨rfl, rfl, Nat.le_of_ble_eq_true rfl, Nat.le_of_ble_eq_true rfl⟩ [0] rfl rfl rfl rfl rfl rfl rfl hl.1 (Nat.le_of_ble_eq_true rfl) ⟨Nat.zero_le _, Nat.zero_le _⟩ dX7_wantClause_27 (fun H locs hW => ?_)
  obtain rfl := Option.some.inj h
  exact g_vret X hW dX7_wantClause_30
set_option maxHeartbeats 4000000 in
set_option maxRecDepth 100000 in
theorem tX7_wantClause_169 (X : Bx p s m args meth c cX7_wantClause 3 wsX7_wantClause RX7 none) (m_tokenKind : Int32) (m_tokenAt : Int32) (m_tokenEnd : Int32) (m_tokenValue : Int32) (m_fault : Int32) (m_seen : Int32) (m_leases : (Nat → Int32))   (h : fX7_wantClause_169 m_tokenKind m_tokenAt m_tokenEnd m_tokenValue m_fault m_seen m_leases = some res) : ∀ (H : Heap) (locs : List Loc), Wo G A s (wX7_wantClause G a_mo a_mo_leases a_mo_tape a_mo_numbers a_mo_boxes a_mo_words a_mo_weeks a_mo_routes a_mo_turns a_mo_leave a_mo_uses a_mo_arcFrom a_mo_arcTo a_mo_arcRoom a_mo_arcCost a_mo_far a_mo_by a_mo_best a_mo_kept m_arcs m_tapeMany m_tokenKind m_tokenAt m_tokenEnd m_tokenValue m_fault m_seen m_isKept m_place m_leases m_tape) H locs → ∀ ls : Array Slot, lv_has ls 3 [(0, .ref a_mo)] → W p l e rmX7_wantClause s m args below meth c H locs 0 0 (QV G A below args s (wX7_wantClause G a_mo a_mo_leases a_mo_tape a_mo_numbers a_mo_boxes a_mo_words a_mo_weeks a_mo_routes a_mo_turns a_mo_leave a_mo_uses a_mo_arcFrom a_mo_arcTo a_mo_arcRoom a_mo_arcCost a_mo_far a_mo_by a_mo_best a_mo_kept m_arcs m_tapeMany res.1 res.2.1 res.2.2.1 res.2.2.2.1 res.2.2.2.2.1 res.2.2.2.2.2.1 m_isKept m_place res.2.2.2.2.2.2 m_tape)) (F0 m 169 ls []) := by
  obtain ⟨hx, hb, -⟩ := id X.1
  intro H locs hW ls hl
  rw [fX7_wantClause_169] at h
  refine lv_aload_n hx hb dX7_wantClause_169 rfl (lv_at hl 0 rfl) ?_
  obtain ⟨o5_m_fault, hq, h⟩ := bn1_some h
  refine g_cvv X hW (As := []) (ws' := (wX7_wantClause G a_mo a_mo_leases a_mo_tape a_mo_numbers a_mo_boxes a_mo_words a_mo_weeks a_mo_routes a_mo_turns a_mo_leave a_mo_uses a_mo_arcFrom a_mo_arcTo a_mo_arcRoom a_mo_arcCost a_mo_far a_mo_by a_mo_best a_mo_kept m_arcs m_tapeMany m_tokenKind m_tokenAt m_tokenEnd m_tokenValue o5_m_fault m_seen m_isKept m_place m_leases m_tape)) ckX7_wantClause_X7_wrong_178 (kcX7_wrong (l := l) G a_mo a_mo_numbers a_mo_boxes a_mo_words a_mo_weeks a_mo_routes a_mo_turns a_mo_leave a_mo_leases a_mo_uses a_mo_arcFrom a_mo_arcTo a_mo_arcRoom a_mo_arcCost a_mo_far a_mo_by a_mo_best a_mo_tape a_mo_kept m_arcs m_tapeMany m_tokenKind m_tokenAt m_tokenEnd m_tokenValue m_fault m_seen m_isKept m_place hq) ⟨rfl, rfl, Nat.le_of_ble_eq_true rfl, Nat.le_of_ble_eq_true rfl⟩ [0] rfl rfl rfl rfl rfl rfl rfl hl.1 (Nat.le_of_ble_eq_true rfl) ⟨Nat.zero_le _, Nat.zero_le _⟩ dX7_wantClause_170 (fun H locs hW => ?_)
  obtain rfl := Option.some.inj h
  exact g_vret X hW dX7_wantClause_173
set_option maxHeartbeats 4000000 in
set_option maxRecDepth 100000 in
theorem tX7_wantClause_108 (X : Bx p s m args meth c cX7_wantClause 3 wsX7_wantClause RX7 none) (v1 : Int32) (m_tokenKind : Int32) (m_tokenAt : Int32) (m_tokenEnd : Int32) (m_tokenValue : Int32) (m_fault : Int32) (m_seen : Int32) (m_leases : (Nat → Int32))   (h : fX7_wantClause_108 v1 m_tapeMany m_tokenKind m_tokenAt m_tokenEnd m_tokenValue m_fault m_seen m_leases m_tape = some res) : ∀ (H : Heap) (locs : List Loc), Wo G A s (wX7_wantClause G a_mo a_mo_leases a_mo_tape a_mo_numbers a_mo_boxes a_mo_words a_mo_weeks a_mo_routes a_mo_turns a_mo_leave a_mo_uses a_mo_arcFrom a_mo_arcTo a_mo_arcRoom a_mo_arcCost a_mo_far a_mo_by a_mo_best a_mo_kept m_arcs m_tapeMany m_tokenKind m_tokenAt m_tokenEnd m_tokenValue m_fault m_seen m_isKept m_place m_leases m_tape) H locs → ∀ ls : Array Slot, lv_has ls 3 [(0, .ref a_mo), (1, .int v1)] → W p l e rmX7_wantClause s m args below meth c H locs 0 0 (QV G A below args s (wX7_wantClause G a_mo a_mo_leases a_mo_tape a_mo_numbers a_mo_boxes a_mo_words a_mo_weeks a_mo_routes a_mo_turns a_mo_leave a_mo_uses a_mo_arcFrom a_mo_arcTo a_mo_arcRoom a_mo_arcCost a_mo_far a_mo_by a_mo_best a_mo_kept m_arcs m_tapeMany res.1 res.2.1 res.2.2.1 res.2.2.2.1 res.2.2.2.2.1 res.2.2.2.2.2.1 m_isKept m_place res.2.2.2.2.2.2 m_tape)) (F0 m 108 ls []) := by
  obtain ⟨hx, hb, -⟩ := id X.1
  intro H locs hW ls hl
  rw [fX7_wantClause_108] at h
  refine lv_aload_n hx hb dX7_wantClause_108 rfl (lv_at hl 0 rfl) ?_
  refine lv_sipush hx hb dX7_wantClause_109 qS_999 ?_
  obtain ⟨r9, o9_m_tokenKind, o9_m_tokenAt, o9_m_tokenEnd, o9_m_tokenValue, o9_m_fault, hq, h⟩ := bn6_some h
  refine g_cvi X hW (As := [.int (999 : Int32)]) (ws' := (wX7_wantClause G a_mo a_mo_leases a_mo_tape a_mo_numbers a_mo_boxes a_mo_words a_mo_weeks a_mo_routes a_mo_turns a_mo_leave a_mo_uses a_mo_arcFrom a_mo_arcTo a_mo_arcRoom a_mo_arcCost a_mo_far a_mo_by a_mo_best a_mo_kept m_arcs m_tapeMany o9_m_tokenKind o9_m_tokenAt o9_m_tokenEnd o9_m_tokenValue o9_m_fault m_seen m_isKept m_place m_leases m_tape)) ckX7_wantClause_X7_wantNumber_187 (kcX7_wantNumber (l := l) G a_mo a_mo_tape a_mo_numbers a_mo_boxes a_mo_words a_mo_weeks a_mo_routes a_mo_turns a_mo_leave a_mo_leases a_mo_uses a_mo_arcFrom a_mo_arcTo a_mo_arcRoom a_mo_arcCost a_mo_far a_mo_by a_mo_best a_mo_kept (999 : Int32) m_arcs m_tapeMany m_tokenKind m_tokenAt m_tokenEnd m_tokenValue m_fault m_seen m_isKept m_place m_tape hq) ⟨rfl, rfl, Nat.le_of_ble_eq_true rfl, Nat.le_of_ble_eq_true rfl⟩ [0, 2] rfl rfl rfl rfl rfl rfl rfl hl.1 (Nat.le_of_ble_eq_true rfl) ⟨Nat.zero_le _, Nat.zero_le _⟩ dX7_wantClause_112 (fun H locs hW => ?_)
  refine lv_istore_n (lv' := [(2, .int r9), (0, .ref a_mo), (1, .int v1)]) hx hb dX7_wantClause_115 rfl hl (by decide) rfl (fun ls hl => ?_)
  refine lv_aload_n hx hb dX7_wantClause_116 rfl (lv_at hl 1 rfl) ?_
  obtain ⟨r12, hq, h⟩ := bn1_some h
  refine g_cvi X hW (As := []) (ws' := (wX7_wantClause G a_mo a_mo_leases a_mo_tape a_mo_numbers a_mo_boxes a_mo_words a_mo_weeks a_mo_routes a_mo_turns a_mo_leave a_mo_uses a_mo_arcFrom a_mo_arcTo a_mo_arcRoom a_mo_arcCost a_mo_far a_mo_by a_mo_best a_mo_kept m_arcs m_tapeMany o9_m_tokenKind o9_m_tokenAt o9_m_tokenEnd o9_m_tokenValue o9_m_fault m_seen m_isKept m_place m_leases m_tape)) ckX7_wantClause_X7_isGood_171 (kcX7_isGood (l := l) G a_mo a_mo_numbers a_mo_boxes a_mo_words a_mo_weeks a_mo_routes a_mo_turns a_mo_leave a_mo_leases a_mo_uses a_mo_arcFrom a_mo_arcTo a_mo_arcRoom a_mo_arcCost a_mo_far a_mo_by a_mo_best a_mo_tape a_mo_kept m_arcs m_tapeMany o9_m_tokenKind o9_m_tokenAt o9_m_tokenEnd o9_m_tokenValue o9_m_fault m_seen m_isKept m_place hq) ⟨rfl, rfl, Nat.le_of_ble_eq_true rfl, Nat.le_of_ble_eq_true rfl⟩ [0] rfl rfl rfl rfl rfl rfl rfl hl.1 (Nat.le_of_ble_eq_true rfl) ⟨Nat.zero_le _, Nat.zero_le _⟩ dX7_wantClause_117 (fun H locs hW => ?_)
  refine lv_if_eq (tgt := 173) hx hb dX7_wantClause_120 (by decide) (fun c13 => ?_) (fun c13 => ?_)
  · have h := (if_pos c13).symm.trans h
    obtain rfl := Option.some.inj h
    exact g_vret X hW dX7_wantClause_173
  · have h := (if_neg c13).symm.trans h
    refine lv_aload_n hx hb dX7_wantClause_123 rfl (lv_at hl 1 rfl) ?_
    refine lv_dup hx hb dX7_wantClause_124 rfl ?_
    refine g_get X hW eX7_wantClause_184 0 rfl rfl dX7_wantClause_125 ?_
    refine lv_iconst hx hb dX7_wantClause_128 qI_1 ?_
    refine lv_iload_n hx hb dX7_wantClause_129 rfl (lv_at hl 2 rfl) ?_
    refine g_ishl hx hb dX7_wantClause_130 ?_
    refine lv_ior hx hb dX7_wantClause_131 ?_
    refine g_put X hW (ws' := (wX7_wantClause G a_mo a_mo_leases a_mo_tape a_mo_numbers a_mo_boxes a_mo_words a_mo_weeks a_mo_routes a_mo_turns a_mo_leave a_mo_uses a_mo_arcFrom a_mo_arcTo a_mo_arcRoom a_mo_arcCost a_mo_far a_mo_by a_mo_best a_mo_kept m_arcs m_tapeMany o9_m_tokenKind o9_m_tokenAt o9_m_tokenEnd o9_m_tokenValue o9_m_fault (m_seen ||| (ishl (1 : Int32) v1)) m_isKept m_place m_leases m_tape)) pX7_wantClause_184 0 rfl (Nat.le_of_ble_eq_true rfl) rfl rfl rfl dX7_wantClause_132 (fun H locs hW => ?_)
    refine lv_aload_n hx hb dX7_wantClause_135 rfl (lv_at hl 1 rfl) ?_
    refine g_get X hW eX7_wantClause_31 0 rfl rfl dX7_wantClause_136 ?_
    refine lv_bipush hx hb dX7_wantClause_139 qB_51 ?_
    refine lv_iload_n hx hb dX7_wantClause_141 rfl (lv_at hl 2 rfl) ?_
    refine lv_iadd hx hb dX7_wantClause_142 ?_
    refine lv_iload_n hx hb dX7_wantClause_143 rfl (lv_at hl 0 rfl) ?_
    obtain ⟨g29, h⟩ := gd_some h
    refine g_ast X hW (ws' := (wX7_wantClause G a_mo a_mo_leases a_mo_tape a_mo_numbers a_mo_boxes a_mo_words a_mo_weeks a_mo_routes a_mo_turns a_mo_leave a_mo_uses a_mo_arcFrom a_mo_arcTo a_mo_arcRoom a_mo_arcCost a_mo_far a_mo_by a_mo_best a_mo_kept m_arcs m_tapeMany o9_m_tokenKind o9_m_tokenAt o9_m_tokenEnd o9_m_tokenValue o9_m_fault (m_seen ||| (ishl (1 : Int32) v1)) m_isKept m_place (upd m_leases ((51 : Int32) + v1).toNatClampNeg r9) m_tape)) 1 rfl g29 rfl dX7_wantClause_144 (fun H locs hW => ?_)
    refine lv_aload_n hx hb dX7_wantClause_145 rfl (lv_at hl 1 rfl) ?_
    refine g_get X hW eX7_wantClause_159 0 rfl rfl dX7_wantClause_146 ?_
    refine lv_iconst hx hb dX7_wantClause_149 qI_3 ?_
    refine lv_icmp_ne (tgt := 169) hx hb dX7_wantClause_150 (by decide) (fun c33 => ?_) (fun c33 => ?_)
    · have h := (if_neg c33).symm.trans h
      exact tX7_wantClause_169 X o9_m_tokenKind o9_m_tokenAt o9_m_tokenEnd o9_m_tokenValue o9_m_fault (m_seen ||| (ishl (1 : Int32) v1)) (upd m_leases ((51 : Int32) + v1).toNatClampNeg r9) h H locs hW ls (lv_sub hl [1] rfl)
    · have h := (if_pos c33).symm.trans h
      refine lv_aload_n hx hb dX7_wantClause_153 rfl (lv_at hl 1 rfl) ?_
      refine g_get X hW eX7_wantClause_156 0 rfl rfl dX7_wantClause_154 ?_
      refine lv_bipush hx hb dX7_wantClause_157 qB_59 ?_
      refine lv_icmp_ne (tgt := 169) hx hb dX7_wantClause_159 (by decide) (fun c37 => ?_) (fun c37 => ?_)
      · have h := (if_neg c37).symm.trans h
        exact tX7_wantClause_169 X o9_m_tokenKind o9_m_tokenAt o9_m_tokenEnd o9_m_tokenValue o9_m_fault (m_seen ||| (ishl (1 : Int32) v1)) (upd m_leases ((51 : Int32) + v1).toNatClampNeg r9) h H locs hW ls (lv_sub hl [1] rfl)
      · have h := (if_pos c37).symm.trans h
        refine lv_aload_n hx hb dX7_wantClause_162 rfl (lv_at hl 1 rfl) ?_
        obtain ⟨o39_m_tokenKind, o39_m_tokenAt, o39_m_tokenEnd, o39_m_tokenValue, hq, h⟩ := bn4_some h
        refine g_cvv X hW (As := []) (ws' := (wX7_wantClause G a_mo a_mo_leases a_mo_tape a_mo_numbers a_mo_boxes a_mo_words a_mo_weeks a_mo_routes a_mo_turns a_mo_leave a_mo_uses a_mo_arcFrom a_mo_arcTo a_mo_arcRoom a_mo_arcCost a_mo_far a_mo_by a_mo_best a_mo_kept m_arcs m_tapeMany o39_m_tokenKind o39_m_tokenAt o39_m_tokenEnd o39_m_tokenValue o9_m_fault (m_seen ||| (ishl (1 : Int32) v1)) m_isKept m_place (upd m_leases ((51 : Int32) + v1).toNatClampNeg r9) m_tape)) ckX7_wantClause_X7_advance_175 (kcX7_advance (l := l) G a_mo a_mo_tape a_mo_numbers a_mo_boxes a_mo_words a_mo_weeks a_mo_routes a_mo_turns a_mo_leave a_mo_leases a_mo_uses a_mo_arcFrom a_mo_arcTo a_mo_arcRoom a_mo_arcCost a_mo_far a_mo_by a_mo_best a_mo_kept m_arcs m_tapeMany o9_m_tokenKind o9_m_tokenAt o9_m_tokenEnd o9_m_tokenValue o9_m_fault (m_seen ||| (ishl (1 : Int32) v1)) m_isKept m_place m_tape hq) ⟨rfl, rfl, Nat.le_of_ble_eq_true rfl, Nat.le_of_ble_eq_true rfl⟩ [0, 2] rfl rfl rfl rfl rfl rfl rfl hl.1 (Nat.le_of_ble_eq_true rfl) ⟨Nat.zero_le _, Nat.zero_le _⟩ dX7_wantClause_163 (fun H locs hW => ?_)
        refine lv_goto (tgt := 173) hx hb dX7_wantClause_166 (by decide) ?_
        obtain rfl := Option.some.inj h
        exact g_vret X hW dX7_wantClause_173
set_option maxHeartbeats 4000000 in
set_option maxRecDepth 100000 in
theorem tX7_wantClause_100 (X : Bx p s m args meth c cX7_wantClause 3 wsX7_wantClause RX7 none) (v1 : Int32) (m_tokenKind : Int32) (m_tokenAt : Int32) (m_tokenEnd : Int32) (m_tokenValue : Int32) (m_fault : Int32) (m_seen : Int32) (m_leases : (Nat → Int32))   (h : fX7_wantClause_100 v1 m_tapeMany m_tokenKind m_tokenAt m_tokenEnd m_tokenValue m_fault m_seen m_leases m_tape = some res) : ∀ (H : Heap) (locs : List Loc), Wo G A s (wX7_wantClause G a_mo a_mo_leases a_mo_tape a_mo_numbers a_mo_boxes a_mo_words a_mo_weeks a_mo_routes a_mo_turns a_mo_leave a_mo_uses a_mo_arcFrom a_mo_arcTo a_mo_arcRoom a_mo_arcCost a_mo_far a_mo_by a_mo_best a_mo_kept m_arcs m_tapeMany m_tokenKind m_tokenAt m_tokenEnd m_tokenValue m_fault m_seen m_isKept m_place m_leases m_tape) H locs → ∀ ls : Array Slot, lv_has ls 3 [(0, .ref a_mo), (1, .int v1)] → W p l e rmX7_wantClause s m args below meth c H locs 0 0 (QV G A below args s (wX7_wantClause G a_mo a_mo_leases a_mo_tape a_mo_numbers a_mo_boxes a_mo_words a_mo_weeks a_mo_routes a_mo_turns a_mo_leave a_mo_uses a_mo_arcFrom a_mo_arcTo a_mo_arcRoom a_mo_arcCost a_mo_far a_mo_by a_mo_best a_mo_kept m_arcs m_tapeMany res.1 res.2.1 res.2.2.1 res.2.2.2.1 res.2.2.2.2.1 res.2.2.2.2.2.1 m_isKept m_place res.2.2.2.2.2.2 m_tape)) (F0 m 100 ls []) := by
  obtain ⟨hx, hb, -⟩ := id X.1
  intro H locs hW ls hl
  rw [fX7_wantClause_100] at h
  refine lv_iload_n hx hb dX7_wantClause_100 rfl (lv_at hl 1 rfl) ?_
  refine lv_aload_n hx hb dX7_wantClause_101 rfl (lv_at hl 0 rfl) ?_
  refine lv_iconst hx hb dX7_wantClause_102 qI_5 ?_
  obtain ⟨r45, o45_m_tokenKind, o45_m_tokenAt, o45_m_tokenEnd, o45_m_tokenValue, o45_m_fault, hq, h⟩ := bn6_some h
  refine g_cvi X hW (As := [.int (5 : Int32)]) (ws' := (wX7_wantClause G a_mo a_mo_leases a_mo_tape a_mo_numbers a_mo_boxes a_mo_words a_mo_weeks a_mo_routes a_mo_turns a_mo_leave a_mo_uses a_mo_arcFrom a_mo_arcTo a_mo_arcRoom a_mo_arcCost a_mo_far a_mo_by a_mo_best a_mo_kept m_arcs m_tapeMany o45_m_tokenKind o45_m_tokenAt o45_m_tokenEnd o45_m_tokenValue o45_m_fault m_seen m_isKept m_place m_leases m_tape)) ckX7_wantClause_X7_wantNumber_187 (kcX7_wantNumber (l := l) G a_mo a_mo_tape a_mo_numbers a_mo_boxes a_mo_words a_mo_weeks a_mo_routes a_mo_turns a_mo_leave a_mo_leases a_mo_uses a_mo_arcFrom a_mo_arcTo a_mo_arcRoom a_mo_arcCost a_mo_far a_mo_by a_mo_best a_mo_kept (5 : Int32) m_arcs m_tapeMany m_tokenKind m_tokenAt m_tokenEnd m_tokenValue m_fault m_seen m_isKept m_place m_tape hq) ⟨rfl, rfl, Nat.le_of_ble_eq_true rfl, Nat.le_of_ble_eq_true rfl⟩ [0, 2] rfl rfl rfl rfl rfl rfl rfl hl.1 (Nat.le_of_ble_eq_true rfl) ⟨Nat.zero_le _, Nat.zero_le _⟩ dX7_wantClause_103 (fun H locs hW => ?_)
  refine lv_iadd hx hb dX7_wantClause_106 ?_
  refine lv_istore_n (lv' := [(1, .int (v1 + r45)), (0, .ref a_mo)]) hx hb dX7_wantClause_107 rfl hl (by decide) rfl (fun ls hl => ?_)
  exact tX7_wantClause_108 X (v1 + r45) o45_m_tokenKind o45_m_tokenAt o45_m_tokenEnd o45_m_tokenValue o45_m_fault m_seen m_leases h H locs hW ls (lv_sub hl [1, 0] rfl)
set_option maxHeartbeats 4000000 in
set_option maxRecDepth 100000 in
theorem tX7_wantClause_91 (X : Bx p s m args meth c cX7_wantClause 3 wsX7_wantClause RX7 none) (v1 : Int32) (t0 : Int32) (m_tokenKind : Int32) (m_tokenAt : Int32) (m_tokenEnd : Int32) (m_tokenValue : Int32) (m_fault : Int32) (m_seen : Int32) (m_leases : (Nat → Int32))   (h : fX7_wantClause_91 v1 t0 m_tapeMany m_tokenKind m_tokenAt m_tokenEnd m_tokenValue m_fault m_seen m_leases m_tape = some res) : ∀ (H : Heap) (locs : List Loc), Wo G A s (wX7_wantClause G a_mo a_mo_leases a_mo_tape a_mo_numbers a_mo_boxes a_mo_words a_mo_weeks a_mo_routes a_mo_turns a_mo_leave a_mo_uses a_mo_arcFrom a_mo_arcTo a_mo_arcRoom a_mo_arcCost a_mo_far a_mo_by a_mo_best a_mo_kept m_arcs m_tapeMany m_tokenKind m_tokenAt m_tokenEnd m_tokenValue m_fault m_seen m_isKept m_place m_leases m_tape) H locs → ∀ ls : Array Slot, lv_has ls 3 [(0, .ref a_mo), (1, .int v1)] → W p l e rmX7_wantClause s m args below meth c H locs 0 0 (QV G A below args s (wX7_wantClause G a_mo a_mo_leases a_mo_tape a_mo_numbers a_mo_boxes a_mo_words a_mo_weeks a_mo_routes a_mo_turns a_mo_leave a_mo_uses a_mo_arcFrom a_mo_arcTo a_mo_arcRoom a_mo_arcCost a_mo_far a_mo_by a_mo_best a_mo_kept m_arcs m_tapeMany res.1 res.2.1 res.2.2.1 res.2.2.2.1 res.2.2.2.2.1 res.2.2.2.2.2.1 m_isKept m_place res.2.2.2.2.2.2 m_tape)) (F0 m 91 ls [.int t0]) := by
  obtain ⟨hx, hb, -⟩ := id X.1
  intro H locs hW ls hl
  rw [fX7_wantClause_91] at h
  refine lv_istore_n (lv' := [(2, .int t0), (0, .ref a_mo), (1, .int v1)]) hx hb dX7_wantClause_91 rfl hl (by decide) rfl (fun ls hl => ?_)
  refine lv_iload_n hx hb dX7_wantClause_92 rfl (lv_at hl 0 rfl) ?_
  refine lv_if_eq (tgt := 100) hx hb dX7_wantClause_93 (by decide) (fun c50 => ?_) (fun c50 => ?_)
  · have h := (if_pos c50).symm.trans h
    exact tX7_wantClause_100 X v1 m_tokenKind m_tokenAt m_tokenEnd m_tokenValue m_fault m_seen m_leases h H locs hW ls (lv_sub hl [1, 2] rfl)
  · have h := (if_neg c50).symm.trans h
    refine lv_aload_n hx hb dX7_wantClause_96 rfl (lv_at hl 1 rfl) ?_
    obtain ⟨o52_m_fault, hq, h⟩ := bn1_some h
    refine g_cvv X hW (As := []) (ws' := (wX7_wantClause G a_mo a_mo_leases a_mo_tape a_mo_numbers a_mo_boxes a_mo_words a_mo_weeks a_mo_routes a_mo_turns a_mo_leave a_mo_uses a_mo_arcFrom a_mo_arcTo a_mo_arcRoom a_mo_arcCost a_mo_far a_mo_by a_mo_best a_mo_kept m_arcs m_tapeMany m_tokenKind m_tokenAt m_tokenEnd m_tokenValue o52_m_fault m_seen m_isKept m_place m_leases m_tape)) ckX7_wantClause_X7_wrong_178 (kcX7_wrong (l := l) G a_mo a_mo_numbers a_mo_boxes a_mo_words a_mo_weeks a_mo_routes a_mo_turns a_mo_leave a_mo_leases a_mo_uses a_mo_arcFrom a_mo_arcTo a_mo_arcRoom a_mo_arcCost a_mo_far a_mo_by a_mo_best a_mo_tape a_mo_kept m_arcs m_tapeMany m_tokenKind m_tokenAt m_tokenEnd m_tokenValue m_fault m_seen m_isKept m_place hq) ⟨rfl, rfl, Nat.le_of_ble_eq_true rfl, Nat.le_of_ble_eq_true rfl⟩ [0] rfl rfl rfl rfl rfl rfl rfl hl.1 (Nat.le_of_ble_eq_true rfl) ⟨Nat.zero_le _, Nat.zero_le _⟩ dX7_wantClause_97 (fun H locs hW => ?_)
    exact tX7_wantClause_100 X v1 m_tokenKind m_tokenAt m_tokenEnd m_tokenValue o52_m_fault m_seen m_leases h H locs hW ls (lv_sub hl [1, 2] rfl)
set_option maxHeartbeats 4000000 in
set_option maxRecDepth 100000 in
theorem tX7_wantClause_90 (X : Bx p s m args meth c cX7_wantClause 3 wsX7_wantClause RX7 none) (v1 : Int32) (m_tokenKind : Int32) (m_tokenAt : Int32) (m_tokenEnd : Int32) (m_tokenValue : Int32) (m_fault : Int32) (m_seen : Int32) (m_leases : (Nat → Int32))   (h : fX7_wantClause_90 v1 m_tapeMany m_tokenKind m_tokenAt m_tokenEnd m_tokenValue m_fault m_seen m_leases m_tape = some res) : ∀ (H : Heap) (locs : List Loc), Wo G A s (wX7_wantClause G a_mo a_mo_leases a_mo_tape a_mo_numbers a_mo_boxes a_mo_words a_mo_weeks a_mo_routes a_mo_turns a_mo_leave a_mo_uses a_mo_arcFrom a_mo_arcTo a_mo_arcRoom a_mo_arcCost a_mo_far a_mo_by a_mo_best a_mo_kept m_arcs m_tapeMany m_tokenKind m_tokenAt m_tokenEnd m_tokenValue m_fault m_seen m_isKept m_place m_leases m_tape) H locs → ∀ ls : Array Slot, lv_has ls 3 [(0, .ref a_mo), (1, .int v1)] → W p l e rmX7_wantClause s m args below meth c H locs 0 0 (QV G A below args s (wX7_wantClause G a_mo a_mo_leases a_mo_tape a_mo_numbers a_mo_boxes a_mo_words a_mo_weeks a_mo_routes a_mo_turns a_mo_leave a_mo_uses a_mo_arcFrom a_mo_arcTo a_mo_arcRoom a_mo_arcCost a_mo_far a_mo_by a_mo_best a_mo_kept m_arcs m_tapeMany res.1 res.2.1 res.2.2.1 res.2.2.2.1 res.2.2.2.2.1 res.2.2.2.2.2.1 m_isKept m_place res.2.2.2.2.2.2 m_tape)) (F0 m 90 ls []) := by
  obtain ⟨hx, hb, -⟩ := id X.1
  intro H locs hW ls hl
  rw [fX7_wantClause_90] at h
  refine lv_iconst hx hb dX7_wantClause_90 qI_0 ?_
  exact tX7_wantClause_91 X v1 (0 : Int32) m_tokenKind m_tokenAt m_tokenEnd m_tokenValue m_fault m_seen m_leases h H locs hW ls hl
set_option maxHeartbeats 4000000 in
set_option maxRecDepth 100000 in
theorem tX7_wantClause_31 (X : Bx p s m args meth c cX7_wantClause 3 wsX7_wantClause RX7 none) (v1 : Int32) (m_tokenKind : Int32) (m_tokenAt : Int32) (m_tokenEnd : Int32) (m_tokenValue : Int32) (m_fault : Int32) (m_seen : Int32) (m_leases : (Nat → Int32))   (h : fX7_wantClause_31 v1 m_tapeMany m_tokenKind m_tokenAt m_tokenEnd m_tokenValue m_fault m_seen m_leases m_tape = some res) : ∀ (H : Heap) (locs : List Loc), Wo G A s (wX7_wantClause G a_mo a_mo_leases a_mo_tape a_mo_numbers a_mo_boxes a_mo_words a_mo_weeks a_mo_routes a_mo_turns a_mo_leave a_mo_uses a_mo_arcFrom a_mo_arcTo a_mo_arcRoom a_mo_arcCost a_mo_far a_mo_by a_mo_best a_mo_kept m_arcs m_tapeMany m_tokenKind m_tokenAt m_tokenEnd m_tokenValue m_fault m_seen m_isKept m_place m_leases m_tape) H locs → ∀ ls : Array Slot, lv_has ls 3 [(0, .ref a_mo), (1, .int v1)] → W p l e rmX7_wantClause s m args below meth c H locs 0 0 (QV G A below args s (wX7_wantClause G a_mo a_mo_leases a_mo_tape a_mo_numbers a_mo_boxes a_mo_words a_mo_weeks a_mo_routes a_mo_turns a_mo_leave a_mo_uses a_mo_arcFrom a_mo_arcTo a_mo_arcRoom a_mo_arcCost a_mo_far a_mo_by a_mo_best a_mo_kept m_arcs m_tapeMany res.1 res.2.1 res.2.2.1 res.2.2.2.1 res.2.2.2.2.1 res.2.2.2.2.2.1 m_isKept m_place res.2.2.2.2.2.2 m_tape)) (F0 m 31 ls []) := by
  obtain ⟨hx, hb, -⟩ := id X.1
  intro H locs hW ls hl
  rw [fX7_wantClause_31] at h
  refine lv_aload_n hx hb dX7_wantClause_31 rfl (lv_at hl 0 rfl) ?_
  obtain ⟨o55_m_tokenKind, o55_m_tokenAt, o55_m_tokenEnd, o55_m_tokenValue, hq, h⟩ := bn4_some h
  refine g_cvv X hW (As := []) (ws' := (wX7_wantClause G a_mo a_mo_leases a_mo_tape a_mo_numbers a_mo_boxes a_mo_words a_mo_weeks a_mo_routes a_mo_turns a_mo_leave a_mo_uses a_mo_arcFrom a_mo_arcTo a_mo_arcRoom a_mo_arcCost a_mo_far a_mo_by a_mo_best a_mo_kept m_arcs m_tapeMany o55_m_tokenKind o55_m_tokenAt o55_m_tokenEnd o55_m_tokenValue m_fault m_seen m_isKept m_place m_leases m_tape)) ckX7_wantClause_X7_advance_175 (kcX7_advance (l := l) G a_mo a_mo_tape a_mo_numbers a_mo_boxes a_mo_words a_mo_weeks a_mo_routes a_mo_turns a_mo_leave a_mo_leases a_mo_uses a_mo_arcFrom a_mo_arcTo a_mo_arcRoom a_mo_arcCost a_mo_far a_mo_by a_mo_best a_mo_kept m_arcs m_tapeMany m_tokenKind m_tokenAt m_tokenEnd m_tokenValue m_fault m_seen m_isKept m_place m_tape hq) ⟨rfl, rfl, Nat.le_of_ble_eq_true rfl, Nat.le_of_ble_eq_true rfl⟩ [0, 2] rfl rfl rfl rfl rfl rfl rfl hl.1 (Nat.le_of_ble_eq_true rfl) ⟨Nat.zero_le _, Nat.zero_le _⟩ dX7_wantClause_32 (fun H locs hW => ?_)
  refine lv_iload_n hx hb dX7_wantClause_35 rfl (lv_at hl 1 rfl) ?_
  refine lv_iconst hx hb dX7_wantClause_36 qI_4 ?_
  refine lv_icmp_lt (tgt := 108) hx hb dX7_wantClause_37 (by decide) (fun c58 => ?_) (fun c58 => ?_)
  · have h := (if_pos c58).symm.trans h
    exact tX7_wantClause_108 X v1 o55_m_tokenKind o55_m_tokenAt o55_m_tokenEnd o55_m_tokenValue m_fault m_seen m_leases h H locs hW ls hl
  · have h := (if_neg c58).symm.trans h
    refine lv_aload_n hx hb dX7_wantClause_40 rfl (lv_at hl 0 rfl) ?_
    refine g_get X hW eX7_wantClause_159 0 rfl rfl dX7_wantClause_41 ?_
    refine lv_iconst hx hb dX7_wantClause_44 qI_2 ?_
    refine lv_icmp_ne (tgt := 90) hx hb dX7_wantClause_45 (by decide) (fun c62 => ?_) (fun c62 => ?_)
    · have h := (if_neg c62).symm.trans h
      exact tX7_wantClause_90 X v1 o55_m_tokenKind o55_m_tokenAt o55_m_tokenEnd o55_m_tokenValue m_fault m_seen m_leases h H locs hW ls hl
    · have h := (if_pos c62).symm.trans h
      refine lv_aload_n hx hb dX7_wantClause_48 rfl (lv_at hl 0 rfl) ?_
      refine g_get X hW eX7_wantClause_150 0 rfl rfl dX7_wantClause_49 ?_
      refine lv_aload_n hx hb dX7_wantClause_52 rfl (lv_at hl 0 rfl) ?_
      refine g_get X hW eX7_wantClause_153 0 rfl rfl dX7_wantClause_53 ?_
      refine lv_isub hx hb dX7_wantClause_56 ?_
      refine lv_iconst hx hb dX7_wantClause_57 qI_3 ?_
      refine lv_icmp_gt (tgt := 90) hx hb dX7_wantClause_58 (by decide) (fun c69 => ?_) (fun c69 => ?_)
      · have h := (if_pos c69).symm.trans h
        exact tX7_wantClause_90 X v1 o55_m_tokenKind o55_m_tokenAt o55_m_tokenEnd o55_m_tokenValue m_fault m_seen m_leases h H locs hW ls hl
      · have h := (if_neg c69).symm.trans h
        refine lv_aload_n hx hb dX7_wantClause_61 rfl (lv_at hl 0 rfl) ?_
        refine g_get X hW eX7_wantClause_156 0 rfl rfl dX7_wantClause_62 ?_
        refine lv_iconst hx hb dX7_wantClause_65 qI_5 ?_
        refine lv_icmp_gt (tgt := 90) hx hb dX7_wantClause_66 (by decide) (fun c73 => ?_) (fun c73 => ?_)
        · have h := (if_pos c73).symm.trans h
          exact tX7_wantClause_90 X v1 o55_m_tokenKind o55_m_tokenAt o55_m_tokenEnd o55_m_tokenValue m_fault m_seen m_leases h H locs hW ls hl
        · have h := (if_neg c73).symm.trans h
          refine lv_aload_n hx hb dX7_wantClause_69 rfl (lv_at hl 0 rfl) ?_
          refine g_get X hW eX7_wantClause_184 0 rfl rfl dX7_wantClause_70 ?_
          refine lv_iload_n hx hb dX7_wantClause_73 rfl (lv_at hl 1 rfl) ?_
          refine lv_aload_n hx hb dX7_wantClause_74 rfl (lv_at hl 0 rfl) ?_
          refine g_get X hW eX7_wantClause_156 0 rfl rfl dX7_wantClause_75 ?_
          refine lv_iadd hx hb dX7_wantClause_78 ?_
          refine g_ishr hx hb dX7_wantClause_79 ?_
          refine lv_iconst hx hb dX7_wantClause_80 qI_1 ?_
          refine lv_iand hx hb dX7_wantClause_81 ?_
          refine lv_iconst hx hb dX7_wantClause_82 qI_1 ?_
          refine lv_icmp_ne (tgt := 90) hx hb dX7_wantClause_83 (by decide) (fun c84 => ?_) (fun c84 => ?_)
          · have h := (if_neg c84).symm.trans h
            exact tX7_wantClause_90 X v1 o55_m_tokenKind o55_m_tokenAt o55_m_tokenEnd o55_m_tokenValue m_fault m_seen m_leases h H locs hW ls hl
          · have h := (if_pos c84).symm.trans h
            refine lv_iconst hx hb dX7_wantClause_86 qI_1 ?_
            refine lv_goto (tgt := 91) hx hb dX7_wantClause_87 (by decide) ?_
            exact tX7_wantClause_91 X v1 (1 : Int32) o55_m_tokenKind o55_m_tokenAt o55_m_tokenEnd o55_m_tokenValue m_fault m_seen m_leases h H locs hW ls hl
set_option maxHeartbeats 4000000 in
set_option maxRecDepth 100000 in
theorem k0X7_wantClause {l : Launch} (G : Gt) (a_mo a_mo_leases a_mo_tape a_mo_numbers a_mo_boxes a_mo_words a_mo_weeks a_mo_routes a_mo_turns a_mo_leave a_mo_uses a_mo_arcFrom a_mo_arcTo a_mo_arcRoom a_mo_arcCost a_mo_far a_mo_by a_mo_best a_mo_kept : Nat)  (m_arcs : Int32) (m_tapeMany : Int32) (m_tokenKind : Int32) (m_tokenAt : Int32) (m_tokenEnd : Int32) (m_tokenValue : Int32) (m_fault : Int32) (m_seen : Int32) (m_isKept : Int32) (m_place : Int32) (m_leases : (Nat → Int32)) (m_tape : (Nat → Int32)) {res : Int32 × Int32 × Int32 × Int32 × Int32 × Int32 × (Nat → Int32)} (h : fX7_wantClause m_tapeMany m_tokenKind m_tokenAt m_tokenEnd m_tokenValue m_fault m_seen m_leases m_tape = some res) : CtV G l yX7_wantClause wsX7_wantClause rmX7_wantClause [.ref a_mo] (wX7_wantClause G a_mo a_mo_leases a_mo_tape a_mo_numbers a_mo_boxes a_mo_words a_mo_weeks a_mo_routes a_mo_turns a_mo_leave a_mo_uses a_mo_arcFrom a_mo_arcTo a_mo_arcRoom a_mo_arcCost a_mo_far a_mo_by a_mo_best a_mo_kept m_arcs m_tapeMany m_tokenKind m_tokenAt m_tokenEnd m_tokenValue m_fault m_seen m_isKept m_place m_leases m_tape) (wX7_wantClause G a_mo a_mo_leases a_mo_tape a_mo_numbers a_mo_boxes a_mo_words a_mo_weeks a_mo_routes a_mo_turns a_mo_leave a_mo_uses a_mo_arcFrom a_mo_arcTo a_mo_arcRoom a_mo_arcCost a_mo_far a_mo_by a_mo_best a_mo_kept m_arcs m_tapeMany res.1 res.2.1 res.2.2.1 res.2.2.2.1 res.2.2.2.2.1 res.2.2.2.2.2.1 m_isKept m_place res.2.2.2.2.2.2 m_tape) := by
  refine CtV.mk (cc := cX7_wantClause) (maxL := 3) (ret := none) (own := RX7) (by decide) rfl rfl (Nat.le_of_ble_eq_true rfl) ?_
  intro p e s m below meth c A X ls hl hW
  obtain ⟨hx, hb, -⟩ := id X.1
  have hl : lv_has ls 3 [(0, .ref a_mo)] := hl
  generalize hH : s.heap = H at hW ⊢
  generalize hLo : ([] : List Loc) = locs at hW ⊢
  rw [fX7_wantClause] at h
  refine lv_aload_n hx hb dX7_wantClause_0 rfl (lv_at hl 0 rfl) ?_
  obtain ⟨r88, hq, h⟩ := bn1_some h
  refine g_cvi X hW (As := []) (ws' := (wX7_wantClause G a_mo a_mo_leases a_mo_tape a_mo_numbers a_mo_boxes a_mo_words a_mo_weeks a_mo_routes a_mo_turns a_mo_leave a_mo_uses a_mo_arcFrom a_mo_arcTo a_mo_arcRoom a_mo_arcCost a_mo_far a_mo_by a_mo_best a_mo_kept m_arcs m_tapeMany m_tokenKind m_tokenAt m_tokenEnd m_tokenValue m_fault m_seen m_isKept m_place m_leases m_tape)) ckX7_wantClause_X7_kindOf_181 (kcX7_kindOf (l := l) G a_mo a_mo_numbers a_mo_boxes a_mo_words a_mo_weeks a_mo_routes a_mo_turns a_mo_leave a_mo_leases a_mo_uses a_mo_arcFrom a_mo_arcTo a_mo_arcRoom a_mo_arcCost a_mo_far a_mo_by a_mo_best a_mo_tape a_mo_kept m_arcs m_tapeMany m_tokenKind m_tokenAt m_tokenEnd m_tokenValue m_fault m_seen m_isKept m_place hq) ⟨rfl, rfl, Nat.le_of_ble_eq_true rfl, Nat.le_of_ble_eq_true rfl⟩ [0] rfl rfl rfl rfl rfl rfl rfl hl.1 (Nat.le_of_ble_eq_true rfl) ⟨Nat.zero_le _, Nat.zero_le _⟩ dX7_wantClause_1 (fun H locs hW => ?_)
  refine lv_istore_n (lv' := [(1, .int r88), (0, .ref a_mo)]) hx hb dX7_wantClause_4 rfl hl (by decide) rfl (fun ls hl => ?_)
  refine lv_iload_n hx hb dX7_wantClause_5 rfl (lv_at hl 0 rfl) ?_
  refine lv_if_lt (tgt := 26) hx hb dX7_wantClause_6 (by decide) (fun c91 => ?_) (fun c91 => ?_)
  · have h := (if_pos c91).symm.trans h
    exact tX7_wantClause_26 X m_tokenKind m_tokenAt m_tokenEnd m_tokenValue m_fault m_seen m_leases h H locs hW ls (lv_sub hl [1] rfl)
  · have h := (if_neg c91).symm.trans h
    refine lv_iload_n hx hb dX7_wantClause_9 rfl (lv_at hl 0 rfl) ?_
    refine lv_iconst hx hb dX7_wantClause_10 qI_4 ?_
    refine lv_icmp_ge (tgt := 31) hx hb dX7_wantClause_11 (by decide) (fun c94 => ?_) (fun c94 => ?_)
    · have h := (if_pos c94).symm.trans h
      exact tX7_wantClause_31 X r88 m_tokenKind m_tokenAt m_tokenEnd m_tokenValue m_fault m_seen m_leases h H locs hW ls (lv_sub hl [1, 0] rfl)
    · have h := (if_neg c94).symm.trans h
      refine lv_aload_n hx hb dX7_wantClause_14 rfl (lv_at hl 1 rfl) ?_
      refine g_get X hW eX7_wantClause_184 0 rfl rfl dX7_wantClause_15 ?_
      refine lv_iload_n hx hb dX7_wantClause_18 rfl (lv_at hl 0 rfl) ?_
      refine g_ishr hx hb dX7_wantClause_19 ?_
      refine lv_iconst hx hb dX7_wantClause_20 qI_1 ?_
      refine lv_iand hx hb dX7_wantClause_21 ?_
      refine lv_iconst hx hb dX7_wantClause_22 qI_1 ?_
      refine lv_icmp_ne (tgt := 31) hx hb dX7_wantClause_23 (by decide) (fun c102 => ?_) (fun c102 => ?_)
      · have h := (if_neg c102).symm.trans h
        exact tX7_wantClause_31 X r88 m_tokenKind m_tokenAt m_tokenEnd m_tokenValue m_fault m_seen m_leases h H locs hW ls (lv_sub hl [1, 0] rfl)
      · have h := (if_pos c102).symm.trans h
        exact tX7_wantClause_26 X m_tokenKind m_tokenAt m_tokenEnd m_tokenValue m_fault m_seen m_leases h H locs hW ls (lv_sub hl [1] rfl)
theorem kcX7_wantClause {l : Launch} (G : Gt) (a_mo a_mo_leases a_mo_tape a_mo_numbers a_mo_boxes a_mo_words a_mo_weeks a_mo_routes a_mo_turns a_mo_leave a_mo_uses a_mo_arcFrom a_mo_arcTo a_mo_arcRoom a_mo_arcCost a_mo_far a_mo_by a_mo_best a_mo_kept : Nat)  (m_arcs : Int32) (m_tapeMany : Int32) (m_tokenKind : Int32) (m_tokenAt : Int32) (m_tokenEnd : Int32) (m_tokenValue : Int32) (m_fault : Int32) (m_seen : Int32) (m_isKept : Int32) (m_place : Int32) (m_leases : (Nat → Int32)) (m_tape : (Nat → Int32))  {z_m_tokenKind : Int32} {z_m_tokenAt : Int32} {z_m_tokenEnd : Int32} {z_m_tokenValue : Int32} {z_m_fault : Int32} {z_m_seen : Int32} {z_m_leases : (Nat → Int32)} (h : fX7_wantClause m_tapeMany m_tokenKind m_tokenAt m_tokenEnd m_tokenValue m_fault m_seen m_leases m_tape = some (z_m_tokenKind, z_m_tokenAt, z_m_tokenEnd, z_m_tokenValue, z_m_fault, z_m_seen, z_m_leases)) : CtV G l yX7_wantClause wsX7_wantClause rmX7_wantClause [.ref a_mo] (wX7_wantClause G a_mo a_mo_leases a_mo_tape a_mo_numbers a_mo_boxes a_mo_words a_mo_weeks a_mo_routes a_mo_turns a_mo_leave a_mo_uses a_mo_arcFrom a_mo_arcTo a_mo_arcRoom a_mo_arcCost a_mo_far a_mo_by a_mo_best a_mo_kept m_arcs m_tapeMany m_tokenKind m_tokenAt m_tokenEnd m_tokenValue m_fault m_seen m_isKept m_place m_leases m_tape) (wX7_wantClause G a_mo a_mo_leases a_mo_tape a_mo_numbers a_mo_boxes a_mo_words a_mo_weeks a_mo_routes a_mo_turns a_mo_leave a_mo_uses a_mo_arcFrom a_mo_arcTo a_mo_arcRoom a_mo_arcCost a_mo_far a_mo_by a_mo_best a_mo_kept m_arcs m_tapeMany z_m_tokenKind z_m_tokenAt z_m_tokenEnd z_m_tokenValue z_m_fault z_m_seen m_isKept m_place z_m_leases m_tape) := k0X7_wantClause G a_mo a_mo_leases a_mo_tape a_mo_numbers a_mo_boxes a_mo_words a_mo_weeks a_mo_routes a_mo_turns a_mo_leave a_mo_uses a_mo_arcFrom a_mo_arcTo a_mo_arcRoom a_mo_arcCost a_mo_far a_mo_by a_mo_best a_mo_kept m_arcs m_tapeMany m_tokenKind m_tokenAt m_tokenEnd m_tokenValue m_fault m_seen m_isKept m_place m_leases m_tape h
end MX7_wantClause
/-! EmptyBoxesModel.read -/
section MX7_read
theorem hdX7_read : yX7_read.cls = RX7 ∧ yX7_read.cls ≠ "java/lang/invoke/MethodHandle" ∧ yX7_read.cls ≠ "java/lang/invoke/VarHandle" ∧ (parseMethodDescriptor yX7_read.desc).map (fun d => d.parameters.length) = some 1 := by decide +kernel
abbrev wX7_read (G : Gt) (a_mo a_mo_leases a_mo_tape a_mo_numbers a_mo_boxes a_mo_words a_mo_weeks a_mo_routes a_mo_turns a_mo_leave a_mo_uses a_mo_arcFrom a_mo_arcTo a_mo_arcRoom a_mo_arcCost a_mo_far a_mo_by a_mo_best a_mo_kept : Nat) (m_arcs : Int32) (m_tapeMany : Int32) (m_tokenKind : Int32) (m_tokenAt : Int32) (m_tokenEnd : Int32) (m_tokenValue : Int32) (m_fault : Int32) (m_seen : Int32) (m_isKept : Int32) (m_place : Int32) (m_leases : (Nat → Int32)) (m_tape : (Nat → Int32)) : va_W := [(a_mo, .inr (7, [.ref a_mo_numbers, .ref a_mo_boxes, .ref a_mo_words, .ref a_mo_weeks, .ref a_mo_routes, .ref a_mo_turns, .ref a_mo_leave, .ref a_mo_leases, .ref a_mo_uses, .ref a_mo_arcFrom, .ref a_mo_arcTo, .ref a_mo_arcRoom, .ref a_mo_arcCost, .int m_arcs, .ref a_mo_far, .ref a_mo_by, .ref a_mo_best, .ref a_mo_tape, .int m_tapeMany, .int m_tokenKind, .int m_tokenAt, .int m_tokenEnd, .int m_tokenValue, .int m_fault, .int m_seen, .int m_isKept, .ref a_mo_kept, .int m_place])), (a_mo_leases, .inl (G.2.1, 68, .inl m_leases)), (a_mo_tape, .inl (G.2.1, 120, .inl m_tape))]
abbrev rmX7_read : Room := { frames := 4, cells := 0, slots := 0, locals := 85 }
theorem iX7_read_X7 : ∀ w ∈ wsX70, w ∈ wsX7_read := by decide +kernel
theorem eX7_read_159 : Fk wsX7_read RX7 159 7 19 := ⟨RX7, TX7, 28, rfl, iX7_read_X7, by decide, by decide +kernel⟩
theorem eX7_read_168 : Fk wsX7_read RX7 168 7 23 := ⟨RX7, TX7, 28, rfl, iX7_read_X7, by decide, by decide +kernel⟩
theorem eX7_read_31 : Fk wsX7_read RX7 31 7 7 := ⟨RX7, TX7, 28, rfl, iX7_read_X7, by decide, by decide +kernel⟩
theorem pX7_read_145 : Fp wsX7_read RX7 145 7 18 .int := ⟨RX7, TX7, 28, tyX7, rfl, iX7_read_X7, by decide, by decide +kernel, tyX7_ok, nmX7, rfl, by decide +kernel⟩
theorem pX7_read_150 : Fp wsX7_read RX7 150 7 21 .int := ⟨RX7, TX7, 28, tyX7, rfl, iX7_read_X7, by decide, by decide +kernel, tyX7_ok, nmX7, rfl, by decide +kernel⟩
theorem pX7_read_168 : Fp wsX7_read RX7 168 7 23 .int := ⟨RX7, TX7, 28, tyX7, rfl, iX7_read_X7, by decide, by decide +kernel, tyX7_ok, nmX7, rfl, by decide +kernel⟩
theorem pX7_read_184 : Fp wsX7_read RX7 184 7 24 .int := ⟨RX7, TX7, 28, tyX7, rfl, iX7_read_X7, by decide, by decide +kernel, tyX7_ok, nmX7, rfl, by decide +kernel⟩
theorem ckX7_read_X7_advance_175 : CkV wsX7_read RX7 175 yX7_advance wsX7_advance cX7_advance 2 none 0 7 := ⟨RX7, TX7, 28, _, rfl, gX7_read_X7_advance, rfl, hdX7_advance⟩
theorem ckX7_read_X7_in_64 : CkS wsX7_read RX7 64 yX7_in wsX7_in cX7_in 3 (some .boolean) 3 := ⟨_, gX7_read_X7_in, rfl, hdX7_in.2⟩
theorem ckX7_read_X7_isGood_171 : CkV wsX7_read RX7 171 yX7_isGood wsX7_isGood cX7_isGood 1 (some .boolean) 0 7 := ⟨RX7, TX7, 28, _, rfl, gX7_read_X7_isGood, rfl, hdX7_isGood⟩
theorem ckX7_read_X7_wantClause_190 : CkV wsX7_read RX7 190 yX7_wantClause wsX7_wantClause cX7_wantClause 3 none 0 7 := ⟨RX7, TX7, 28, _, rfl, gX7_read_X7_wantClause, rfl, hdX7_wantClause⟩
variable {p : Program} {l : Launch} {e : Env} {s : State} {m : MethodId} {args : Array Value} {below : List Frame} {meth : Method} {c : Code} {A : Nat → Prop} {G : Gt} {a_mo a_mo_leases a_mo_tape a_mo_numbers a_mo_boxes a_mo_words a_mo_weeks a_mo_routes a_mo_turns a_mo_leave a_mo_uses a_mo_arcFrom a_mo_arcTo a_mo_arcRoom a_mo_arcCost a_mo_far a_mo_by a_mo_best a_mo_kept : Nat} {m_arcs : Int32} {m_isKept : Int32} {m_place : Int32} {m_tape : (Nat → Int32)} {res : Int32 × Int32 × Int32 × Int32 × Int32 × Int32 × Int32 × Int32 × (Nat → Int32)}
set_option maxHeartbeats 4000000 in
set_option maxRecDepth 100000 in
theorem tX7_read_132 (X : Bx p s m args meth c cX7_read 5 wsX7_read RX7 (some .int)) (v1 : Int32) (v2 : Int32) (v3 : Int32) (m_tapeMany : Int32) (m_tokenKind : Int32) (m_tokenAt : Int32) (m_tokenEnd : Int32) (m_tokenValue : Int32) (m_fault : Int32) (m_seen : Int32)   : ∀ (n : Nat) (v4 : Int32) (m_leases : (Nat → Int32)), fX7_read_132 v1 v2 v3 m_tapeMany m_tokenKind m_tokenAt m_tokenEnd m_tokenValue m_fault m_seen n v4 m_leases = some res → ∀ (H : Heap) (locs : List Loc), Wo G A s (wX7_read G a_mo a_mo_leases a_mo_tape a_mo_numbers a_mo_boxes a_mo_words a_mo_weeks a_mo_routes a_mo_turns a_mo_leave a_mo_uses a_mo_arcFrom a_mo_arcTo a_mo_arcRoom a_mo_arcCost a_mo_far a_mo_by a_mo_best a_mo_kept m_arcs m_tapeMany m_tokenKind m_tokenAt m_tokenEnd m_tokenValue m_fault m_seen m_isKept m_place m_leases m_tape) H locs → ∀ ls : Array Slot, lv_has ls 5 [(0, .ref a_mo), (1, .int v1), (2, .int v2), (3, .int v3), (4, .int v4)] → W p l e rmX7_read s m args below meth c H locs 0 0 (QI G A below args s res.1 (wX7_read G a_mo a_mo_leases a_mo_tape a_mo_numbers a_mo_boxes a_mo_words a_mo_weeks a_mo_routes a_mo_turns a_mo_leave a_mo_uses a_mo_arcFrom a_mo_arcTo a_mo_arcRoom a_mo_arcCost a_mo_far a_mo_by a_mo_best a_mo_kept m_arcs res.2.1 res.2.2.1 res.2.2.2.1 res.2.2.2.2.1 res.2.2.2.2.2.1 res.2.2.2.2.2.2.1 res.2.2.2.2.2.2.2.1 m_isKept m_place res.2.2.2.2.2.2.2.2 m_tape)) (F0 m 132 ls []) := by
  obtain ⟨hx, hb, -⟩ := id X.1
  intro n
  induction n with
  | zero => intro v4 m_leases h; rw [fX7_read_132] at h; cases h
  | succ n ih =>
    intro v4 m_leases h H locs hW ls hl
    rw [fX7_read_132] at h
    refine lv_iload hx hb dX7_read_132 (lv_at hl 4 rfl) ?_
    refine lv_bipush hx hb dX7_read_134 qB_17 ?_
    refine lv_icmp_ge (tgt := 166) hx hb dX7_read_136 (by decide) (fun c3 => ?_) (fun c3 => ?_)
    · have h := (if_pos c3).symm.trans h
      refine lv_iload_n hx hb dX7_read_166 rfl (lv_at hl 3 rfl) ?_
      obtain rfl := Option.some.inj h
      exact g_iret X hW dX7_read_167
    · have h := (if_neg c3).symm.trans h
      refine lv_aload_n hx hb dX7_read_139 rfl (lv_at hl 0 rfl) ?_
      refine g_get X hW eX7_read_31 0 rfl rfl dX7_read_140 ?_
      refine lv_bipush hx hb dX7_read_143 qB_17 ?_
      refine lv_iload_n hx hb dX7_read_145 rfl (lv_at hl 1 rfl) ?_
      refine lv_imul hx hb dX7_read_146 ?_
      refine lv_iload hx hb dX7_read_147 (lv_at hl 4 rfl) ?_
      refine lv_iadd hx hb dX7_read_149 ?_
      refine lv_aload_n hx hb dX7_read_150 rfl (lv_at hl 0 rfl) ?_
      refine g_get X hW eX7_read_31 0 rfl rfl dX7_read_151 ?_
      refine lv_iload_n hx hb dX7_read_154 rfl (lv_at hl 2 rfl) ?_
      refine lv_iload hx hb dX7_read_155 (lv_at hl 4 rfl) ?_
      refine lv_iadd hx hb dX7_read_157 ?_
      obtain ⟨g18, h⟩ := gd_some h
      refine g_ald X hW 1 rfl g18 dX7_read_158 ?_
      obtain ⟨g19, h⟩ := gd_some h
      refine g_ast X hW (ws' := (wX7_read G a_mo a_mo_leases a_mo_tape a_mo_numbers a_mo_boxes a_mo_words a_mo_weeks a_mo_routes a_mo_turns a_mo_leave a_mo_uses a_mo_arcFrom a_mo_arcTo a_mo_arcRoom a_mo_arcCost a_mo_far a_mo_by a_mo_best a_mo_kept m_arcs m_tapeMany m_tokenKind m_tokenAt m_tokenEnd m_tokenValue m_fault m_seen m_isKept m_place (upd m_leases (((17 : Int32) * v1) + v4).toNatClampNeg (m_leases (v2 + v4).toNatClampNeg)) m_tape)) 1 rfl g19 rfl dX7_read_159 (fun H locs hW => ?_)
      refine lv_iinc (v := (v4 + (1 : Int32))) (lv' := [(4, .int (v4 + (1 : Int32))), (0, .ref a_mo), (1, .int v1), (2, .int v2), (3, .int v3)]) hx hb dX7_read_160 hl (k := 4) rfl (congrArg (fun z => v4 + z) qI_1) (by decide) rfl (fun ls hl => ?_)
      refine lv_goto (tgt := 132) hx hb dX7_read_163 (by decide) ?_
      exact ih (v4 + (1 : Int32)) (upd m_leases (((17 : Int32) * v1) + v4).toNatClampNeg (m_leases (v2 + v4).toNatClampNeg)) h H locs hW ls (lv_sub hl [1, 2, 3, 4, 0] rfl)
set_option maxHeartbeats 4000000 in
set_option maxRecDepth 100000 in
theorem tX7_read_109 (X : Bx p s m args meth c cX7_read 5 wsX7_read RX7 (some .int)) (v1 : Int32) (v2 : Int32) (v3 : Int32) (m_tapeMany : Int32) (m_tokenKind : Int32) (m_tokenAt : Int32) (m_tokenEnd : Int32) (m_tokenValue : Int32) (m_fault : Int32) (m_seen : Int32) (m_leases : (Nat → Int32))   (h : fX7_read_109 v1 v2 v3 m_tokenKind m_tokenAt m_tokenEnd m_tokenValue m_fault m_seen m_leases = some res) : ∀ (H : Heap) (locs : List Loc), Wo G A s (wX7_read G a_mo a_mo_leases a_mo_tape a_mo_numbers a_mo_boxes a_mo_words a_mo_weeks a_mo_routes a_mo_turns a_mo_leave a_mo_uses a_mo_arcFrom a_mo_arcTo a_mo_arcRoom a_mo_arcCost a_mo_far a_mo_by a_mo_best a_mo_kept m_arcs m_tapeMany m_tokenKind m_tokenAt m_tokenEnd m_tokenValue m_fault m_seen m_isKept m_place m_leases m_tape) H locs → ∀ ls : Array Slot, lv_has ls 5 [(0, .ref a_mo), (1, .int v1), (2, .int v2), (3, .int v3)] → W p l e rmX7_read s m args below meth c H locs 0 0 (QI G A below args s res.1 (wX7_read G a_mo a_mo_leases a_mo_tape a_mo_numbers a_mo_boxes a_mo_words a_mo_weeks a_mo_routes a_mo_turns a_mo_leave a_mo_uses a_mo_arcFrom a_mo_arcTo a_mo_arcRoom a_mo_arcCost a_mo_far a_mo_by a_mo_best a_mo_kept m_arcs res.2.1 res.2.2.1 res.2.2.2.1 res.2.2.2.2.1 res.2.2.2.2.2.1 res.2.2.2.2.2.2.1 res.2.2.2.2.2.2.2.1 m_isKept m_place res.2.2.2.2.2.2.2.2 m_tape)) (F0 m 109 ls []) := by
  obtain ⟨hx, hb, -⟩ := id X.1
  intro H locs hW ls hl
  rw [fX7_read_109] at h
  refine lv_aload_n hx hb dX7_read_109 rfl (lv_at hl 0 rfl) ?_
  refine lv_iconst hx hb dX7_read_110 qI_0 ?_
  refine g_put X hW (ws' := (wX7_read G a_mo a_mo_leases a_mo_tape a_mo_numbers a_mo_boxes a_mo_words a_mo_weeks a_mo_routes a_mo_turns a_mo_leave a_mo_uses a_mo_arcFrom a_mo_arcTo a_mo_arcRoom a_mo_arcCost a_mo_far a_mo_by a_mo_best a_mo_kept m_arcs (0 : Int32) m_tokenKind m_tokenAt m_tokenEnd m_tokenValue m_fault m_seen m_isKept m_place m_leases m_tape)) pX7_read_145 0 rfl (Nat.le_of_ble_eq_true rfl) rfl rfl rfl dX7_read_111 (fun H locs hW => ?_)
  refine lv_aload_n hx hb dX7_read_114 rfl (lv_at hl 0 rfl) ?_
  obtain ⟨r26, hq, h⟩ := bn1_some h
  refine g_cvi X hW (As := []) (ws' := (wX7_read G a_mo a_mo_leases a_mo_tape a_mo_numbers a_mo_boxes a_mo_words a_mo_weeks a_mo_routes a_mo_turns a_mo_leave a_mo_uses a_mo_arcFrom a_mo_arcTo a_mo_arcRoom a_mo_arcCost a_mo_far a_mo_by a_mo_best a_mo_kept m_arcs (0 : Int32) m_tokenKind m_tokenAt m_tokenEnd m_tokenValue m_fault m_seen m_isKept m_place m_leases m_tape)) ckX7_read_X7_isGood_171 (kcX7_isGood (l := l) G a_mo a_mo_numbers a_mo_boxes a_mo_words a_mo_weeks a_mo_routes a_mo_turns a_mo_leave a_mo_leases a_mo_uses a_mo_arcFrom a_mo_arcTo a_mo_arcRoom a_mo_arcCost a_mo_far a_mo_by a_mo_best a_mo_tape a_mo_kept m_arcs (0 : Int32) m_tokenKind m_tokenAt m_tokenEnd m_tokenValue m_fault m_seen m_isKept m_place hq) ⟨rfl, rfl, Nat.le_of_ble_eq_true rfl, Nat.le_of_ble_eq_true rfl⟩ [0] rfl rfl rfl rfl rfl rfl rfl hl.1 (Nat.le_of_ble_eq_true rfl) ⟨Nat.zero_le _, Nat.zero_le _⟩ dX7_read_115 (fun H locs hW => ?_)
  refine lv_if_ne (tgt := 129) hx hb dX7_read_118 (by decide) (fun c27 => ?_) (fun c27 => ?_)
  · have h := (if_neg c27).symm.trans h
    refine lv_iconst hx hb dX7_read_129 qI_0 ?_
    refine lv_istore (lv' := [(4, .int (0 : Int32)), (0, .ref a_mo), (1, .int v1), (2, .int v2), (3, .int v3)]) hx hb dX7_read_130 hl (by decide) rfl (fun ls hl => ?_)
    exact tX7_read_132 X v1 v2 v3 (0 : Int32) m_tokenKind m_tokenAt m_tokenEnd m_tokenValue m_fault m_seen FU (0 : Int32) m_leases h H locs hW ls (lv_sub hl [1, 2, 3, 4, 0] rfl)
  · have h := (if_pos c27).symm.trans h
    refine lv_bipush hx hb dX7_read_121 qB_m100 ?_
    refine lv_aload_n hx hb dX7_read_123 rfl (lv_at hl 0 rfl) ?_
    refine g_get X hW eX7_read_168 0 rfl rfl dX7_read_124 ?_
    refine lv_isub hx hb dX7_read_127 ?_
    obtain rfl := Option.some.inj h
    exact g_iret X hW dX7_read_128
set_option maxHeartbeats 4000000 in
set_option maxRecDepth 100000 in
theorem tX7_read_85 (X : Bx p s m args meth c cX7_read 5 wsX7_read RX7 (some .int)) (v1 : Int32) (v2 : Int32) (m_tapeMany : Int32) (k_109 : Int32 → Int32 → Int32 → Int32 → Int32 → Int32 → Int32 → (Nat → Int32) → Option (Int32 × Int32 × Int32 × Int32 × Int32 × Int32 × Int32 × Int32 × (Nat → Int32))) (Hk_109 : ∀ (v3 : Int32) (m_tokenKind : Int32) (m_tokenAt : Int32) (m_tokenEnd : Int32) (m_tokenValue : Int32) (m_fault : Int32) (m_seen : Int32) (m_leases : (Nat → Int32)), k_109 v3 m_tokenKind m_tokenAt m_tokenEnd m_tokenValue m_fault m_seen m_leases = some res → ∀ (H : Heap) (locs : List Loc), Wo G A s (wX7_read G a_mo a_mo_leases a_mo_tape a_mo_numbers a_mo_boxes a_mo_words a_mo_weeks a_mo_routes a_mo_turns a_mo_leave a_mo_uses a_mo_arcFrom a_mo_arcTo a_mo_arcRoom a_mo_arcCost a_mo_far a_mo_by a_mo_best a_mo_kept m_arcs m_tapeMany m_tokenKind m_tokenAt m_tokenEnd m_tokenValue m_fault m_seen m_isKept m_place m_leases m_tape) H locs → ∀ ls : Array Slot, lv_has ls 5 [(0, .ref a_mo), (1, .int v1), (2, .int v2), (3, .int v3)] → W p l e rmX7_read s m args below meth c H locs 0 0 (QI G A below args s res.1 (wX7_read G a_mo a_mo_leases a_mo_tape a_mo_numbers a_mo_boxes a_mo_words a_mo_weeks a_mo_routes a_mo_turns a_mo_leave a_mo_uses a_mo_arcFrom a_mo_arcTo a_mo_arcRoom a_mo_arcCost a_mo_far a_mo_by a_mo_best a_mo_kept m_arcs res.2.1 res.2.2.1 res.2.2.2.1 res.2.2.2.2.1 res.2.2.2.2.2.1 res.2.2.2.2.2.2.1 res.2.2.2.2.2.2.2.1 m_isKept m_place res.2.2.2.2.2.2.2.2 m_tape)) (F0 m 109 ls [])) : ∀ (n : Nat) (v3 : Int32) (m_tokenKind : Int32) (m_tokenAt : Int32) (m_tokenEnd : Int32) (m_tokenValue : Int32) (m_fault : Int32) (m_seen : Int32) (m_leases : (Nat → Int32)), fX7_read_85 m_tapeMany m_tape k_109 n v3 m_tokenKind m_tokenAt m_tokenEnd m_tokenValue m_fault m_seen m_leases = some res → ∀ (H : Heap) (locs : List Loc), Wo G A s (wX7_read G a_mo a_mo_leases a_mo_tape a_mo_numbers a_mo_boxes a_mo_words a_mo_weeks a_mo_routes a_mo_turns a_mo_leave a_mo_uses a_mo_arcFrom a_mo_arcTo a_mo_arcRoom a_mo_arcCost a_mo_far a_mo_by a_mo_best a_mo_kept m_arcs m_tapeMany m_tokenKind m_tokenAt m_tokenEnd m_tokenValue m_fault m_seen m_isKept m_place m_leases m_tape) H locs → ∀ ls : Array Slot, lv_has ls 5 [(0, .ref a_mo), (1, .int v1), (2, .int v2), (3, .int v3)] → W p l e rmX7_read s m args below meth c H locs 0 0 (QI G A below args s res.1 (wX7_read G a_mo a_mo_leases a_mo_tape a_mo_numbers a_mo_boxes a_mo_words a_mo_weeks a_mo_routes a_mo_turns a_mo_leave a_mo_uses a_mo_arcFrom a_mo_arcTo a_mo_arcRoom a_mo_arcCost a_mo_far a_mo_by a_mo_best a_mo_kept m_arcs res.2.1 res.2.2.1 res.2.2.2.1 res.2.2.2.2.1 res.2.2.2.2.2.1 res.2.2.2.2.2.2.1 res.2.2.2.2.2.2.2.1 m_isKept m_place res.2.2.2.2.2.2.2.2 m_tape)) (F0 m 85 ls []) := by
  obtain ⟨hx, hb, -⟩ := id X.1
  intro n
  induction n with
  | zero => intro v3 m_tokenKind m_tokenAt m_tokenEnd m_tokenValue m_fault m_seen m_leases h; rw [fX7_read_85] at h; cases h
  | succ n ih =>
    intro v3 m_tokenKind m_tokenAt m_tokenEnd m_tokenValue m_fault m_seen m_leases h H locs hW ls hl
    rw [fX7_read_85] at h
    refine lv_aload_n hx hb dX7_read_85 rfl (lv_at hl 0 rfl) ?_
    refine g_get X hW eX7_read_159 0 rfl rfl dX7_read_86 ?_
    refine lv_if_eq (tgt := 109) hx hb dX7_read_89 (by decide) (fun c37 => ?_) (fun c37 => ?_)
    · have h := (if_pos c37).symm.trans h
      exact Hk_109 v3 m_tokenKind m_tokenAt m_tokenEnd m_tokenValue m_fault m_seen m_leases h H locs hW ls hl
    · have h := (if_neg c37).symm.trans h
      refine lv_aload_n hx hb dX7_read_92 rfl (lv_at hl 0 rfl) ?_
      obtain ⟨r39, hq, h⟩ := bn1_some h
      refine g_cvi X hW (As := []) (ws' := (wX7_read G a_mo a_mo_leases a_mo_tape a_mo_numbers a_mo_boxes a_mo_words a_mo_weeks a_mo_routes a_mo_turns a_mo_leave a_mo_uses a_mo_arcFrom a_mo_arcTo a_mo_arcRoom a_mo_arcCost a_mo_far a_mo_by a_mo_best a_mo_kept m_arcs m_tapeMany m_tokenKind m_tokenAt m_tokenEnd m_tokenValue m_fault m_seen m_isKept m_place m_leases m_tape)) ckX7_read_X7_isGood_171 (kcX7_isGood (l := l) G a_mo a_mo_numbers a_mo_boxes a_mo_words a_mo_weeks a_mo_routes a_mo_turns a_mo_leave a_mo_leases a_mo_uses a_mo_arcFrom a_mo_arcTo a_mo_arcRoom a_mo_arcCost a_mo_far a_mo_by a_mo_best a_mo_tape a_mo_kept m_arcs m_tapeMany m_tokenKind m_tokenAt m_tokenEnd m_tokenValue m_fault m_seen m_isKept m_place hq) ⟨rfl, rfl, Nat.le_of_ble_eq_true rfl, Nat.le_of_ble_eq_true rfl⟩ [0] rfl rfl rfl rfl rfl rfl rfl hl.1 (Nat.le_of_ble_eq_true rfl) ⟨Nat.zero_le _, Nat.zero_le _⟩ dX7_read_93 (fun H locs hW => ?_)
      refine lv_if_eq (tgt := 109) hx hb dX7_read_96 (by decide) (fun c40 => ?_) (fun c40 => ?_)
      · have h := (if_pos c40).symm.trans h
        exact Hk_109 v3 m_tokenKind m_tokenAt m_tokenEnd m_tokenValue m_fault m_seen m_leases h H locs hW ls hl
      · have h := (if_neg c40).symm.trans h
        refine lv_aload_n hx hb dX7_read_99 rfl (lv_at hl 0 rfl) ?_
        obtain ⟨o42_m_tokenKind, o42_m_tokenAt, o42_m_tokenEnd, o42_m_tokenValue, o42_m_fault, o42_m_seen, o42_m_leases, hq, h⟩ := bn7_some h
        refine g_cvv X hW (As := []) (ws' := (wX7_read G a_mo a_mo_leases a_mo_tape a_mo_numbers a_mo_boxes a_mo_words a_mo_weeks a_mo_routes a_mo_turns a_mo_leave a_mo_uses a_mo_arcFrom a_mo_arcTo a_mo_arcRoom a_mo_arcCost a_mo_far a_mo_by a_mo_best a_mo_kept m_arcs m_tapeMany o42_m_tokenKind o42_m_tokenAt o42_m_tokenEnd o42_m_tokenValue o42_m_fault o42_m_seen m_isKept m_place o42_m_leases m_tape)) ckX7_read_X7_wantClause_190 (kcX7_wantClause (l := l) G a_mo a_mo_leases a_mo_tape a_mo_numbers a_mo_boxes a_mo_words a_mo_weeks a_mo_routes a_mo_turns a_mo_leave a_mo_uses a_mo_arcFrom a_mo_arcTo a_mo_arcRoom a_mo_arcCost a_mo_far a_mo_by a_mo_best a_mo_kept m_arcs m_tapeMany m_tokenKind m_tokenAt m_tokenEnd m_tokenValue m_fault m_seen m_isKept m_place m_leases m_tape hq) ⟨rfl, rfl, Nat.le_of_ble_eq_true rfl, Nat.le_of_ble_eq_true rfl⟩ [0, 1, 2] rfl rfl rfl rfl rfl rfl rfl hl.1 (Nat.le_of_ble_eq_true rfl) ⟨Nat.zero_le _, Nat.zero_le _⟩ dX7_read_100 (fun H locs hW => ?_)
        refine lv_iinc (v := (v3 + (1 : Int32))) (lv' := [(3, .int (v3 + (1 : Int32))), (0, .ref a_mo), (1, .int v1), (2, .int v2)]) hx hb dX7_read_103 hl (k := 3) rfl (congrArg (fun z => v3 + z) qI_1) (by decide) rfl (fun ls hl => ?_)
        refine lv_goto (tgt := 85) hx hb dX7_read_106 (by decide) ?_
        exact ih (v3 + (1 : Int32)) o42_m_tokenKind o42_m_tokenAt o42_m_tokenEnd o42_m_tokenValue o42_m_fault o42_m_seen o42_m_leases h H locs hW ls (lv_sub hl [1, 2, 3, 0] rfl)
set_option maxHeartbeats 4000000 in
set_option maxRecDepth 100000 in
theorem tX7_read_54 (X : Bx p s m args meth c cX7_read 5 wsX7_read RX7 (some .int)) (v1 : Int32) (v2 : Int32) (m_tapeMany : Int32) (m_tokenKind : Int32) (m_tokenAt : Int32) (m_tokenEnd : Int32) (m_tokenValue : Int32) (m_fault : Int32) (m_seen : Int32) (m_leases : (Nat → Int32))   (h : fX7_read_54 v1 v2 m_tapeMany m_tokenKind m_tokenAt m_tokenValue m_leases m_tape = some res) : ∀ (H : Heap) (locs : List Loc), Wo G A s (wX7_read G a_mo a_mo_leases a_mo_tape a_mo_numbers a_mo_boxes a_mo_words a_mo_weeks a_mo_routes a_mo_turns a_mo_leave a_mo_uses a_mo_arcFrom a_mo_arcTo a_mo_arcRoom a_mo_arcCost a_mo_far a_mo_by a_mo_best a_mo_kept m_arcs m_tapeMany m_tokenKind m_tokenAt m_tokenEnd m_tokenValue m_fault m_seen m_isKept m_place m_leases m_tape) H locs → ∀ ls : Array Slot, lv_has ls 5 [(0, .ref a_mo), (1, .int v1), (2, .int v2)] → W p l e rmX7_read s m args below meth c H locs 0 0 (QI G A below args s res.1 (wX7_read G a_mo a_mo_leases a_mo_tape a_mo_numbers a_mo_boxes a_mo_words a_mo_weeks a_mo_routes a_mo_turns a_mo_leave a_mo_uses a_mo_arcFrom a_mo_arcTo a_mo_arcRoom a_mo_arcCost a_mo_far a_mo_by a_mo_best a_mo_kept m_arcs res.2.1 res.2.2.1 res.2.2.2.1 res.2.2.2.2.1 res.2.2.2.2.2.1 res.2.2.2.2.2.2.1 res.2.2.2.2.2.2.2.1 m_isKept m_place res.2.2.2.2.2.2.2.2 m_tape)) (F0 m 54 ls []) := by
  obtain ⟨hx, hb, -⟩ := id X.1
  intro H locs hW ls hl
  rw [fX7_read_54] at h
  refine lv_aload_n hx hb dX7_read_54 rfl (lv_at hl 0 rfl) ?_
  refine g_get X hW eX7_read_31 0 rfl rfl dX7_read_55 ?_
  refine lv_iload_n hx hb dX7_read_58 rfl (lv_at hl 2 rfl) ?_
  refine lv_bipush hx hb dX7_read_59 qB_16 ?_
  refine lv_iadd hx hb dX7_read_61 ?_
  refine lv_iconst hx hb dX7_read_62 qI_1 ?_
  obtain ⟨g51, h⟩ := gd_some h
  refine g_ast X hW (ws' := (wX7_read G a_mo a_mo_leases a_mo_tape a_mo_numbers a_mo_boxes a_mo_words a_mo_weeks a_mo_routes a_mo_turns a_mo_leave a_mo_uses a_mo_arcFrom a_mo_arcTo a_mo_arcRoom a_mo_arcCost a_mo_far a_mo_by a_mo_best a_mo_kept m_arcs m_tapeMany m_tokenKind m_tokenAt m_tokenEnd m_tokenValue m_fault m_seen m_isKept m_place (upd m_leases (v2 + (16 : Int32)).toNatClampNeg (1 : Int32)) m_tape)) 1 rfl g51 rfl dX7_read_63 (fun H locs hW => ?_)
  refine lv_aload_n hx hb dX7_read_64 rfl (lv_at hl 0 rfl) ?_
  refine lv_iconst hx hb dX7_read_65 qI_m1 ?_
  refine g_put X hW (ws' := (wX7_read G a_mo a_mo_leases a_mo_tape a_mo_numbers a_mo_boxes a_mo_words a_mo_weeks a_mo_routes a_mo_turns a_mo_leave a_mo_uses a_mo_arcFrom a_mo_arcTo a_mo_arcRoom a_mo_arcCost a_mo_far a_mo_by a_mo_best a_mo_kept m_arcs m_tapeMany m_tokenKind m_tokenAt m_tokenEnd m_tokenValue (-1 : Int32) m_seen m_isKept m_place (upd m_leases (v2 + (16 : Int32)).toNatClampNeg (1 : Int32)) m_tape)) pX7_read_168 0 rfl (Nat.le_of_ble_eq_true rfl) rfl rfl rfl dX7_read_66 (fun H locs hW => ?_)
  refine lv_aload_n hx hb dX7_read_69 rfl (lv_at hl 0 rfl) ?_
  refine lv_iconst hx hb dX7_read_70 qI_0 ?_
  refine g_put X hW (ws' := (wX7_read G a_mo a_mo_leases a_mo_tape a_mo_numbers a_mo_boxes a_mo_words a_mo_weeks a_mo_routes a_mo_turns a_mo_leave a_mo_uses a_mo_arcFrom a_mo_arcTo a_mo_arcRoom a_mo_arcCost a_mo_far a_mo_by a_mo_best a_mo_kept m_arcs m_tapeMany m_tokenKind m_tokenAt m_tokenEnd m_tokenValue (-1 : Int32) (0 : Int32) m_isKept m_place (upd m_leases (v2 + (16 : Int32)).toNatClampNeg (1 : Int32)) m_tape)) pX7_read_184 0 rfl (Nat.le_of_ble_eq_true rfl) rfl rfl rfl dX7_read_71 (fun H locs hW => ?_)
  refine lv_aload_n hx hb dX7_read_74 rfl (lv_at hl 0 rfl) ?_
  refine lv_iconst hx hb dX7_read_75 qI_0 ?_
  refine g_put X hW (ws' := (wX7_read G a_mo a_mo_leases a_mo_tape a_mo_numbers a_mo_boxes a_mo_words a_mo_weeks a_mo_routes a_mo_turns a_mo_leave a_mo_uses a_mo_arcFrom a_mo_arcTo a_mo_arcRoom a_mo_arcCost a_mo_far a_mo_by a_mo_best a_mo_kept m_arcs m_tapeMany m_tokenKind m_tokenAt (0 : Int32) m_tokenValue (-1 : Int32) (0 : Int32) m_isKept m_place (upd m_leases (v2 + (16 : Int32)).toNatClampNeg (1 : Int32)) m_tape)) pX7_read_150 0 rfl (Nat.le_of_ble_eq_true rfl) rfl rfl rfl dX7_read_76 (fun H locs hW => ?_)
  refine lv_aload_n hx hb dX7_read_79 rfl (lv_at hl 0 rfl) ?_
  obtain ⟨o62_m_tokenKind, o62_m_tokenAt, o62_m_tokenEnd, o62_m_tokenValue, hq, h⟩ := bn4_some h
  refine g_cvv X hW (As := []) (ws' := (wX7_read G a_mo a_mo_leases a_mo_tape a_mo_numbers a_mo_boxes a_mo_words a_mo_weeks a_mo_routes a_mo_turns a_mo_leave a_mo_uses a_mo_arcFrom a_mo_arcTo a_mo_arcRoom a_mo_arcCost a_mo_far a_mo_by a_mo_best a_mo_kept m_arcs m_tapeMany o62_m_tokenKind o62_m_tokenAt o62_m_tokenEnd o62_m_tokenValue (-1 : Int32) (0 : Int32) m_isKept m_place (upd m_leases (v2 + (16 : Int32)).toNatClampNeg (1 : Int32)) m_tape)) ckX7_read_X7_advance_175 (kcX7_advance (l := l) G a_mo a_mo_tape a_mo_numbers a_mo_boxes a_mo_words a_mo_weeks a_mo_routes a_mo_turns a_mo_leave a_mo_leases a_mo_uses a_mo_arcFrom a_mo_arcTo a_mo_arcRoom a_mo_arcCost a_mo_far a_mo_by a_mo_best a_mo_kept m_arcs m_tapeMany m_tokenKind m_tokenAt (0 : Int32) m_tokenValue (-1 : Int32) (0 : Int32) m_isKept m_place m_tape hq) ⟨rfl, rfl, Nat.le_of_ble_eq_true rfl, Nat.le_of_ble_eq_true rfl⟩ [0, 2] rfl rfl rfl rfl rfl rfl rfl hl.1 (Nat.le_of_ble_eq_true rfl) ⟨Nat.zero_le _, Nat.zero_le _⟩ dX7_read_80 (fun H locs hW => ?_)
  refine lv_iconst hx hb dX7_read_83 qI_0 ?_
  refine lv_istore_n (lv' := [(3, .int (0 : Int32)), (0, .ref a_mo), (1, .int v1), (2, .int v2)]) hx hb dX7_read_84 rfl hl (by decide) rfl (fun ls hl => ?_)
  exact tX7_read_85 X v1 v2 m_tapeMany (fun v3_q65 m_tokenKind_q65 m_tokenAt_q65 m_tokenEnd_q65 m_tokenValue_q65 m_fault_q65 m_seen_q65 m_leases_q65 => fX7_read_109 v1 v2 v3_q65 m_tokenKind_q65 m_tokenAt_q65 m_tokenEnd_q65 m_tokenValue_q65 m_fault_q65 m_seen_q65 m_leases_q65) (fun v3_q65 m_tokenKind_q65 m_tokenAt_q65 m_tokenEnd_q65 m_tokenValue_q65 m_fault_q65 m_seen_q65 m_leases_q65 h H locs hW ls hl => by exact tX7_read_109 X v1 v2 v3_q65 m_tapeMany m_tokenKind_q65 m_tokenAt_q65 m_tokenEnd_q65 m_tokenValue_q65 m_fault_q65 m_seen_q65 m_leases_q65 h H locs hW ls hl) FU (0 : Int32) o62_m_tokenKind o62_m_tokenAt o62_m_tokenEnd o62_m_tokenValue (-1 : Int32) (0 : Int32) (upd m_leases (v2 + (16 : Int32)).toNatClampNeg (1 : Int32)) h H locs hW ls (lv_sub hl [1, 2, 3, 0] rfl)
set_option maxHeartbeats 4000000 in
set_option maxRecDepth 100000 in
theorem tX7_read_47 (X : Bx p s m args meth c cX7_read 5 wsX7_read RX7 (some .int)) (v1 : Int32) (v2 : Int32) (v3 : Int32) (t1 : Int32) (t2 : Int32) (m_tapeMany : Int32) (m_tokenKind : Int32) (m_tokenAt : Int32) (m_tokenEnd : Int32) (m_tokenValue : Int32) (m_fault : Int32) (m_seen : Int32) (m_leases : (Nat → Int32)) (k_21 : Int32 → (Nat → Int32) → Option (Int32 × Int32 × Int32 × Int32 × Int32 × Int32 × Int32 × Int32 × (Nat → Int32))) (Hk_21 : ∀ (v3 : Int32) (m_leases : (Nat → Int32)), k_21 v3 m_leases = some res → ∀ (H : Heap) (locs : List Loc), Wo G A s (wX7_read G a_mo a_mo_leases a_mo_tape a_mo_numbers a_mo_boxes a_mo_words a_mo_weeks a_mo_routes a_mo_turns a_mo_leave a_mo_uses a_mo_arcFrom a_mo_arcTo a_mo_arcRoom a_mo_arcCost a_mo_far a_mo_by a_mo_best a_mo_kept m_arcs m_tapeMany m_tokenKind m_tokenAt m_tokenEnd m_tokenValue m_fault m_seen m_isKept m_place m_leases m_tape) H locs → ∀ ls : Array Slot, lv_has ls 5 [(0, .ref a_mo), (1, .int v1), (2, .int v2), (3, .int v3)] → W p l e rmX7_read s m args below meth c H locs 0 0 (QI G A below args s res.1 (wX7_read G a_mo a_mo_leases a_mo_tape a_mo_numbers a_mo_boxes a_mo_words a_mo_weeks a_mo_routes a_mo_turns a_mo_leave a_mo_uses a_mo_arcFrom a_mo_arcTo a_mo_arcRoom a_mo_arcCost a_mo_far a_mo_by a_mo_best a_mo_kept m_arcs res.2.1 res.2.2.1 res.2.2.2.1 res.2.2.2.2.1 res.2.2.2.2.2.1 res.2.2.2.2.2.2.1 res.2.2.2.2.2.2.2.1 m_isKept m_place res.2.2.2.2.2.2.2.2 m_tape)) (F0 m 21 ls [])) (h : fX7_read_47 k_21 v3 t1 t2 m_leases = some res) : ∀ (H : Heap) (locs : List Loc), Wo G A s (wX7_read G a_mo a_mo_leases a_mo_tape a_mo_numbers a_mo_boxes a_mo_words a_mo_weeks a_mo_routes a_mo_turns a_mo_leave a_mo_uses a_mo_arcFrom a_mo_arcTo a_mo_arcRoom a_mo_arcCost a_mo_far a_mo_by a_mo_best a_mo_kept m_arcs m_tapeMany m_tokenKind m_tokenAt m_tokenEnd m_tokenValue m_fault m_seen m_isKept m_place m_leases m_tape) H locs → ∀ ls : Array Slot, lv_has ls 5 [(0, .ref a_mo), (1, .int v1), (2, .int v2), (3, .int v3)] → W p l e rmX7_read s m args below meth c H locs 0 0 (QI G A below args s res.1 (wX7_read G a_mo a_mo_leases a_mo_tape a_mo_numbers a_mo_boxes a_mo_words a_mo_weeks a_mo_routes a_mo_turns a_mo_leave a_mo_uses a_mo_arcFrom a_mo_arcTo a_mo_arcRoom a_mo_arcCost a_mo_far a_mo_by a_mo_best a_mo_kept m_arcs res.2.1 res.2.2.1 res.2.2.2.1 res.2.2.2.2.1 res.2.2.2.2.2.1 res.2.2.2.2.2.2.1 res.2.2.2.2.2.2.2.1 m_isKept m_place res.2.2.2.2.2.2.2.2 m_tape)) (F0 m 47 ls [.int t2, .int t1, .ref a_mo_leases]) := by
  obtain ⟨hx, hb, -⟩ := id X.1
  intro H locs hW ls hl
  rw [fX7_read_47] at h
  obtain ⟨g66, h⟩ := gd_some h
  refine g_ast X hW (ws' := (wX7_read G a_mo a_mo_leases a_mo_tape a_mo_numbers a_mo_boxes a_mo_words a_mo_weeks a_mo_routes a_mo_turns a_mo_leave a_mo_uses a_mo_arcFrom a_mo_arcTo a_mo_arcRoom a_mo_arcCost a_mo_far a_mo_by a_mo_best a_mo_kept m_arcs m_tapeMany m_tokenKind m_tokenAt m_tokenEnd m_tokenValue m_fault m_seen m_isKept m_place (upd m_leases t1.toNatClampNeg t2) m_tape)) 1 rfl g66 rfl dX7_read_47 (fun H locs hW => ?_)
  refine lv_iinc (v := (v3 + (1 : Int32))) (lv' := [(3, .int (v3 + (1 : Int32))), (0, .ref a_mo), (1, .int v1), (2, .int v2)]) hx hb dX7_read_48 hl (k := 3) rfl (congrArg (fun z => v3 + z) qI_1) (by decide) rfl (fun ls hl => ?_)
  refine lv_goto (tgt := 21) hx hb dX7_read_51 (by decide) ?_
  exact Hk_21 (v3 + (1 : Int32)) (upd m_leases t1.toNatClampNeg t2) h H locs hW ls (lv_sub hl [1, 2, 3, 0] rfl)
set_option maxHeartbeats 4000000 in
set_option maxRecDepth 100000 in
theorem tX7_read_21 (X : Bx p s m args meth c cX7_read 5 wsX7_read RX7 (some .int)) (v1 : Int32) (v2 : Int32) (m_tapeMany : Int32) (m_tokenKind : Int32) (m_tokenAt : Int32) (m_tokenEnd : Int32) (m_tokenValue : Int32) (m_fault : Int32) (m_seen : Int32) (k_54 : (Nat → Int32) → Option (Int32 × Int32 × Int32 × Int32 × Int32 × Int32 × Int32 × Int32 × (Nat → Int32))) (Hk_54 : ∀ (m_leases : (Nat → Int32)), k_54 m_leases = some res → ∀ (H : Heap) (locs : List Loc), Wo G A s (wX7_read G a_mo a_mo_leases a_mo_tape a_mo_numbers a_mo_boxes a_mo_words a_mo_weeks a_mo_routes a_mo_turns a_mo_leave a_mo_uses a_mo_arcFrom a_mo_arcTo a_mo_arcRoom a_mo_arcCost a_mo_far a_mo_by a_mo_best a_mo_kept m_arcs m_tapeMany m_tokenKind m_tokenAt m_tokenEnd m_tokenValue m_fault m_seen m_isKept m_place m_leases m_tape) H locs → ∀ ls : Array Slot, lv_has ls 5 [(0, .ref a_mo), (1, .int v1), (2, .int v2)] → W p l e rmX7_read s m args below meth c H locs 0 0 (QI G A below args s res.1 (wX7_read G a_mo a_mo_leases a_mo_tape a_mo_numbers a_mo_boxes a_mo_words a_mo_weeks a_mo_routes a_mo_turns a_mo_leave a_mo_uses a_mo_arcFrom a_mo_arcTo a_mo_arcRoom a_mo_arcCost a_mo_far a_mo_by a_mo_best a_mo_kept m_arcs res.2.1 res.2.2.1 res.2.2.2.1 res.2.2.2.2.1 res.2.2.2.2.2.1 res.2.2.2.2.2.2.1 res.2.2.2.2.2.2.2.1 m_isKept m_place res.2.2.2.2.2.2.2.2 m_tape)) (F0 m 54 ls [])) : ∀ (n : Nat) (v3 : Int32) (m_leases : (Nat → Int32)), fX7_read_21 v2 k_54 n v3 m_leases = some res → ∀ (H : Heap) (locs : List Loc), Wo G A s (wX7_read G a_mo a_mo_leases a_mo_tape a_mo_numbers a_mo_boxes a_mo_words a_mo_weeks a_mo_routes a_mo_turns a_mo_leave a_mo_uses a_mo_arcFrom a_mo_arcTo a_mo_arcRoom a_mo_arcCost a_mo_far a_mo_by a_mo_best a_mo_kept m_arcs m_tapeMany m_tokenKind m_tokenAt m_tokenEnd m_tokenValue m_fault m_seen m_isKept m_place m_leases m_tape) H locs → ∀ ls : Array Slot, lv_has ls 5 [(0, .ref a_mo), (1, .int v1), (2, .int v2), (3, .int v3)] → W p l e rmX7_read s m args below meth c H locs 0 0 (QI G A below args s res.1 (wX7_read G a_mo a_mo_leases a_mo_tape a_mo_numbers a_mo_boxes a_mo_words a_mo_weeks a_mo_routes a_mo_turns a_mo_leave a_mo_uses a_mo_arcFrom a_mo_arcTo a_mo_arcRoom a_mo_arcCost a_mo_far a_mo_by a_mo_best a_mo_kept m_arcs res.2.1 res.2.2.1 res.2.2.2.1 res.2.2.2.2.1 res.2.2.2.2.2.1 res.2.2.2.2.2.2.1 res.2.2.2.2.2.2.2.1 m_isKept m_place res.2.2.2.2.2.2.2.2 m_tape)) (F0 m 21 ls []) := by
  obtain ⟨hx, hb, -⟩ := id X.1
  intro n
  induction n with
  | zero => intro v3 m_leases h; rw [fX7_read_21] at h; cases h
  | succ n ih =>
    intro v3 m_leases h H locs hW ls hl
    rw [fX7_read_21] at h
    refine lv_iload_n hx hb dX7_read_21 rfl (lv_at hl 3 rfl) ?_
    refine lv_bipush hx hb dX7_read_22 qB_16 ?_
    refine lv_icmp_ge (tgt := 54) hx hb dX7_read_24 (by decide) (fun c71 => ?_) (fun c71 => ?_)
    · have h := (if_pos c71).symm.trans h
      exact Hk_54 m_leases h H locs hW ls (lv_sub hl [0, 1, 2] rfl)
    · have h := (if_neg c71).symm.trans h
      refine lv_aload_n hx hb dX7_read_27 rfl (lv_at hl 0 rfl) ?_
      refine g_get X hW eX7_read_31 0 rfl rfl dX7_read_28 ?_
      refine lv_iload_n hx hb dX7_read_31 rfl (lv_at hl 2 rfl) ?_
      refine lv_iload_n hx hb dX7_read_32 rfl (lv_at hl 3 rfl) ?_
      refine lv_iadd hx hb dX7_read_33 ?_
      refine lv_iload_n hx hb dX7_read_34 rfl (lv_at hl 3 rfl) ?_
      refine lv_bipush hx hb dX7_read_35 qB_10 ?_
      refine lv_icmp_lt (tgt := 46) hx hb dX7_read_37 (by decide) (fun c79 => ?_) (fun c79 => ?_)
      · have h := (if_pos c79).symm.trans h
        refine lv_iconst hx hb dX7_read_46 qI_0 ?_
        exact tX7_read_47 X v1 v2 v3 (v2 + v3) (0 : Int32) m_tapeMany m_tokenKind m_tokenAt m_tokenEnd m_tokenValue m_fault m_seen m_leases (fun v3 m_leases => fX7_read_21 v2 k_54 n v3 m_leases) ih h H locs hW ls hl
      · have h := (if_neg c79).symm.trans h
        refine lv_sipush hx hb dX7_read_40 qS_999 ?_
        refine lv_goto (tgt := 47) hx hb dX7_read_43 (by decide) ?_
        exact tX7_read_47 X v1 v2 v3 (v2 + v3) (999 : Int32) m_tapeMany m_tokenKind m_tokenAt m_tokenEnd m_tokenValue m_fault m_seen m_leases (fun v3 m_leases => fX7_read_21 v2 k_54 n v3 m_leases) ih h H locs hW ls hl
set_option maxHeartbeats 4000000 in
set_option maxRecDepth 100000 in
theorem k0X7_read {l : Launch} (G : Gt) (a_mo a_mo_leases a_mo_tape a_mo_numbers a_mo_boxes a_mo_words a_mo_weeks a_mo_routes a_mo_turns a_mo_leave a_mo_uses a_mo_arcFrom a_mo_arcTo a_mo_arcRoom a_mo_arcCost a_mo_far a_mo_by a_mo_best a_mo_kept : Nat) (v1 : Int32) (m_arcs : Int32) (m_tapeMany : Int32) (m_tokenKind : Int32) (m_tokenAt : Int32) (m_tokenEnd : Int32) (m_tokenValue : Int32) (m_fault : Int32) (m_seen : Int32) (m_isKept : Int32) (m_place : Int32) (m_leases : (Nat → Int32)) (m_tape : (Nat → Int32)) {res : Int32 × Int32 × Int32 × Int32 × Int32 × Int32 × Int32 × Int32 × (Nat → Int32)} (h : fX7_read v1 m_tapeMany m_tokenKind m_tokenAt m_tokenEnd m_tokenValue m_fault m_seen m_leases m_tape = some res) : CtI G l yX7_read wsX7_read rmX7_read [.ref a_mo, .int v1] (wX7_read G a_mo a_mo_leases a_mo_tape a_mo_numbers a_mo_boxes a_mo_words a_mo_weeks a_mo_routes a_mo_turns a_mo_leave a_mo_uses a_mo_arcFrom a_mo_arcTo a_mo_arcRoom a_mo_arcCost a_mo_far a_mo_by a_mo_best a_mo_kept m_arcs m_tapeMany m_tokenKind m_tokenAt m_tokenEnd m_tokenValue m_fault m_seen m_isKept m_place m_leases m_tape) res.1 (wX7_read G a_mo a_mo_leases a_mo_tape a_mo_numbers a_mo_boxes a_mo_words a_mo_weeks a_mo_routes a_mo_turns a_mo_leave a_mo_uses a_mo_arcFrom a_mo_arcTo a_mo_arcRoom a_mo_arcCost a_mo_far a_mo_by a_mo_best a_mo_kept m_arcs res.2.1 res.2.2.1 res.2.2.2.1 res.2.2.2.2.1 res.2.2.2.2.2.1 res.2.2.2.2.2.2.1 res.2.2.2.2.2.2.2.1 m_isKept m_place res.2.2.2.2.2.2.2.2 m_tape) := by
  refine CtI.mk (cc := cX7_read) (maxL := 5) (ret := (some .int)) (own := RX7) (by decide) rfl rfl (Nat.le_of_ble_eq_true rfl) ?_
  intro p e s m below meth c A X ls hl hW
  obtain ⟨hx, hb, -⟩ := id X.1
  have hl : lv_has ls 5 [(0, .ref a_mo), (1, .int v1)] := hl
  generalize hH : s.heap = H at hW ⊢
  generalize hLo : ([] : List Loc) = locs at hW ⊢
  rw [fX7_read] at h
  refine lv_iload_n hx hb dX7_read_0 rfl (lv_at hl 1 rfl) ?_
  refine lv_iconst hx hb dX7_read_1 qI_0 ?_
  refine lv_iconst hx hb dX7_read_2 qI_2 ?_
  obtain ⟨r86, hq, h⟩ := bn1_some h
  refine g_csi X hW (As := [.int v1, .int (0 : Int32), .int (2 : Int32)]) (ws' := (wX7_read G a_mo a_mo_leases a_mo_tape a_mo_numbers a_mo_boxes a_mo_words a_mo_weeks a_mo_routes a_mo_turns a_mo_leave a_mo_uses a_mo_arcFrom a_mo_arcTo a_mo_arcRoom a_mo_arcCost a_mo_far a_mo_by a_mo_best a_mo_kept m_arcs m_tapeMany m_tokenKind m_tokenAt m_tokenEnd m_tokenValue m_fault m_seen m_isKept m_place m_leases m_tape)) ckX7_read_X7_in_64 (kcX7_in (l := l) G v1 (0 : Int32) (2 : Int32) hq) ⟨rfl, rfl, Nat.le_of_ble_eq_true rfl, Nat.le_of_ble_eq_true rfl⟩ [] rfl rfl rfl rfl rfl rfl hl.1 (Nat.le_of_ble_eq_true rfl) ⟨Nat.zero_le _, Nat.zero_le _⟩ dX7_read_3 (fun H locs hW => ?_)
  refine lv_if_ne (tgt := 16) hx hb dX7_read_6 (by decide) (fun c87 => ?_) (fun c87 => ?_)
  · have h := (if_neg c87).symm.trans h
    refine lv_bipush hx hb dX7_read_16 qB_51 ?_
    refine lv_istore_n (lv' := [(2, .int (51 : Int32)), (0, .ref a_mo), (1, .int v1)]) hx hb dX7_read_18 rfl hl (by decide) rfl (fun ls hl => ?_)
    refine lv_iconst hx hb dX7_read_19 qI_0 ?_
    refine lv_istore_n (lv' := [(3, .int (0 : Int32)), (2, .int (51 : Int32)), (0, .ref a_mo), (1, .int v1)]) hx hb dX7_read_20 rfl hl (by decide) rfl (fun ls hl => ?_)
    exact tX7_read_21 X v1 (51 : Int32) m_tapeMany m_tokenKind m_tokenAt m_tokenEnd m_tokenValue m_fault m_seen (fun m_leases_q92 => fX7_read_54 v1 (51 : Int32) m_tapeMany m_tokenKind m_tokenAt m_tokenValue m_leases_q92 m_tape) (fun m_leases_q92 h H locs hW ls hl => by exact tX7_read_54 X v1 (51 : Int32) m_tapeMany m_tokenKind m_tokenAt m_tokenEnd m_tokenValue m_fault m_seen m_leases_q92 h H locs hW ls hl) FU (0 : Int32) m_leases h H locs hW ls (lv_sub hl [2, 3, 1, 0] rfl)
  · have h := (if_pos c87).symm.trans h
    refine lv_aload_n hx hb dX7_read_9 rfl (lv_at hl 0 rfl) ?_
    refine lv_iconst hx hb dX7_read_10 qI_0 ?_
    refine g_put X hW (ws' := (wX7_read G a_mo a_mo_leases a_mo_tape a_mo_numbers a_mo_boxes a_mo_words a_mo_weeks a_mo_routes a_mo_turns a_mo_leave a_mo_uses a_mo_arcFrom a_mo_arcTo a_mo_arcRoom a_mo_arcCost a_mo_far a_mo_by a_mo_best a_mo_kept m_arcs (0 : Int32) m_tokenKind m_tokenAt m_tokenEnd m_tokenValue m_fault m_seen m_isKept m_place m_leases m_tape)) pX7_read_145 0 rfl (Nat.le_of_ble_eq_true rfl) rfl rfl rfl dX7_read_11 (fun H locs hW => ?_)
    refine lv_iconst hx hb dX7_read_14 qI_m1 ?_
    obtain rfl := Option.some.inj h
    exact g_iret X hW dX7_read_15
theorem kcX7_read {l : Launch} (G : Gt) (a_mo a_mo_leases a_mo_tape a_mo_numbers a_mo_boxes a_mo_words a_mo_weeks a_mo_routes a_mo_turns a_mo_leave a_mo_uses a_mo_arcFrom a_mo_arcTo a_mo_arcRoom a_mo_arcCost a_mo_far a_mo_by a_mo_best a_mo_kept : Nat) (v1 : Int32) (m_arcs : Int32) (m_tapeMany : Int32) (m_tokenKind : Int32) (m_tokenAt : Int32) (m_tokenEnd : Int32) (m_tokenValue : Int32) (m_fault : Int32) (m_seen : Int32) (m_isKept : Int32) (m_place : Int32) (m_leases : (Nat → Int32)) (m_tape : (Nat → Int32)) {r : Int32} {z_m_tapeMany : Int32} {z_m_tokenKind : Int32} {z_m_tokenAt : Int32} {z_m_tokenEnd : Int32} {z_m_tokenValue : Int32} {z_m_fault : Int32} {z_m_seen : Int32} {z_m_leases : (Nat → Int32)} (h : fX7_read v1 m_tapeMany m_tokenKind m_tokenAt m_tokenEnd m_tokenValue m_fault m_seen m_leases m_tape = some (r, z_m_tapeMany, z_m_tokenKind, z_m_tokenAt, z_m_tokenEnd, z_m_tokenValue, z_m_fault, z_m_seen, z_m_leases)) : CtI G l yX7_read wsX7_read rmX7_read [.ref a_mo, .int v1] (wX7_read G a_mo a_mo_leases a_mo_tape a_mo_numbers a_mo_boxes a_mo_words a_mo_weeks a_mo_routes a_mo_turns a_mo_leave a_mo_uses a_mo_arcFrom a_mo_arcTo a_mo_arcRoom a_mo_arcCost a_mo_far a_mo_by a_mo_best a_mo_kept m_arcs m_tapeMany m_tokenKind m_tokenAt m_tokenEnd m_tokenValue m_fault m_seen m_isKept m_place m_leases m_tape) r (wX7_read G a_mo a_mo_leases a_mo_tape a_mo_numbers a_mo_boxes a_mo_words a_mo_weeks a_mo_routes a_mo_turns a_mo_leave a_mo_uses a_mo_arcFrom a_mo_arcTo a_mo_arcRoom a_mo_arcCost a_mo_far a_mo_by a_mo_best a_mo_kept m_arcs z_m_tapeMany z_m_tokenKind z_m_tokenAt z_m_tokenEnd z_m_tokenValue z_m_fault z_m_seen m_isKept m_place z_m_leases m_tape) := k0X7_read G a_mo a_mo_leases a_mo_tape a_mo_numbers a_mo_boxes a_mo_words a_mo_weeks a_mo_routes a_mo_turns a_mo_leave a_mo_uses a_mo_arcFrom a_mo_arcTo a_mo_arcRoom a_mo_arcCost a_mo_far a_mo_by a_mo_best a_mo_kept v1 m_arcs m_tapeMany m_tokenKind m_tokenAt m_tokenEnd m_tokenValue m_fault m_seen m_isKept m_place m_leases m_tape h
end MX7_read
/-! EmptyBoxesModel.lease -/
section MX7_lease
theorem hdX7_lease : yX7_lease.cls = RX7 ∧ yX7_lease.cls ≠ "java/lang/invoke/MethodHandle" ∧ yX7_lease.cls ≠ "java/lang/invoke/VarHandle" ∧ (parseMethodDescriptor yX7_lease.desc).map (fun d => d.parameters.length) = some 2 := by decide +kernel
abbrev wX7_lease (G : Gt) (a_mo a_mo_leases a_mo_numbers a_mo_boxes a_mo_words a_mo_weeks a_mo_routes a_mo_turns a_mo_leave a_mo_uses a_mo_arcFrom a_mo_arcTo a_mo_arcRoom a_mo_arcCost a_mo_far a_mo_by a_mo_best a_mo_tape a_mo_kept : Nat) (m_arcs : Int32) (m_tapeMany : Int32) (m_tokenKind : Int32) (m_tokenAt : Int32) (m_tokenEnd : Int32) (m_tokenValue : Int32) (m_fault : Int32) (m_seen : Int32) (m_isKept : Int32) (m_place : Int32) (m_leases : (Nat → Int32)) : va_W := [(a_mo, .inr (7, [.ref a_mo_numbers, .ref a_mo_boxes, .ref a_mo_words, .ref a_mo_weeks, .ref a_mo_routes, .ref a_mo_turns, .ref a_mo_leave, .ref a_mo_leases, .ref a_mo_uses, .ref a_mo_arcFrom, .ref a_mo_arcTo, .ref a_mo_arcRoom, .ref a_mo_arcCost, .int m_arcs, .ref a_mo_far, .ref a_mo_by, .ref a_mo_best, .ref a_mo_tape, .int m_tapeMany, .int m_tokenKind, .int m_tokenAt, .int m_tokenEnd, .int m_tokenValue, .int m_fault, .int m_seen, .int m_isKept, .ref a_mo_kept, .int m_place])), (a_mo_leases, .inl (G.2.1, 68, .inl m_leases))]
abbrev rmX7_lease : Room := { frames := 1, cells := 0, slots := 0, locals := 22 }
theorem iX7_lease_X7 : ∀ w ∈ wsX70, w ∈ wsX7_lease := by decide +kernel
theorem eX7_lease_31 : Fk wsX7_lease RX7 31 7 7 := ⟨RX7, TX7, 28, rfl, iX7_lease_X7, by decide, by decide +kernel⟩
theorem ckX7_lease_X7_in_64 : CkS wsX7_lease RX7 64 yX7_in wsX7_in cX7_in 3 (some .boolean) 3 := ⟨_, gX7_lease_X7_in, rfl, hdX7_in.2⟩
variable {p : Program} {l : Launch} {e : Env} {s : State} {m : MethodId} {args : Array Value} {below : List Frame} {meth : Method} {c : Code} {A : Nat → Prop} {G : Gt} {a_mo a_mo_leases a_mo_numbers a_mo_boxes a_mo_words a_mo_weeks a_mo_routes a_mo_turns a_mo_leave a_mo_uses a_mo_arcFrom a_mo_arcTo a_mo_arcRoom a_mo_arcCost a_mo_far a_mo_by a_mo_best a_mo_tape a_mo_kept : Nat} {m_arcs : Int32} {m_tapeMany : Int32} {m_tokenKind : Int32} {m_tokenAt : Int32} {m_tokenEnd : Int32} {m_tokenValue : Int32} {m_fault : Int32} {m_seen : Int32} {m_isKept : Int32} {m_place : Int32} {m_leases : (Nat → Int32)} {res : Int32}
set_option maxHeartbeats 4000000 in
set_option maxRecDepth 100000 in
theorem tX7_lease_95 (X : Bx p s m args meth c cX7_lease 3 wsX7_lease RX7 (some .int)) (t1 : Int32) (t2 : Int32)   (h : fX7_lease_95 t1 t2 m_leases = some res) : ∀ (H : Heap) (locs : List Loc), Wo G A s (wX7_lease G a_mo a_mo_leases a_mo_numbers a_mo_boxes a_mo_words a_mo_weeks a_mo_routes a_mo_turns a_mo_leave a_mo_uses a_mo_arcFrom a_mo_arcTo a_mo_arcRoom a_mo_arcCost a_mo_far a_mo_by a_mo_best a_mo_tape a_mo_kept m_arcs m_tapeMany m_tokenKind m_tokenAt m_tokenEnd m_tokenValue m_fault m_seen m_isKept m_place m_leases) H locs → ∀ ls : Array Slot, lv_has ls 3 [] → W p l e rmX7_lease s m args below meth c H locs 0 0 (QI G A below args s res (wX7_lease G a_mo a_mo_leases a_mo_numbers a_mo_boxes a_mo_words a_mo_weeks a_mo_routes a_mo_turns a_mo_leave a_mo_uses a_mo_arcFrom a_mo_arcTo a_mo_arcRoom a_mo_arcCost a_mo_far a_mo_by a_mo_best a_mo_tape a_mo_kept m_arcs m_tapeMany m_tokenKind m_tokenAt m_tokenEnd m_tokenValue m_fault m_seen m_isKept m_place m_leases)) (F0 m 95 ls [.int t2, .int t1, .ref a_mo_leases]) := by
  obtain ⟨hx, hb, -⟩ := id X.1
  intro H locs hW ls hl
  rw [fX7_lease_95] at h
  refine lv_iadd hx hb dX7_lease_95 ?_
  obtain ⟨g2, h⟩ := gd_some h
  refine g_ald X hW 1 rfl g2 dX7_lease_96 ?_
  obtain rfl := Option.some.inj h
  exact g_iret X hW dX7_lease_97
set_option maxHeartbeats 4000000 in
set_option maxRecDepth 100000 in
theorem tX7_lease_42 (X : Bx p s m args meth c cX7_lease 3 wsX7_lease RX7 (some .int)) (v1 : Int32) (v2 : Int32)   (h : fX7_lease_42 v1 v2 m_leases = some res) : ∀ (H : Heap) (locs : List Loc), Wo G A s (wX7_lease G a_mo a_mo_leases a_mo_numbers a_mo_boxes a_mo_words a_mo_weeks a_mo_routes a_mo_turns a_mo_leave a_mo_uses a_mo_arcFrom a_mo_arcTo a_mo_arcRoom a_mo_arcCost a_mo_far a_mo_by a_mo_best a_mo_tape a_mo_kept m_arcs m_tapeMany m_tokenKind m_tokenAt m_tokenEnd m_tokenValue m_fault m_seen m_isKept m_place m_leases) H locs → ∀ ls : Array Slot, lv_has ls 3 [(0, .ref a_mo), (1, .int v1), (2, .int v2)] → W p l e rmX7_lease s m args below meth c H locs 0 0 (QI G A below args s res (wX7_lease G a_mo a_mo_leases a_mo_numbers a_mo_boxes a_mo_words a_mo_weeks a_mo_routes a_mo_turns a_mo_leave a_mo_uses a_mo_arcFrom a_mo_arcTo a_mo_arcRoom a_mo_arcCost a_mo_far a_mo_by a_mo_best a_mo_tape a_mo_kept m_arcs m_tapeMany m_tokenKind m_tokenAt m_tokenEnd m_tokenValue m_fault m_seen m_isKept m_place m_leases)) (F0 m 42 ls []) := by
  obtain ⟨hx, hb, -⟩ := id X.1
  intro H locs hW ls hl
  rw [fX7_lease_42] at h
  refine lv_aload_n hx hb dX7_lease_42 rfl (lv_at hl 0 rfl) ?_
  refine g_get X hW eX7_lease_31 0 rfl rfl dX7_lease_43 ?_
  refine lv_bipush hx hb dX7_lease_46 qB_17 ?_
  refine lv_iload_n hx hb dX7_lease_48 rfl (lv_at hl 1 rfl) ?_
  refine lv_imul hx hb dX7_lease_49 ?_
  refine lv_bipush hx hb dX7_lease_50 qB_16 ?_
  refine lv_iadd hx hb dX7_lease_52 ?_
  obtain ⟨g11, h⟩ := gd_some h
  refine g_ald X hW 1 rfl g11 dX7_lease_53 ?_
  refine lv_if_ne (tgt := 60) hx hb dX7_lease_54 (by decide) (fun c12 => ?_) (fun c12 => ?_)
  · have h := (if_neg c12).symm.trans h
    refine lv_aload_n hx hb dX7_lease_60 rfl (lv_at hl 0 rfl) ?_
    refine g_get X hW eX7_lease_31 0 rfl rfl dX7_lease_61 ?_
    refine lv_bipush hx hb dX7_lease_64 qB_17 ?_
    refine lv_iload_n hx hb dX7_lease_66 rfl (lv_at hl 1 rfl) ?_
    refine lv_imul hx hb dX7_lease_67 ?_
    refine lv_iload_n hx hb dX7_lease_68 rfl (lv_at hl 2 rfl) ?_
    refine lv_bipush hx hb dX7_lease_69 qB_10 ?_
    refine lv_icmp_ge (tgt := 78) hx hb dX7_lease_71 (by decide) (fun c20 => ?_) (fun c20 => ?_)
    · have h := (if_pos c20).symm.trans h
      refine lv_iload_n hx hb dX7_lease_78 rfl (lv_at hl 2 rfl) ?_
      refine lv_bipush hx hb dX7_lease_79 qB_20 ?_
      refine lv_icmp_ge (tgt := 91) hx hb dX7_lease_81 (by decide) (fun c23 => ?_) (fun c23 => ?_)
      · have h := (if_pos c23).symm.trans h
        refine lv_iload_n hx hb dX7_lease_91 rfl (lv_at hl 2 rfl) ?_
        refine lv_bipush hx hb dX7_lease_92 qB_10 ?_
        refine lv_isub hx hb dX7_lease_94 ?_
        exact tX7_lease_95 X ((17 : Int32) * v1) (v2 - (10 : Int32)) h H locs hW ls (lv_sub hl [] rfl)
      · have h := (if_neg c23).symm.trans h
        refine lv_iload_n hx hb dX7_lease_84 rfl (lv_at hl 2 rfl) ?_
        refine lv_bipush hx hb dX7_lease_85 qB_6 ?_
        refine lv_isub hx hb dX7_lease_87 ?_
        refine lv_goto (tgt := 95) hx hb dX7_lease_88 (by decide) ?_
        exact tX7_lease_95 X ((17 : Int32) * v1) (v2 - (6 : Int32)) h H locs hW ls (lv_sub hl [] rfl)
    · have h := (if_neg c20).symm.trans h
      refine lv_iload_n hx hb dX7_lease_74 rfl (lv_at hl 2 rfl) ?_
      refine lv_goto (tgt := 95) hx hb dX7_lease_75 (by decide) ?_
      exact tX7_lease_95 X ((17 : Int32) * v1) v2 h H locs hW ls (lv_sub hl [] rfl)
  · have h := (if_pos c12).symm.trans h
    refine lv_bipush hx hb dX7_lease_57 qB_m3 ?_
    obtain rfl := Option.some.inj h
    exact g_iret X hW dX7_lease_59
set_option maxHeartbeats 4000000 in
set_option maxRecDepth 100000 in
theorem k0X7_lease {l : Launch} (G : Gt) (a_mo a_mo_leases a_mo_numbers a_mo_boxes a_mo_words a_mo_weeks a_mo_routes a_mo_turns a_mo_leave a_mo_uses a_mo_arcFrom a_mo_arcTo a_mo_arcRoom a_mo_arcCost a_mo_far a_mo_by a_mo_best a_mo_tape a_mo_kept : Nat) (v1 : Int32) (v2 : Int32) (m_arcs : Int32) (m_tapeMany : Int32) (m_tokenKind : Int32) (m_tokenAt : Int32) (m_tokenEnd : Int32) (m_tokenValue : Int32) (m_fault : Int32) (m_seen : Int32) (m_isKept : Int32) (m_place : Int32) (m_leases : (Nat → Int32)) {res : Int32} (h : fX7_lease v1 v2 m_leases = some res) : CtI G l yX7_lease wsX7_lease rmX7_lease [.ref a_mo, .int v1, .int v2] (wX7_lease G a_mo a_mo_leases a_mo_numbers a_mo_boxes a_mo_words a_mo_weeks a_mo_routes a_mo_turns a_mo_leave a_mo_uses a_mo_arcFrom a_mo_arcTo a_mo_arcRoom a_mo_arcCost a_mo_far a_mo_by a_mo_best a_mo_tape a_mo_kept m_arcs m_tapeMany m_tokenKind m_tokenAt m_tokenEnd m_tokenValue m_fault m_seen m_isKept m_place m_leases) res (wX7_lease G a_mo a_mo_leases a_mo_numbers a_mo_boxes a_mo_words a_mo_weeks a_mo_routes a_mo_turns a_mo_leave a_mo_uses a_mo_arcFrom a_mo_arcTo a_mo_arcRoom a_mo_arcCost a_mo_far a_mo_by a_mo_best a_mo_tape a_mo_kept m_arcs m_tapeMany m_tokenKind m_tokenAt m_tokenEnd m_tokenValue m_fault m_seen m_isKept m_place m_leases) := by
  refine CtI.mk (cc := cX7_lease) (maxL := 3) (ret := (some .int)) (own := RX7) (by decide) rfl rfl (Nat.le_of_ble_eq_true rfl) ?_
  intro p e s m below meth c A X ls hl hW
  obtain ⟨hx, hb, -⟩ := id X.1
  have hl : lv_has ls 3 [(0, .ref a_mo), (1, .int v1), (2, .int v2)] := hl
  generalize hH : s.heap = H at hW ⊢
  generalize hLo : ([] : List Loc) = locs at hW ⊢
  rw [fX7_lease] at h
  refine lv_iload_n hx hb dX7_lease_0 rfl (lv_at hl 1 rfl) ?_
  refine lv_iconst hx hb dX7_lease_1 qI_0 ?_
  refine lv_iconst hx hb dX7_lease_2 qI_2 ?_
  obtain ⟨r38, hq, h⟩ := bn1_some h
  refine g_csi X hW (As := [.int v1, .int (0 : Int32), .int (2 : Int32)]) (ws' := (wX7_lease G a_mo a_mo_leases a_mo_numbers a_mo_boxes a_mo_words a_mo_weeks a_mo_routes a_mo_turns a_mo_leave a_mo_uses a_mo_arcFrom a_mo_arcTo a_mo_arcRoom a_mo_arcCost a_mo_far a_mo_by a_mo_best a_mo_tape a_mo_kept m_arcs m_tapeMany m_tokenKind m_tokenAt m_tokenEnd m_tokenValue m_fault m_seen m_isKept m_place m_leases)) ckX7_lease_X7_in_64 (kcX7_in (l := l) G v1 (0 : Int32) (2 : Int32) hq) ⟨rfl, rfl, Nat.le_of_ble_eq_true rfl, Nat.le_of_ble_eq_true rfl⟩ [] rfl rfl rfl rfl rfl rfl hl.1 (Nat.le_of_ble_eq_true rfl) ⟨Nat.zero_le _, Nat.zero_le _⟩ dX7_lease_3 (fun H locs hW => ?_)
  refine lv_if_eq (tgt := 40) hx hb dX7_lease_6 (by decide) (fun c39 => ?_) (fun c39 => ?_)
  · have h := (if_pos c39).symm.trans h
    refine lv_iconst hx hb dX7_lease_40 qI_m1 ?_
    obtain rfl := Option.some.inj h
    exact g_iret X hW dX7_lease_41
  · have h := (if_neg c39).symm.trans h
    refine lv_iload_n hx hb dX7_lease_9 rfl (lv_at hl 2 rfl) ?_
    refine lv_iconst hx hb dX7_lease_10 qI_0 ?_
    refine lv_iconst hx hb dX7_lease_11 qI_3 ?_
    obtain ⟨r45, hq, h⟩ := bn1_some h
    refine g_csi X hW (As := [.int v2, .int (0 : Int32), .int (3 : Int32)]) (ws' := (wX7_lease G a_mo a_mo_leases a_mo_numbers a_mo_boxes a_mo_words a_mo_weeks a_mo_routes a_mo_turns a_mo_leave a_mo_uses a_mo_arcFrom a_mo_arcTo a_mo_arcRoom a_mo_arcCost a_mo_far a_mo_by a_mo_best a_mo_tape a_mo_kept m_arcs m_tapeMany m_tokenKind m_tokenAt m_tokenEnd m_tokenValue m_fault m_seen m_isKept m_place m_leases)) ckX7_lease_X7_in_64 (kcX7_in (l := l) G v2 (0 : Int32) (3 : Int32) hq) ⟨rfl, rfl, Nat.le_of_ble_eq_true rfl, Nat.le_of_ble_eq_true rfl⟩ [] rfl rfl rfl rfl rfl rfl hl.1 (Nat.le_of_ble_eq_true rfl) ⟨Nat.zero_le _, Nat.zero_le _⟩ dX7_lease_12 (fun H locs hW => ?_)
    refine lv_if_ne (tgt := 42) hx hb dX7_lease_15 (by decide) (fun c46 => ?_) (fun c46 => ?_)
    · have h := (if_neg c46).symm.trans h
      exact tX7_lease_42 X v1 v2 h H locs hW ls hl
    · have h := (if_pos c46).symm.trans h
      refine lv_iload_n hx hb dX7_lease_18 rfl (lv_at hl 2 rfl) ?_
      refine lv_bipush hx hb dX7_lease_19 qB_10 ?_
      refine lv_bipush hx hb dX7_lease_21 qB_15 ?_
      obtain ⟨r50, hq, h⟩ := bn1_some h
      refine g_csi X hW (As := [.int v2, .int (10 : Int32), .int (15 : Int32)]) (ws' := (wX7_lease G a_mo a_mo_leases a_mo_numbers a_mo_boxes a_mo_words a_mo_weeks a_mo_routes a_mo_turns a_mo_leave a_mo_uses a_mo_arcFrom a_mo_arcTo a_mo_arcRoom a_mo_arcCost a_mo_far a_mo_by a_mo_best a_mo_tape a_mo_kept m_arcs m_tapeMany m_tokenKind m_tokenAt m_tokenEnd m_tokenValue m_fault m_seen m_isKept m_place m_leases)) ckX7_lease_X7_in_64 (kcX7_in (l := l) G v2 (10 : Int32) (15 : Int32) hq) ⟨rfl, rfl, Nat.le_of_ble_eq_true rfl, Nat.le_of_ble_eq_true rfl⟩ [] rfl rfl rfl rfl rfl rfl hl.1 (Nat.le_of_ble_eq_true rfl) ⟨Nat.zero_le _, Nat.zero_le _⟩ dX7_lease_23 (fun H locs hW => ?_)
      refine lv_if_ne (tgt := 42) hx hb dX7_lease_26 (by decide) (fun c51 => ?_) (fun c51 => ?_)
      · have h := (if_neg c51).symm.trans h
        exact tX7_lease_42 X v1 v2 h H locs hW ls hl
      · have h := (if_pos c51).symm.trans h
        refine lv_iload_n hx hb dX7_lease_29 rfl (lv_at hl 2 rfl) ?_
        refine lv_bipush hx hb dX7_lease_30 qB_20 ?_
        refine lv_bipush hx hb dX7_lease_32 qB_25 ?_
        obtain ⟨r55, hq, h⟩ := bn1_some h
        refine g_csi X hW (As := [.int v2, .int (20 : Int32), .int (25 : Int32)]) (ws' := (wX7_lease G a_mo a_mo_leases a_mo_numbers a_mo_boxes a_mo_words a_mo_weeks a_mo_routes a_mo_turns a_mo_leave a_mo_uses a_mo_arcFrom a_mo_arcTo a_mo_arcRoom a_mo_arcCost a_mo_far a_mo_by a_mo_best a_mo_tape a_mo_kept m_arcs m_tapeMany m_tokenKind m_tokenAt m_tokenEnd m_tokenValue m_fault m_seen m_isKept m_place m_leases)) ckX7_lease_X7_in_64 (kcX7_in (l := l) G v2 (20 : Int32) (25 : Int32) hq) ⟨rfl, rfl, Nat.le_of_ble_eq_true rfl, Nat.le_of_ble_eq_true rfl⟩ [] rfl rfl rfl rfl rfl rfl hl.1 (Nat.le_of_ble_eq_true rfl) ⟨Nat.zero_le _, Nat.zero_le _⟩ dX7_lease_34 (fun H locs hW => ?_)
        refine lv_if_ne (tgt := 42) hx hb dX7_lease_37 (by decide) (fun c56 => ?_) (fun c56 => ?_)
        · have h := (if_neg c56).symm.trans h
          exact tX7_lease_42 X v1 v2 h H locs hW ls hl
        · have h := (if_pos c56).symm.trans h
          refine lv_iconst hx hb dX7_lease_40 qI_m1 ?_
          obtain rfl := Option.some.inj h
          exact g_iret X hW dX7_lease_41
theorem kcX7_lease {l : Launch} (G : Gt) (a_mo a_mo_leases a_mo_numbers a_mo_boxes a_mo_words a_mo_weeks a_mo_routes a_mo_turns a_mo_leave a_mo_uses a_mo_arcFrom a_mo_arcTo a_mo_arcRoom a_mo_arcCost a_mo_far a_mo_by a_mo_best a_mo_tape a_mo_kept : Nat) (v1 : Int32) (v2 : Int32) (m_arcs : Int32) (m_tapeMany : Int32) (m_tokenKind : Int32) (m_tokenAt : Int32) (m_tokenEnd : Int32) (m_tokenValue : Int32) (m_fault : Int32) (m_seen : Int32) (m_isKept : Int32) (m_place : Int32) (m_leases : (Nat → Int32)) {r : Int32}  (h : fX7_lease v1 v2 m_leases = some r) : CtI G l yX7_lease wsX7_lease rmX7_lease [.ref a_mo, .int v1, .int v2] (wX7_lease G a_mo a_mo_leases a_mo_numbers a_mo_boxes a_mo_words a_mo_weeks a_mo_routes a_mo_turns a_mo_leave a_mo_uses a_mo_arcFrom a_mo_arcTo a_mo_arcRoom a_mo_arcCost a_mo_far a_mo_by a_mo_best a_mo_tape a_mo_kept m_arcs m_tapeMany m_tokenKind m_tokenAt m_tokenEnd m_tokenValue m_fault m_seen m_isKept m_place m_leases) r (wX7_lease G a_mo a_mo_leases a_mo_numbers a_mo_boxes a_mo_words a_mo_weeks a_mo_routes a_mo_turns a_mo_leave a_mo_uses a_mo_arcFrom a_mo_arcTo a_mo_arcRoom a_mo_arcCost a_mo_far a_mo_by a_mo_best a_mo_tape a_mo_kept m_arcs m_tapeMany m_tokenKind m_tokenAt m_tokenEnd m_tokenValue m_fault m_seen m_isKept m_place m_leases) := k0X7_lease G a_mo a_mo_leases a_mo_numbers a_mo_boxes a_mo_words a_mo_weeks a_mo_routes a_mo_turns a_mo_leave a_mo_uses a_mo_arcFrom a_mo_arcTo a_mo_arcRoom a_mo_arcCost a_mo_far a_mo_by a_mo_best a_mo_tape a_mo_kept v1 v2 m_arcs m_tapeMany m_tokenKind m_tokenAt m_tokenEnd m_tokenValue m_fault m_seen m_isKept m_place m_leases h
end MX7_lease
/-! EmptyBoxesModel.daysCost -/
section MX7_daysCost
theorem hdX7_daysCost : yX7_daysCost.cls = RX7 ∧ yX7_daysCost.cls ≠ "java/lang/invoke/MethodHandle" ∧ yX7_daysCost.cls ≠ "java/lang/invoke/VarHandle" ∧ (parseMethodDescriptor yX7_daysCost.desc).map (fun d => d.parameters.length) = some 1 := by decide +kernel
abbrev wX7_daysCost (G : Gt) (a_mo a_mo_numbers a_mo_boxes a_mo_leases a_mo_words a_mo_weeks a_mo_routes a_mo_turns a_mo_leave a_mo_uses a_mo_arcFrom a_mo_arcTo a_mo_arcRoom a_mo_arcCost a_mo_far a_mo_by a_mo_best a_mo_tape a_mo_kept : Nat) (m_arcs : Int32) (m_tapeMany : Int32) (m_tokenKind : Int32) (m_tokenAt : Int32) (m_tokenEnd : Int32) (m_tokenValue : Int32) (m_fault : Int32) (m_seen : Int32) (m_isKept : Int32) (m_place : Int32) (m_numbers : (Nat → Int32)) (m_boxes : (Nat → Int32)) (m_leases : (Nat → Int32)) : va_W := [(a_mo, .inr (7, [.ref a_mo_numbers, .ref a_mo_boxes, .ref a_mo_words, .ref a_mo_weeks, .ref a_mo_routes, .ref a_mo_turns, .ref a_mo_leave, .ref a_mo_leases, .ref a_mo_uses, .ref a_mo_arcFrom, .ref a_mo_arcTo, .ref a_mo_arcRoom, .ref a_mo_arcCost, .int m_arcs, .ref a_mo_far, .ref a_mo_by, .ref a_mo_best, .ref a_mo_tape, .int m_tapeMany, .int m_tokenKind, .int m_tokenAt, .int m_tokenEnd, .int m_tokenValue, .int m_fault, .int m_seen, .int m_isKept, .ref a_mo_kept, .int m_place])), (a_mo_numbers, .inl (G.2.1, 10, .inl m_numbers)), (a_mo_boxes, .inl (G.2.1, 216, .inl m_boxes)), (a_mo_leases, .inl (G.2.1, 68, .inl m_leases))]
abbrev rmX7_daysCost : Room := { frames := 1, cells := 0, slots := 0, locals := 22 }
theorem iX7_daysCost_X7 : ∀ w ∈ wsX70, w ∈ wsX7_daysCost := by decide +kernel
theorem eX7_daysCost_31 : Fk wsX7_daysCost RX7 31 7 7 := ⟨RX7, TX7, 28, rfl, iX7_daysCost_X7, by decide, by decide +kernel⟩
theorem eX7_daysCost_7 : Fk wsX7_daysCost RX7 7 7 0 := ⟨RX7, TX7, 28, rfl, iX7_daysCost_X7, by decide, by decide +kernel⟩
theorem ckX7_daysCost_X7_get_68 : CkV wsX7_daysCost RX7 68 yX7_get wsX7_get cX7_get 3 (some .int) 2 7 := ⟨RX7, TX7, 28, _, rfl, gX7_daysCost_X7_get, rfl, hdX7_get⟩
variable {p : Program} {l : Launch} {e : Env} {s : State} {m : MethodId} {args : Array Value} {below : List Frame} {meth : Method} {c : Code} {A : Nat → Prop} {G : Gt} {a_mo a_mo_numbers a_mo_boxes a_mo_leases a_mo_words a_mo_weeks a_mo_routes a_mo_turns a_mo_leave a_mo_uses a_mo_arcFrom a_mo_arcTo a_mo_arcRoom a_mo_arcCost a_mo_far a_mo_by a_mo_best a_mo_tape a_mo_kept : Nat} {m_arcs : Int32} {m_tapeMany : Int32} {m_tokenKind : Int32} {m_tokenAt : Int32} {m_tokenEnd : Int32} {m_tokenValue : Int32} {m_fault : Int32} {m_seen : Int32} {m_isKept : Int32} {m_place : Int32} {m_numbers : (Nat → Int32)} {m_boxes : (Nat → Int32)} {m_leases : (Nat → Int32)} {res : Int32}
set_option maxHeartbeats 4000000 in
set_option maxRecDepth 100000 in
theorem k0X7_daysCost {l : Launch} (G : Gt) (a_mo a_mo_numbers a_mo_boxes a_mo_leases a_mo_words a_mo_weeks a_mo_routes a_mo_turns a_mo_leave a_mo_uses a_mo_arcFrom a_mo_arcTo a_mo_arcRoom a_mo_arcCost a_mo_far a_mo_by a_mo_best a_mo_tape a_mo_kept : Nat) (v1 : Int32) (m_arcs : Int32) (m_tapeMany : Int32) (m_tokenKind : Int32) (m_tokenAt : Int32) (m_tokenEnd : Int32) (m_tokenValue : Int32) (m_fault : Int32) (m_seen : Int32) (m_isKept : Int32) (m_place : Int32) (m_numbers : (Nat → Int32)) (m_boxes : (Nat → Int32)) (m_leases : (Nat → Int32)) {res : Int32} (h : fX7_daysCost v1 m_numbers m_boxes m_leases = some res) : CtI G l yX7_daysCost wsX7_daysCost rmX7_daysCost [.ref a_mo, .int v1] (wX7_daysCost G a_mo a_mo_numbers a_mo_boxes a_mo_leases a_mo_words a_mo_weeks a_mo_routes a_mo_turns a_mo_leave a_mo_uses a_mo_arcFrom a_mo_arcTo a_mo_arcRoom a_mo_arcCost a_mo_far a_mo_by a_mo_best a_mo_tape a_mo_kept m_arcs m_tapeMany m_tokenKind m_tokenAt m_tokenEnd m_tokenValue m_fault m_seen m_isKept m_place m_numbers m_boxes m_leases) res (wX7_daysCost G a_mo a_mo_numbers a_mo_boxes a_mo_leases a_mo_words a_mo_weeks a_mo_routes a_mo_turns a_mo_leave a_mo_uses a_mo_arcFrom a_mo_arcTo a_mo_arcRoom a_mo_arcCost a_mo_far a_mo_by a_mo_best a_mo_tape a_mo_kept m_arcs m_tapeMany m_tokenKind m_tokenAt m_tokenEnd m_tokenValue m_fault m_seen m_isKept m_place m_numbers m_boxes m_leases) := by
  refine CtI.mk (cc := cX7_daysCost) (maxL := 4) (ret := (some .int)) (own := RX7) (by decide) rfl rfl (Nat.le_of_ble_eq_true rfl) ?_
  intro p e s m below meth c A X ls hl hW
  obtain ⟨hx, hb, -⟩ := id X.1
  have hl : lv_has ls 4 [(0, .ref a_mo), (1, .int v1)] := hl
  generalize hH : s.heap = H at hW ⊢
  generalize hLo : ([] : List Loc) = locs at hW ⊢
  rw [fX7_daysCost] at h
  refine lv_bipush hx hb dX7_daysCost_0 qB_17 ?_
  refine lv_aload_n hx hb dX7_daysCost_2 rfl (lv_at hl 0 rfl) ?_
  refine lv_iload_n hx hb dX7_daysCost_3 rfl (lv_at hl 1 rfl) ?_
  refine lv_iconst hx hb dX7_daysCost_4 qI_3 ?_
  obtain ⟨r5, hq, h⟩ := bn1_some h
  refine g_cvi X hW (As := [.int v1, .int (3 : Int32)]) (ws' := (wX7_daysCost G a_mo a_mo_numbers a_mo_boxes a_mo_leases a_mo_words a_mo_weeks a_mo_routes a_mo_turns a_mo_leave a_mo_uses a_mo_arcFrom a_mo_arcTo a_mo_arcRoom a_mo_arcCost a_mo_far a_mo_by a_mo_best a_mo_tape a_mo_kept m_arcs m_tapeMany m_tokenKind m_tokenAt m_tokenEnd m_tokenValue m_fault m_seen m_isKept m_place m_numbers m_boxes m_leases)) ckX7_daysCost_X7_get_68 (kcX7_get (l := l) G a_mo a_mo_boxes a_mo_numbers a_mo_words a_mo_weeks a_mo_routes a_mo_turns a_mo_leave a_mo_leases a_mo_uses a_mo_arcFrom a_mo_arcTo a_mo_arcRoom a_mo_arcCost a_mo_far a_mo_by a_mo_best a_mo_tape a_mo_kept v1 (3 : Int32) m_arcs m_tapeMany m_tokenKind m_tokenAt m_tokenEnd m_tokenValue m_fault m_seen m_isKept m_place m_boxes hq) ⟨rfl, rfl, Nat.le_of_ble_eq_true rfl, Nat.le_of_ble_eq_true rfl⟩ [0, 2] rfl rfl rfl rfl rfl rfl rfl hl.1 (Nat.le_of_ble_eq_true rfl) ⟨Nat.zero_le _, Nat.zero_le _⟩ dX7_daysCost_5 (fun H locs hW => ?_)
  refine lv_imul hx hb dX7_daysCost_8 ?_
  refine lv_istore_n (lv' := [(2, .int ((17 : Int32) * r5)), (0, .ref a_mo), (1, .int v1)]) hx hb dX7_daysCost_9 rfl hl (by decide) rfl (fun ls hl => ?_)
  refine lv_aload_n hx hb dX7_daysCost_10 rfl (lv_at hl 1 rfl) ?_
  refine g_get X hW eX7_daysCost_7 0 rfl rfl dX7_daysCost_11 ?_
  refine lv_iconst hx hb dX7_daysCost_14 qI_0 ?_
  obtain ⟨g11, h⟩ := gd_some h
  refine g_ald X hW 1 rfl g11 dX7_daysCost_15 ?_
  refine lv_aload_n hx hb dX7_daysCost_16 rfl (lv_at hl 1 rfl) ?_
  refine lv_iload_n hx hb dX7_daysCost_17 rfl (lv_at hl 2 rfl) ?_
  refine lv_iconst hx hb dX7_daysCost_18 qI_4 ?_
  obtain ⟨r15, hq, h⟩ := bn1_some h
  refine g_cvi X hW (As := [.int v1, .int (4 : Int32)]) (ws' := (wX7_daysCost G a_mo a_mo_numbers a_mo_boxes a_mo_leases a_mo_words a_mo_weeks a_mo_routes a_mo_turns a_mo_leave a_mo_uses a_mo_arcFrom a_mo_arcTo a_mo_arcRoom a_mo_arcCost a_mo_far a_mo_by a_mo_best a_mo_tape a_mo_kept m_arcs m_tapeMany m_tokenKind m_tokenAt m_tokenEnd m_tokenValue m_fault m_seen m_isKept m_place m_numbers m_boxes m_leases)) ckX7_daysCost_X7_get_68 (kcX7_get (l := l) G a_mo a_mo_boxes a_mo_numbers a_mo_words a_mo_weeks a_mo_routes a_mo_turns a_mo_leave a_mo_leases a_mo_uses a_mo_arcFrom a_mo_arcTo a_mo_arcRoom a_mo_arcCost a_mo_far a_mo_by a_mo_best a_mo_tape a_mo_kept v1 (4 : Int32) m_arcs m_tapeMany m_tokenKind m_tokenAt m_tokenEnd m_tokenValue m_fault m_seen m_isKept m_place m_boxes hq) ⟨rfl, rfl, Nat.le_of_ble_eq_true rfl, Nat.le_of_ble_eq_true rfl⟩ [0, 2] rfl rfl rfl rfl rfl rfl rfl hl.1 (Nat.le_of_ble_eq_true rfl) ⟨Nat.zero_le _, Nat.zero_le _⟩ dX7_daysCost_19 (fun H locs hW => ?_)
  refine lv_isub hx hb dX7_daysCost_22 ?_
  refine lv_iconst hx hb dX7_daysCost_23 qI_1 ?_
  refine lv_iadd hx hb dX7_daysCost_24 ?_
  refine lv_aload_n hx hb dX7_daysCost_25 rfl (lv_at hl 1 rfl) ?_
  refine g_get X hW eX7_daysCost_31 0 rfl rfl dX7_daysCost_26 ?_
  refine lv_iload_n hx hb dX7_daysCost_29 rfl (lv_at hl 0 rfl) ?_
  obtain ⟨g22, h⟩ := gd_some h
  refine g_ald X hW 3 rfl g22 dX7_daysCost_30 ?_
  refine lv_isub hx hb dX7_daysCost_31 ?_
  refine lv_istore_n (lv' := [(3, .int ((((m_numbers (0 : Int32).toNatClampNeg) - r15) + (1 : Int32)) - (m_leases ((17 : Int32) * r5).toNatClampNeg))), (2, .int ((17 : Int32) * r5)), (0, .ref a_mo), (1, .int v1)]) hx hb dX7_daysCost_32 rfl hl (by decide) rfl (fun ls hl => ?_)
  refine lv_iload_n hx hb dX7_daysCost_33 rfl (lv_at hl 0 rfl) ?_
  refine lv_if_le (tgt := 50) hx hb dX7_daysCost_34 (by decide) (fun c26 => ?_) (fun c26 => ?_)
  · have h := (if_pos c26).symm.trans h
    refine lv_iconst hx hb dX7_daysCost_50 qI_0 ?_
    obtain rfl := Option.some.inj h
    exact g_iret X hW dX7_daysCost_51
  · have h := (if_neg c26).symm.trans h
    refine lv_iload_n hx hb dX7_daysCost_37 rfl (lv_at hl 0 rfl) ?_
    refine lv_aload_n hx hb dX7_daysCost_38 rfl (lv_at hl 2 rfl) ?_
    refine g_get X hW eX7_daysCost_31 0 rfl rfl dX7_daysCost_39 ?_
    refine lv_iload_n hx hb dX7_daysCost_42 rfl (lv_at hl 1 rfl) ?_
    refine lv_iconst hx hb dX7_daysCost_43 qI_1 ?_
    refine lv_iadd hx hb dX7_daysCost_44 ?_
    obtain ⟨g35, h⟩ := gd_some h
    refine g_ald X hW 3 rfl g35 dX7_daysCost_45 ?_
    refine lv_imul hx hb dX7_daysCost_46 ?_
    refine lv_goto (tgt := 51) hx hb dX7_daysCost_47 (by decide) ?_
    obtain rfl := Option.some.inj h
    exact g_iret X hW dX7_daysCost_51
theorem kcX7_daysCost {l : Launch} (G : Gt) (a_mo a_mo_numbers a_mo_boxes a_mo_leases a_mo_words a_mo_weeks a_mo_routes a_mo_turns a_mo_leave a_mo_uses a_mo_arcFrom a_mo_arcTo a_mo_arcRoom a_mo_arcCost a_mo_far a_mo_by a_mo_best a_mo_tape a_mo_kept : Nat) (v1 : Int32) (m_arcs : Int32) (m_tapeMany : Int32) (m_tokenKind : Int32) (m_tokenAt : Int32) (m_tokenEnd : Int32) (m_tokenValue : Int32) (m_fault : Int32) (m_seen : Int32) (m_isKept : Int32) (m_place : Int32) (m_numbers : (Nat → Int32)) (m_boxes : (Nat → Int32)) (m_leases : (Nat → Int32)) {r : Int32}  (h : fX7_daysCost v1 m_numbers m_boxes m_leases = some r) : CtI G l yX7_daysCost wsX7_daysCost rmX7_daysCost [.ref a_mo, .int v1] (wX7_daysCost G a_mo a_mo_numbers a_mo_boxes a_mo_leases a_mo_words a_mo_weeks a_mo_routes a_mo_turns a_mo_leave a_mo_uses a_mo_arcFrom a_mo_arcTo a_mo_arcRoom a_mo_arcCost a_mo_far a_mo_by a_mo_best a_mo_tape a_mo_kept m_arcs m_tapeMany m_tokenKind m_tokenAt m_tokenEnd m_tokenValue m_fault m_seen m_isKept m_place m_numbers m_boxes m_leases) r (wX7_daysCost G a_mo a_mo_numbers a_mo_boxes a_mo_leases a_mo_words a_mo_weeks a_mo_routes a_mo_turns a_mo_leave a_mo_uses a_mo_arcFrom a_mo_arcTo a_mo_arcRoom a_mo_arcCost a_mo_far a_mo_by a_mo_best a_mo_tape a_mo_kept m_arcs m_tapeMany m_tokenKind m_tokenAt m_tokenEnd m_tokenValue m_fault m_seen m_isKept m_place m_numbers m_boxes m_leases) := k0X7_daysCost G a_mo a_mo_numbers a_mo_boxes a_mo_leases a_mo_words a_mo_weeks a_mo_routes a_mo_turns a_mo_leave a_mo_uses a_mo_arcFrom a_mo_arcTo a_mo_arcRoom a_mo_arcCost a_mo_far a_mo_by a_mo_best a_mo_tape a_mo_kept v1 m_arcs m_tapeMany m_tokenKind m_tokenAt m_tokenEnd m_tokenValue m_fault m_seen m_isKept m_place m_numbers m_boxes m_leases h
end MX7_daysCost
/-! EmptyBoxesModel.ends -/
section MX7_ends
theorem hdX7_ends : yX7_ends.cls = RX7 ∧ yX7_ends.cls ≠ "java/lang/invoke/MethodHandle" ∧ yX7_ends.cls ≠ "java/lang/invoke/VarHandle" ∧ (parseMethodDescriptor yX7_ends.desc).map (fun d => d.parameters.length) = some 3 := by decide +kernel
abbrev wX7_ends (G : Gt) (a_mo a_mo_boxes a_mo_numbers a_mo_words a_mo_weeks a_mo_routes a_mo_turns a_mo_leave a_mo_leases a_mo_uses a_mo_arcFrom a_mo_arcTo a_mo_arcRoom a_mo_arcCost a_mo_far a_mo_by a_mo_best a_mo_tape a_mo_kept : Nat) (m_arcs : Int32) (m_tapeMany : Int32) (m_tokenKind : Int32) (m_tokenAt : Int32) (m_tokenEnd : Int32) (m_tokenValue : Int32) (m_fault : Int32) (m_seen : Int32) (m_isKept : Int32) (m_place : Int32) (m_boxes : (Nat → Int32)) : va_W := [(a_mo, .inr (7, [.ref a_mo_numbers, .ref a_mo_boxes, .ref a_mo_words, .ref a_mo_weeks, .ref a_mo_routes, .ref a_mo_turns, .ref a_mo_leave, .ref a_mo_leases, .ref a_mo_uses, .ref a_mo_arcFrom, .ref a_mo_arcTo, .ref a_mo_arcRoom, .ref a_mo_arcCost, .int m_arcs, .ref a_mo_far, .ref a_mo_by, .ref a_mo_best, .ref a_mo_tape, .int m_tapeMany, .int m_tokenKind, .int m_tokenAt, .int m_tokenEnd, .int m_tokenValue, .int m_fault, .int m_seen, .int m_isKept, .ref a_mo_kept, .int m_place])), (a_mo_boxes, .inl (G.2.1, 216, .inl m_boxes))]
abbrev rmX7_ends : Room := { frames := 0, cells := 0, slots := 0, locals := 0 }
theorem iX7_ends_X7 : ∀ w ∈ wsX70, w ∈ wsX7_ends := by decide +kernel
theorem eX7_ends_13 : Fk wsX7_ends RX7 13 7 1 := ⟨RX7, TX7, 28, rfl, iX7_ends_X7, by decide, by decide +kernel⟩
variable {p : Program} {l : Launch} {e : Env} {s : State} {m : MethodId} {args : Array Value} {below : List Frame} {meth : Method} {c : Code} {A : Nat → Prop} {G : Gt} {a_mo a_mo_boxes a_mo_numbers a_mo_words a_mo_weeks a_mo_routes a_mo_turns a_mo_leave a_mo_leases a_mo_uses a_mo_arcFrom a_mo_arcTo a_mo_arcRoom a_mo_arcCost a_mo_far a_mo_by a_mo_best a_mo_tape a_mo_kept : Nat} {m_arcs : Int32} {m_tapeMany : Int32} {m_tokenKind : Int32} {m_tokenAt : Int32} {m_tokenEnd : Int32} {m_tokenValue : Int32} {m_fault : Int32} {m_seen : Int32} {m_isKept : Int32} {m_place : Int32} {res : Int32 × (Nat → Int32)}
set_option maxHeartbeats 4000000 in
set_option maxRecDepth 100000 in
theorem k0X7_ends {l : Launch} (G : Gt) (a_mo a_mo_boxes a_mo_numbers a_mo_words a_mo_weeks a_mo_routes a_mo_turns a_mo_leave a_mo_leases a_mo_uses a_mo_arcFrom a_mo_arcTo a_mo_arcRoom a_mo_arcCost a_mo_far a_mo_by a_mo_best a_mo_tape a_mo_kept : Nat) (v1 : Int32) (v2 : Int32) (v3 : Int32) (m_arcs : Int32) (m_tapeMany : Int32) (m_tokenKind : Int32) (m_tokenAt : Int32) (m_tokenEnd : Int32) (m_tokenValue : Int32) (m_fault : Int32) (m_seen : Int32) (m_isKept : Int32) (m_place : Int32) (m_boxes : (Nat → Int32)) {res : Int32 × (Nat → Int32)} (h : fX7_ends v1 v2 v3 m_boxes = some res) : CtI G l yX7_ends wsX7_ends rmX7_ends [.ref a_mo, .int v1, .int v2, .int v3] (wX7_ends G a_mo a_mo_boxes a_mo_numbers a_mo_words a_mo_weeks a_mo_routes a_mo_turns a_mo_leave a_mo_leases a_mo_uses a_mo_arcFrom a_mo_arcTo a_mo_arcRoom a_mo_arcCost a_mo_far a_mo_by a_mo_best a_mo_tape a_mo_kept m_arcs m_tapeMany m_tokenKind m_tokenAt m_tokenEnd m_tokenValue m_fault m_seen m_isKept m_place m_boxes) res.1 (wX7_ends G a_mo a_mo_boxes a_mo_numbers a_mo_words a_mo_weeks a_mo_routes a_mo_turns a_mo_leave a_mo_leases a_mo_uses a_mo_arcFrom a_mo_arcTo a_mo_arcRoom a_mo_arcCost a_mo_far a_mo_by a_mo_best a_mo_tape a_mo_kept m_arcs m_tapeMany m_tokenKind m_tokenAt m_tokenEnd m_tokenValue m_fault m_seen m_isKept m_place res.2) := by
  refine CtI.mk (cc := cX7_ends) (maxL := 4) (ret := (some .int)) (own := RX7) (by decide) rfl rfl (Nat.le_of_ble_eq_true rfl) ?_
  intro p e s m below meth c A X ls hl hW
  obtain ⟨hx, hb, -⟩ := id X.1
  have hl : lv_has ls 4 [(0, .ref a_mo), (1, .int v1), (2, .int v2), (3, .int v3)] := hl
  generalize hH : s.heap = H at hW ⊢
  generalize hLo : ([] : List Loc) = locs at hW ⊢
  rw [fX7_ends] at h
  refine lv_aload_n hx hb dX7_ends_0 rfl (lv_at hl 0 rfl) ?_
  refine g_get X hW eX7_ends_13 0 rfl rfl dX7_ends_1 ?_
  refine lv_bipush hx hb dX7_ends_4 qB_9 ?_
  refine lv_iload_n hx hb dX7_ends_6 rfl (lv_at hl 1 rfl) ?_
  refine lv_imul hx hb dX7_ends_7 ?_
  refine lv_iconst hx hb dX7_ends_8 qI_5 ?_
  refine lv_iadd hx hb dX7_ends_9 ?_
  refine lv_iload_n hx hb dX7_ends_10 rfl (lv_at hl 2 rfl) ?_
  obtain ⟨g9, h⟩ := gd_some h
  refine g_ast X hW (ws' := (wX7_ends G a_mo a_mo_boxes a_mo_numbers a_mo_words a_mo_weeks a_mo_routes a_mo_turns a_mo_leave a_mo_leases a_mo_uses a_mo_arcFrom a_mo_arcTo a_mo_arcRoom a_mo_arcCost a_mo_far a_mo_by a_mo_best a_mo_tape a_mo_kept m_arcs m_tapeMany m_tokenKind m_tokenAt m_tokenEnd m_tokenValue m_fault m_seen m_isKept m_place (upd m_boxes (((9 : Int32) * v1) + (5 : Int32)).toNatClampNeg v2))) 1 rfl g9 rfl dX7_ends_11 (fun H locs hW => ?_)
  refine lv_aload_n hx hb dX7_ends_12 rfl (lv_at hl 0 rfl) ?_
  refine g_get X hW eX7_ends_13 0 rfl rfl dX7_ends_13 ?_
  refine lv_bipush hx hb dX7_ends_16 qB_9 ?_
  refine lv_iload_n hx hb dX7_ends_18 rfl (lv_at hl 1 rfl) ?_
  refine lv_imul hx hb dX7_ends_19 ?_
  refine lv_bipush hx hb dX7_ends_20 qB_6 ?_
  refine lv_iadd hx hb dX7_ends_22 ?_
  refine lv_iload_n hx hb dX7_ends_23 rfl (lv_at hl 3 rfl) ?_
  obtain ⟨g18, h⟩ := gd_some h
  refine g_ast X hW (ws' := (wX7_ends G a_mo a_mo_boxes a_mo_numbers a_mo_words a_mo_weeks a_mo_routes a_mo_turns a_mo_leave a_mo_leases a_mo_uses a_mo_arcFrom a_mo_arcTo a_mo_arcRoom a_mo_arcCost a_mo_far a_mo_by a_mo_best a_mo_tape a_mo_kept m_arcs m_tapeMany m_tokenKind m_tokenAt m_tokenEnd m_tokenValue m_fault m_seen m_isKept m_place (upd (upd m_boxes (((9 : Int32) * v1) + (5 : Int32)).toNatClampNeg v2) (((9 : Int32) * v1) + (6 : Int32)).toNatClampNeg v3))) 1 rfl g18 rfl dX7_ends_24 (fun H locs hW => ?_)
  refine lv_iload_n hx hb dX7_ends_25 rfl (lv_at hl 3 rfl) ?_
  obtain rfl := Option.some.inj h
  exact g_iret X hW dX7_ends_26
theorem kcX7_ends {l : Launch} (G : Gt) (a_mo a_mo_boxes a_mo_numbers a_mo_words a_mo_weeks a_mo_routes a_mo_turns a_mo_leave a_mo_leases a_mo_uses a_mo_arcFrom a_mo_arcTo a_mo_arcRoom a_mo_arcCost a_mo_far a_mo_by a_mo_best a_mo_tape a_mo_kept : Nat) (v1 : Int32) (v2 : Int32) (v3 : Int32) (m_arcs : Int32) (m_tapeMany : Int32) (m_tokenKind : Int32) (m_tokenAt : Int32) (m_tokenEnd : Int32) (m_tokenValue : Int32) (m_fault : Int32) (m_seen : Int32) (m_isKept : Int32) (m_place : Int32) (m_boxes : (Nat → Int32)) {r : Int32} {z_m_boxes : (Nat → Int32)} (h : fX7_ends v1 v2 v3 m_boxes = some (r, z_m_boxes)) : CtI G l yX7_ends wsX7_ends rmX7_ends [.ref a_mo, .int v1, .int v2, .int v3] (wX7_ends G a_mo a_mo_boxes a_mo_numbers a_mo_words a_mo_weeks a_mo_routes a_mo_turns a_mo_leave a_mo_leases a_mo_uses a_mo_arcFrom a_mo_arcTo a_mo_arcRoom a_mo_arcCost a_mo_far a_mo_by a_mo_best a_mo_tape a_mo_kept m_arcs m_tapeMany m_tokenKind m_tokenAt m_tokenEnd m_tokenValue m_fault m_seen m_isKept m_place m_boxes) r (wX7_ends G a_mo a_mo_boxes a_mo_numbers a_mo_words a_mo_weeks a_mo_routes a_mo_turns a_mo_leave a_mo_leases a_mo_uses a_mo_arcFrom a_mo_arcTo a_mo_arcRoom a_mo_arcCost a_mo_far a_mo_by a_mo_best a_mo_tape a_mo_kept m_arcs m_tapeMany m_tokenKind m_tokenAt m_tokenEnd m_tokenValue m_fault m_seen m_isKept m_place z_m_boxes) := k0X7_ends G a_mo a_mo_boxes a_mo_numbers a_mo_words a_mo_weeks a_mo_routes a_mo_turns a_mo_leave a_mo_leases a_mo_uses a_mo_arcFrom a_mo_arcTo a_mo_arcRoom a_mo_arcCost a_mo_far a_mo_by a_mo_best a_mo_tape a_mo_kept v1 v2 v3 m_arcs m_tapeMany m_tokenKind m_tokenAt m_tokenEnd m_tokenValue m_fault m_seen m_isKept m_place m_boxes h
end MX7_ends
/-! EmptyBoxesModel.giveBack -/
section MX7_giveBack
theorem hdX7_giveBack : yX7_giveBack.cls = RX7 ∧ yX7_giveBack.cls ≠ "java/lang/invoke/MethodHandle" ∧ yX7_giveBack.cls ≠ "java/lang/invoke/VarHandle" ∧ (parseMethodDescriptor yX7_giveBack.desc).map (fun d => d.parameters.length) = some 2 := by decide +kernel
abbrev wX7_giveBack (G : Gt) (a_mo a_mo_numbers a_mo_boxes a_mo_words a_mo_leases a_mo_weeks a_mo_routes a_mo_turns a_mo_leave a_mo_uses a_mo_arcFrom a_mo_arcTo a_mo_arcRoom a_mo_arcCost a_mo_far a_mo_by a_mo_best a_mo_tape a_mo_kept : Nat) (m_arcs : Int32) (m_tapeMany : Int32) (m_tokenKind : Int32) (m_tokenAt : Int32) (m_tokenEnd : Int32) (m_tokenValue : Int32) (m_fault : Int32) (m_seen : Int32) (m_isKept : Int32) (m_place : Int32) (m_numbers : (Nat → Int32)) (m_boxes : (Nat → Int32)) (m_words : (Nat → Int32)) (m_leases : (Nat → Int32)) : va_W := [(a_mo, .inr (7, [.ref a_mo_numbers, .ref a_mo_boxes, .ref a_mo_words, .ref a_mo_weeks, .ref a_mo_routes, .ref a_mo_turns, .ref a_mo_leave, .ref a_mo_leases, .ref a_mo_uses, .ref a_mo_arcFrom, .ref a_mo_arcTo, .ref a_mo_arcRoom, .ref a_mo_arcCost, .int m_arcs, .ref a_mo_far, .ref a_mo_by, .ref a_mo_best, .ref a_mo_tape, .int m_tapeMany, .int m_tokenKind, .int m_tokenAt, .int m_tokenEnd, .int m_tokenValue, .int m_fault, .int m_seen, .int m_isKept, .ref a_mo_kept, .int m_place])), (a_mo_numbers, .inl (G.2.1, 10, .inl m_numbers)), (a_mo_boxes, .inl (G.2.1, 216, .inl m_boxes)), (a_mo_words, .inl (G.2.1, 300, .inl m_words)), (a_mo_leases, .inl (G.2.1, 68, .inl m_leases))]
abbrev rmX7_giveBack : Room := { frames := 2, cells := 0, slots := 0, locals := 49 }
theorem iX7_giveBack_X7 : ∀ w ∈ wsX70, w ∈ wsX7_giveBack := by decide +kernel
theorem eX7_giveBack_13 : Fk wsX7_giveBack RX7 13 7 1 := ⟨RX7, TX7, 28, rfl, iX7_giveBack_X7, by decide, by decide +kernel⟩
theorem eX7_giveBack_31 : Fk wsX7_giveBack RX7 31 7 7 := ⟨RX7, TX7, 28, rfl, iX7_giveBack_X7, by decide, by decide +kernel⟩
theorem eX7_giveBack_7 : Fk wsX7_giveBack RX7 7 7 0 := ⟨RX7, TX7, 28, rfl, iX7_giveBack_X7, by decide, by decide +kernel⟩
theorem ckX7_giveBack_X7_daysCost_193 : CkV wsX7_giveBack RX7 193 yX7_daysCost wsX7_daysCost cX7_daysCost 4 (some .int) 1 7 := ⟨RX7, TX7, 28, _, rfl, gX7_giveBack_X7_daysCost, rfl, hdX7_daysCost⟩
theorem ckX7_giveBack_X7_ends_196 : CkV wsX7_giveBack RX7 196 yX7_ends wsX7_ends cX7_ends 4 (some .int) 3 7 := ⟨RX7, TX7, 28, _, rfl, gX7_giveBack_X7_ends, rfl, hdX7_ends⟩
theorem ckX7_giveBack_X7_get_68 : CkV wsX7_giveBack RX7 68 yX7_get wsX7_get cX7_get 3 (some .int) 2 7 := ⟨RX7, TX7, 28, _, rfl, gX7_giveBack_X7_get, rfl, hdX7_get⟩
theorem ckX7_giveBack_X7_in_64 : CkS wsX7_giveBack RX7 64 yX7_in wsX7_in cX7_in 3 (some .boolean) 3 := ⟨_, gX7_giveBack_X7_in, rfl, hdX7_in.2⟩
theorem ckX7_giveBack_X7_isBox_84 : CkV wsX7_giveBack RX7 84 yX7_isBox wsX7_isBox cX7_isBox 2 (some .boolean) 1 7 := ⟨RX7, TX7, 28, _, rfl, gX7_giveBack_X7_isBox, rfl, hdX7_isBox⟩
theorem ckX7_giveBack_X7_isPlace_90 : CkS wsX7_giveBack RX7 90 yX7_isPlace wsX7_isPlace cX7_isPlace 1 (some .boolean) 1 := ⟨_, gX7_giveBack_X7_isPlace, rfl, hdX7_isPlace.2⟩
theorem ckX7_giveBack_X7_whereIs_100 : CkV wsX7_giveBack RX7 100 yX7_whereIs wsX7_whereIs cX7_whereIs 5 (some .int) 3 7 := ⟨RX7, TX7, 28, _, rfl, gX7_giveBack_X7_whereIs, rfl, hdX7_whereIs⟩
variable {p : Program} {l : Launch} {e : Env} {s : State} {m : MethodId} {args : Array Value} {below : List Frame} {meth : Method} {c : Code} {A : Nat → Prop} {G : Gt} {a_mo a_mo_numbers a_mo_boxes a_mo_words a_mo_leases a_mo_weeks a_mo_routes a_mo_turns a_mo_leave a_mo_uses a_mo_arcFrom a_mo_arcTo a_mo_arcRoom a_mo_arcCost a_mo_far a_mo_by a_mo_best a_mo_tape a_mo_kept : Nat} {m_arcs : Int32} {m_tapeMany : Int32} {m_tokenKind : Int32} {m_tokenAt : Int32} {m_tokenEnd : Int32} {m_tokenValue : Int32} {m_fault : Int32} {m_seen : Int32} {m_isKept : Int32} {m_place : Int32} {m_numbers : (Nat → Int32)} {m_words : (Nat → Int32)} {m_leases : (Nat → Int32)} {res : Int32 × (Nat → Int32)}
set_option maxHeartbeats 4000000 in
set_option maxRecDepth 100000 in
theorem tX7_giveBack_168 (X : Bx p s m args meth c cX7_giveBack 9 wsX7_giveBack RX7 (some .int)) (v1 : Int32) (v2 : Int32) (v3 : Int32) (v4 : Int32) (v5 : Int32) (v6 : Int32) (m_boxes : (Nat → Int32))   (h : fX7_giveBack_168 v1 v2 v3 v4 v5 v6 m_numbers m_boxes m_leases = some res) : ∀ (H : Heap) (locs : List Loc), Wo G A s (wX7_giveBack G a_mo a_mo_numbers a_mo_boxes a_mo_words a_mo_leases a_mo_weeks a_mo_routes a_mo_turns a_mo_leave a_mo_uses a_mo_arcFrom a_mo_arcTo a_mo_arcRoom a_mo_arcCost a_mo_far a_mo_by a_mo_best a_mo_tape a_mo_kept m_arcs m_tapeMany m_tokenKind m_tokenAt m_tokenEnd m_tokenValue m_fault m_seen m_isKept m_place m_numbers m_boxes m_words m_leases) H locs → ∀ ls : Array Slot, lv_has ls 9 [(0, .ref a_mo), (1, .int v1), (2, .int v2), (3, .int v3), (4, .int v4), (5, .int v5), (6, .int v6)] → W p l e rmX7_giveBack s m args below meth c H locs 0 0 (QI G A below args s res.1 (wX7_giveBack G a_mo a_mo_numbers a_mo_boxes a_mo_words a_mo_leases a_mo_weeks a_mo_routes a_mo_turns a_mo_leave a_mo_uses a_mo_arcFrom a_mo_arcTo a_mo_arcRoom a_mo_arcCost a_mo_far a_mo_by a_mo_best a_mo_tape a_mo_kept m_arcs m_tapeMany m_tokenKind m_tokenAt m_tokenEnd m_tokenValue m_fault m_seen m_isKept m_place m_numbers res.2 m_words m_leases)) (F0 m 168 ls []) := by
  obtain ⟨hx, hb, -⟩ := id X.1
  intro H locs hW ls hl
  rw [fX7_giveBack_168] at h
  refine lv_bipush hx hb dX7_giveBack_168 qB_17 ?_
  refine lv_iload hx hb dX7_giveBack_170 (lv_at hl 5 rfl) ?_
  refine lv_imul hx hb dX7_giveBack_172 ?_
  refine lv_istore (lv' := [(7, .int ((17 : Int32) * v5)), (0, .ref a_mo), (1, .int v1), (2, .int v2), (3, .int v3), (4, .int v4), (5, .int v5), (6, .int v6)]) hx hb dX7_giveBack_173 hl (by decide) rfl (fun ls hl => ?_)
  refine lv_iload hx hb dX7_giveBack_175 (lv_at hl 7 rfl) ?_
  refine lv_aload_n hx hb dX7_giveBack_177 rfl (lv_at hl 1 rfl) ?_
  refine g_get X hW eX7_giveBack_31 0 rfl rfl dX7_giveBack_178 ?_
  refine lv_iload hx hb dX7_giveBack_181 (lv_at hl 0 rfl) ?_
  refine lv_bipush hx hb dX7_giveBack_183 qB_10 ?_
  refine lv_iadd hx hb dX7_giveBack_185 ?_
  refine lv_iload hx hb dX7_giveBack_186 (lv_at hl 5 rfl) ?_
  refine lv_iadd hx hb dX7_giveBack_188 ?_
  obtain ⟨g13, h⟩ := gd_some h
  refine g_ald X hW 4 rfl g13 dX7_giveBack_189 ?_
  refine lv_icmp_lt (tgt := 196) hx hb dX7_giveBack_190 (by decide) (fun c14 => ?_) (fun c14 => ?_)
  · have h := (if_pos c14).symm.trans h
    refine lv_aload_n hx hb dX7_giveBack_196 rfl (lv_at hl 1 rfl) ?_
    refine g_get X hW eX7_giveBack_13 0 rfl rfl dX7_giveBack_197 ?_
    refine lv_bipush hx hb dX7_giveBack_200 qB_9 ?_
    refine lv_iload_n hx hb dX7_giveBack_202 rfl (lv_at hl 2 rfl) ?_
    refine lv_imul hx hb dX7_giveBack_203 ?_
    refine lv_bipush hx hb dX7_giveBack_204 qB_7 ?_
    refine lv_iadd hx hb dX7_giveBack_206 ?_
    refine lv_iload_n hx hb dX7_giveBack_207 rfl (lv_at hl 4 rfl) ?_
    obtain ⟨g23, h⟩ := gd_some h
    refine g_ast X hW (ws' := (wX7_giveBack G a_mo a_mo_numbers a_mo_boxes a_mo_words a_mo_leases a_mo_weeks a_mo_routes a_mo_turns a_mo_leave a_mo_uses a_mo_arcFrom a_mo_arcTo a_mo_arcRoom a_mo_arcCost a_mo_far a_mo_by a_mo_best a_mo_tape a_mo_kept m_arcs m_tapeMany m_tokenKind m_tokenAt m_tokenEnd m_tokenValue m_fault m_seen m_isKept m_place m_numbers (upd m_boxes (((9 : Int32) * v1) + (7 : Int32)).toNatClampNeg v3) m_words m_leases)) 2 rfl g23 rfl dX7_giveBack_208 (fun H locs hW => ?_)
    refine lv_aload_n hx hb dX7_giveBack_209 rfl (lv_at hl 1 rfl) ?_
    refine g_get X hW eX7_giveBack_13 0 rfl rfl dX7_giveBack_210 ?_
    refine lv_bipush hx hb dX7_giveBack_213 qB_9 ?_
    refine lv_iload_n hx hb dX7_giveBack_215 rfl (lv_at hl 2 rfl) ?_
    refine lv_imul hx hb dX7_giveBack_216 ?_
    refine lv_bipush hx hb dX7_giveBack_217 qB_8 ?_
    refine lv_iadd hx hb dX7_giveBack_219 ?_
    refine lv_iload hx hb dX7_giveBack_220 (lv_at hl 5 rfl) ?_
    obtain ⟨g32, h⟩ := gd_some h
    refine g_ast X hW (ws' := (wX7_giveBack G a_mo a_mo_numbers a_mo_boxes a_mo_words a_mo_leases a_mo_weeks a_mo_routes a_mo_turns a_mo_leave a_mo_uses a_mo_arcFrom a_mo_arcTo a_mo_arcRoom a_mo_arcCost a_mo_far a_mo_by a_mo_best a_mo_tape a_mo_kept m_arcs m_tapeMany m_tokenKind m_tokenAt m_tokenEnd m_tokenValue m_fault m_seen m_isKept m_place m_numbers (upd (upd m_boxes (((9 : Int32) * v1) + (7 : Int32)).toNatClampNeg v3) (((9 : Int32) * v1) + (8 : Int32)).toNatClampNeg v4) m_words m_leases)) 2 rfl g32 rfl dX7_giveBack_222 (fun H locs hW => ?_)
    refine lv_aload_n hx hb dX7_giveBack_223 rfl (lv_at hl 1 rfl) ?_
    refine lv_iload_n hx hb dX7_giveBack_224 rfl (lv_at hl 2 rfl) ?_
    refine lv_iconst hx hb dX7_giveBack_225 qI_1 ?_
    refine lv_aload_n hx hb dX7_giveBack_226 rfl (lv_at hl 1 rfl) ?_
    refine lv_iload_n hx hb dX7_giveBack_227 rfl (lv_at hl 2 rfl) ?_
    obtain ⟨r38, hq, h⟩ := bn1_some h
    refine g_cvi X hW (As := [.int v1]) (ws' := (wX7_giveBack G a_mo a_mo_numbers a_mo_boxes a_mo_words a_mo_leases a_mo_weeks a_mo_routes a_mo_turns a_mo_leave a_mo_uses a_mo_arcFrom a_mo_arcTo a_mo_arcRoom a_mo_arcCost a_mo_far a_mo_by a_mo_best a_mo_tape a_mo_kept m_arcs m_tapeMany m_tokenKind m_tokenAt m_tokenEnd m_tokenValue m_fault m_seen m_isKept m_place m_numbers (upd (upd m_boxes (((9 : Int32) * v1) + (7 : Int32)).toNatClampNeg v3) (((9 : Int32) * v1) + (8 : Int32)).toNatClampNeg v4) m_words m_leases)) ckX7_giveBack_X7_daysCost_193 (kcX7_daysCost (l := l) G a_mo a_mo_numbers a_mo_boxes a_mo_leases a_mo_words a_mo_weeks a_mo_routes a_mo_turns a_mo_leave a_mo_uses a_mo_arcFrom a_mo_arcTo a_mo_arcRoom a_mo_arcCost a_mo_far a_mo_by a_mo_best a_mo_tape a_mo_kept v1 m_arcs m_tapeMany m_tokenKind m_tokenAt m_tokenEnd m_tokenValue m_fault m_seen m_isKept m_place m_numbers (upd (upd m_boxes (((9 : Int32) * v1) + (7 : Int32)).toNatClampNeg v3) (((9 : Int32) * v1) + (8 : Int32)).toNatClampNeg v4) m_leases hq) ⟨rfl, rfl, Nat.le_of_ble_eq_true rfl, Nat.le_of_ble_eq_true rfl⟩ [0, 1, 2, 4] rfl rfl rfl rfl rfl rfl rfl hl.1 (Nat.le_of_ble_eq_true rfl) ⟨Nat.zero_le _, Nat.zero_le _⟩ dX7_giveBack_228 (fun H locs hW => ?_)
    refine lv_aload_n hx hb dX7_giveBack_231 rfl (lv_at hl 1 rfl) ?_
    refine g_get X hW eX7_giveBack_31 0 rfl rfl dX7_giveBack_232 ?_
    refine lv_iload hx hb dX7_giveBack_235 (lv_at hl 0 rfl) ?_
    refine lv_iconst hx hb dX7_giveBack_237 qI_4 ?_
    refine lv_iadd hx hb dX7_giveBack_238 ?_
    refine lv_iload hx hb dX7_giveBack_239 (lv_at hl 5 rfl) ?_
    refine lv_iadd hx hb dX7_giveBack_241 ?_
    obtain ⟨g46, h⟩ := gd_some h
    refine g_ald X hW 4 rfl g46 dX7_giveBack_242 ?_
    refine lv_iadd hx hb dX7_giveBack_243 ?_
    refine lv_aload_n hx hb dX7_giveBack_244 rfl (lv_at hl 1 rfl) ?_
    refine g_get X hW eX7_giveBack_31 0 rfl rfl dX7_giveBack_245 ?_
    refine lv_iload hx hb dX7_giveBack_248 (lv_at hl 0 rfl) ?_
    refine lv_iconst hx hb dX7_giveBack_250 qI_2 ?_
    refine lv_iadd hx hb dX7_giveBack_251 ?_
    obtain ⟨g53, h⟩ := gd_some h
    refine g_ald X hW 4 rfl g53 dX7_giveBack_252 ?_
    refine lv_iload_n hx hb dX7_giveBack_253 rfl (lv_at hl 3 rfl) ?_
    refine lv_imul hx hb dX7_giveBack_254 ?_
    refine lv_iadd hx hb dX7_giveBack_255 ?_
    obtain ⟨r57, o57_m_boxes, hq, h⟩ := bn2_some h
    refine g_cvi X hW (As := [.int v1, .int (1 : Int32), .int ((r38 + (m_leases ((((17 : Int32) * v5) + (4 : Int32)) + v4).toNatClampNeg)) + ((m_leases (((17 : Int32) * v5) + (2 : Int32)).toNatClampNeg) * v2))]) (ws' := (wX7_giveBack G a_mo a_mo_numbers a_mo_boxes a_mo_words a_mo_leases a_mo_weeks a_mo_routes a_mo_turns a_mo_leave a_mo_uses a_mo_arcFrom a_mo_arcTo a_mo_arcRoom a_mo_arcCost a_mo_far a_mo_by a_mo_best a_mo_tape a_mo_kept m_arcs m_tapeMany m_tokenKind m_tokenAt m_tokenEnd m_tokenValue m_fault m_seen m_isKept m_place m_numbers o57_m_boxes m_words m_leases)) ckX7_giveBack_X7_ends_196 (kcX7_ends (l := l) G a_mo a_mo_boxes a_mo_numbers a_mo_words a_mo_weeks a_mo_routes a_mo_turns a_mo_leave a_mo_leases a_mo_uses a_mo_arcFrom a_mo_arcTo a_mo_arcRoom a_mo_arcCost a_mo_far a_mo_by a_mo_best a_mo_tape a_mo_kept v1 (1 : Int32) ((r38 + (m_leases ((((17 : Int32) * v5) + (4 : Int32)) + v4).toNatClampNeg)) + ((m_leases (((17 : Int32) * v5) + (2 : Int32)).toNatClampNeg) * v2)) m_arcs m_tapeMany m_tokenKind m_tokenAt m_tokenEnd m_tokenValue m_fault m_seen m_isKept m_place (upd (upd m_boxes (((9 : Int32) * v1) + (7 : Int32)).toNatClampNeg v3) (((9 : Int32) * v1) + (8 : Int32)).toNatClampNeg v4) hq) ⟨rfl, rfl, Nat.le_of_ble_eq_true rfl, Nat.le_of_ble_eq_true rfl⟩ [0, 2] rfl rfl rfl rfl rfl rfl rfl hl.1 (Nat.le_of_ble_eq_true rfl) ⟨Nat.zero_le _, Nat.zero_le _⟩ dX7_giveBack_256 (fun H locs hW => ?_)
    obtain rfl := Option.some.inj h
    exact g_iret X hW dX7_giveBack_259
  · have h := (if_neg c14).symm.trans h
    refine lv_bipush hx hb dX7_giveBack_193 qB_m2 ?_
    obtain rfl := Option.some.inj h
    exact g_iret X hW dX7_giveBack_195
set_option maxHeartbeats 4000000 in
set_option maxRecDepth 100000 in
theorem tX7_giveBack_159 (X : Bx p s m args meth c cX7_giveBack 9 wsX7_giveBack RX7 (some .int)) (v1 : Int32) (v2 : Int32) (v3 : Int32) (v4 : Int32) (v5 : Int32) (v7 : Int32) (t0 : Int32) (t1 : Int32) (m_boxes : (Nat → Int32)) (k_75 : Int32 → Int32 → Option (Int32 × (Nat → Int32))) (Hk_75 : ∀ (v6 : Int32) (v7 : Int32), k_75 v6 v7 = some res → ∀ (H : Heap) (locs : List Loc), Wo G A s (wX7_giveBack G a_mo a_mo_numbers a_mo_boxes a_mo_words a_mo_leases a_mo_weeks a_mo_routes a_mo_turns a_mo_leave a_mo_uses a_mo_arcFrom a_mo_arcTo a_mo_arcRoom a_mo_arcCost a_mo_far a_mo_by a_mo_best a_mo_tape a_mo_kept m_arcs m_tapeMany m_tokenKind m_tokenAt m_tokenEnd m_tokenValue m_fault m_seen m_isKept m_place m_numbers m_boxes m_words m_leases) H locs → ∀ ls : Array Slot, lv_has ls 9 [(0, .ref a_mo), (1, .int v1), (2, .int v2), (3, .int v3), (4, .int v4), (5, .int v5), (6, .int v6), (7, .int v7)] → W p l e rmX7_giveBack s m args below meth c H locs 0 0 (QI G A below args s res.1 (wX7_giveBack G a_mo a_mo_numbers a_mo_boxes a_mo_words a_mo_leases a_mo_weeks a_mo_routes a_mo_turns a_mo_leave a_mo_uses a_mo_arcFrom a_mo_arcTo a_mo_arcRoom a_mo_arcCost a_mo_far a_mo_by a_mo_best a_mo_tape a_mo_kept m_arcs m_tapeMany m_tokenKind m_tokenAt m_tokenEnd m_tokenValue m_fault m_seen m_isKept m_place m_numbers res.2 m_words m_leases)) (F0 m 75 ls [])) (h : fX7_giveBack_159 k_75 v7 t0 t1 = some res) : ∀ (H : Heap) (locs : List Loc), Wo G A s (wX7_giveBack G a_mo a_mo_numbers a_mo_boxes a_mo_words a_mo_leases a_mo_weeks a_mo_routes a_mo_turns a_mo_leave a_mo_uses a_mo_arcFrom a_mo_arcTo a_mo_arcRoom a_mo_arcCost a_mo_far a_mo_by a_mo_best a_mo_tape a_mo_kept m_arcs m_tapeMany m_tokenKind m_tokenAt m_tokenEnd m_tokenValue m_fault m_seen m_isKept m_place m_numbers m_boxes m_words m_leases) H locs → ∀ ls : Array Slot, lv_has ls 9 [(0, .ref a_mo), (1, .int v1), (2, .int v2), (3, .int v3), (4, .int v4), (5, .int v5), (7, .int v7)] → W p l e rmX7_giveBack s m args below meth c H locs 0 0 (QI G A below args s res.1 (wX7_giveBack G a_mo a_mo_numbers a_mo_boxes a_mo_words a_mo_leases a_mo_weeks a_mo_routes a_mo_turns a_mo_leave a_mo_uses a_mo_arcFrom a_mo_arcTo a_mo_arcRoom a_mo_arcCost a_mo_far a_mo_by a_mo_best a_mo_tape a_mo_kept m_arcs m_tapeMany m_tokenKind m_tokenAt m_tokenEnd m_tokenValue m_fault m_seen m_isKept m_place m_numbers res.2 m_words m_leases)) (F0 m 159 ls [.int t1, .int t0]) := by
  obtain ⟨hx, hb, -⟩ := id X.1
  intro H locs hW ls hl
  rw [fX7_giveBack_159] at h
  refine lv_iadd hx hb dX7_giveBack_159 ?_
  refine lv_istore (lv' := [(6, .int (t0 + t1)), (0, .ref a_mo), (1, .int v1), (2, .int v2), (3, .int v3), (4, .int v4), (5, .int v5), (7, .int v7)]) hx hb dX7_giveBack_160 hl (by decide) rfl (fun ls hl => ?_)
  refine lv_iinc (v := (v7 + (1 : Int32))) (lv' := [(7, .int (v7 + (1 : Int32))), (6, .int (t0 + t1)), (0, .ref a_mo), (1, .int v1), (2, .int v2), (3, .int v3), (4, .int v4), (5, .int v5)]) hx hb dX7_giveBack_162 hl (k := 7) rfl (congrArg (fun z => v7 + z) qI_1) (by decide) rfl (fun ls hl => ?_)
  refine lv_goto (tgt := 75) hx hb dX7_giveBack_165 (by decide) ?_
  exact Hk_75 (t0 + t1) (v7 + (1 : Int32)) h H locs hW ls (lv_sub hl [2, 3, 4, 5, 6, 7, 1, 0] rfl)
set_option maxHeartbeats 4000000 in
set_option maxRecDepth 100000 in
theorem tX7_giveBack_145 (X : Bx p s m args meth c cX7_giveBack 9 wsX7_giveBack RX7 (some .int)) (v1 : Int32) (v2 : Int32) (v3 : Int32) (v4 : Int32) (v5 : Int32) (v6 : Int32) (v7 : Int32) (t0 : Int32) (m_boxes : (Nat → Int32)) (k_75 : Int32 → Int32 → Option (Int32 × (Nat → Int32))) (Hk_75 : ∀ (v6 : Int32) (v7 : Int32), k_75 v6 v7 = some res → ∀ (H : Heap) (locs : List Loc), Wo G A s (wX7_giveBack G a_mo a_mo_numbers a_mo_boxes a_mo_words a_mo_leases a_mo_weeks a_mo_routes a_mo_turns a_mo_leave a_mo_uses a_mo_arcFrom a_mo_arcTo a_mo_arcRoom a_mo_arcCost a_mo_far a_mo_by a_mo_best a_mo_tape a_mo_kept m_arcs m_tapeMany m_tokenKind m_tokenAt m_tokenEnd m_tokenValue m_fault m_seen m_isKept m_place m_numbers m_boxes m_words m_leases) H locs → ∀ ls : Array Slot, lv_has ls 9 [(0, .ref a_mo), (1, .int v1), (2, .int v2), (3, .int v3), (4, .int v4), (5, .int v5), (6, .int v6), (7, .int v7)] → W p l e rmX7_giveBack s m args below meth c H locs 0 0 (QI G A below args s res.1 (wX7_giveBack G a_mo a_mo_numbers a_mo_boxes a_mo_words a_mo_leases a_mo_weeks a_mo_routes a_mo_turns a_mo_leave a_mo_uses a_mo_arcFrom a_mo_arcTo a_mo_arcRoom a_mo_arcCost a_mo_far a_mo_by a_mo_best a_mo_tape a_mo_kept m_arcs m_tapeMany m_tokenKind m_tokenAt m_tokenEnd m_tokenValue m_fault m_seen m_isKept m_place m_numbers res.2 m_words m_leases)) (F0 m 75 ls [])) (h : fX7_giveBack_145 k_75 v6 v7 t0 = some res) : ∀ (H : Heap) (locs : List Loc), Wo G A s (wX7_giveBack G a_mo a_mo_numbers a_mo_boxes a_mo_words a_mo_leases a_mo_weeks a_mo_routes a_mo_turns a_mo_leave a_mo_uses a_mo_arcFrom a_mo_arcTo a_mo_arcRoom a_mo_arcCost a_mo_far a_mo_by a_mo_best a_mo_tape a_mo_kept m_arcs m_tapeMany m_tokenKind m_tokenAt m_tokenEnd m_tokenValue m_fault m_seen m_isKept m_place m_numbers m_boxes m_words m_leases) H locs → ∀ ls : Array Slot, lv_has ls 9 [(0, .ref a_mo), (1, .int v1), (2, .int v2), (3, .int v3), (4, .int v4), (5, .int v5), (6, .int v6), (7, .int v7)] → W p l e rmX7_giveBack s m args below meth c H locs 0 0 (QI G A below args s res.1 (wX7_giveBack G a_mo a_mo_numbers a_mo_boxes a_mo_words a_mo_leases a_mo_weeks a_mo_routes a_mo_turns a_mo_leave a_mo_uses a_mo_arcFrom a_mo_arcTo a_mo_arcRoom a_mo_arcCost a_mo_far a_mo_by a_mo_best a_mo_tape a_mo_kept m_arcs m_tapeMany m_tokenKind m_tokenAt m_tokenEnd m_tokenValue m_fault m_seen m_isKept m_place m_numbers res.2 m_words m_leases)) (F0 m 145 ls [.int t0]) := by
  obtain ⟨hx, hb, -⟩ := id X.1
  intro H locs hW ls hl
  rw [fX7_giveBack_145] at h
  refine lv_istore (lv' := [(8, .int t0), (0, .ref a_mo), (1, .int v1), (2, .int v2), (3, .int v3), (4, .int v4), (5, .int v5), (6, .int v6), (7, .int v7)]) hx hb dX7_giveBack_145 hl (by decide) rfl (fun ls hl => ?_)
  refine lv_iload hx hb dX7_giveBack_147 (lv_at hl 7 rfl) ?_
  refine lv_iload hx hb dX7_giveBack_149 (lv_at hl 0 rfl) ?_
  refine lv_if_eq (tgt := 158) hx hb dX7_giveBack_151 (by decide) (fun c68 => ?_) (fun c68 => ?_)
  · have h := (if_pos c68).symm.trans h
    refine lv_iconst hx hb dX7_giveBack_158 qI_0 ?_
    exact tX7_giveBack_159 X v1 v2 v3 v4 v5 v7 v6 (0 : Int32) m_boxes k_75 Hk_75 h H locs hW ls (lv_sub hl [1, 2, 3, 4, 5, 6, 8] rfl)
  · have h := (if_neg c68).symm.trans h
    refine lv_iconst hx hb dX7_giveBack_154 qI_1 ?_
    refine lv_goto (tgt := 159) hx hb dX7_giveBack_155 (by decide) ?_
    exact tX7_giveBack_159 X v1 v2 v3 v4 v5 v7 v6 (1 : Int32) m_boxes k_75 Hk_75 h H locs hW ls (lv_sub hl [1, 2, 3, 4, 5, 6, 8] rfl)
set_option maxHeartbeats 4000000 in
set_option maxRecDepth 100000 in
theorem tX7_giveBack_144 (X : Bx p s m args meth c cX7_giveBack 9 wsX7_giveBack RX7 (some .int)) (v1 : Int32) (v2 : Int32) (v3 : Int32) (v4 : Int32) (v5 : Int32) (v6 : Int32) (v7 : Int32) (m_boxes : (Nat → Int32)) (k_75 : Int32 → Int32 → Option (Int32 × (Nat → Int32))) (Hk_75 : ∀ (v6 : Int32) (v7 : Int32), k_75 v6 v7 = some res → ∀ (H : Heap) (locs : List Loc), Wo G A s (wX7_giveBack G a_mo a_mo_numbers a_mo_boxes a_mo_words a_mo_leases a_mo_weeks a_mo_routes a_mo_turns a_mo_leave a_mo_uses a_mo_arcFrom a_mo_arcTo a_mo_arcRoom a_mo_arcCost a_mo_far a_mo_by a_mo_best a_mo_tape a_mo_kept m_arcs m_tapeMany m_tokenKind m_tokenAt m_tokenEnd m_tokenValue m_fault m_seen m_isKept m_place m_numbers m_boxes m_words m_leases) H locs → ∀ ls : Array Slot, lv_has ls 9 [(0, .ref a_mo), (1, .int v1), (2, .int v2), (3, .int v3), (4, .int v4), (5, .int v5), (6, .int v6), (7, .int v7)] → W p l e rmX7_giveBack s m args below meth c H locs 0 0 (QI G A below args s res.1 (wX7_giveBack G a_mo a_mo_numbers a_mo_boxes a_mo_words a_mo_leases a_mo_weeks a_mo_routes a_mo_turns a_mo_leave a_mo_uses a_mo_arcFrom a_mo_arcTo a_mo_arcRoom a_mo_arcCost a_mo_far a_mo_by a_mo_best a_mo_tape a_mo_kept m_arcs m_tapeMany m_tokenKind m_tokenAt m_tokenEnd m_tokenValue m_fault m_seen m_isKept m_place m_numbers res.2 m_words m_leases)) (F0 m 75 ls [])) (h : fX7_giveBack_144 k_75 v6 v7 = some res) : ∀ (H : Heap) (locs : List Loc), Wo G A s (wX7_giveBack G a_mo a_mo_numbers a_mo_boxes a_mo_words a_mo_leases a_mo_weeks a_mo_routes a_mo_turns a_mo_leave a_mo_uses a_mo_arcFrom a_mo_arcTo a_mo_arcRoom a_mo_arcCost a_mo_far a_mo_by a_mo_best a_mo_tape a_mo_kept m_arcs m_tapeMany m_tokenKind m_tokenAt m_tokenEnd m_tokenValue m_fault m_seen m_isKept m_place m_numbers m_boxes m_words m_leases) H locs → ∀ ls : Array Slot, lv_has ls 9 [(0, .ref a_mo), (1, .int v1), (2, .int v2), (3, .int v3), (4, .int v4), (5, .int v5), (6, .int v6), (7, .int v7)] → W p l e rmX7_giveBack s m args below meth c H locs 0 0 (QI G A below args s res.1 (wX7_giveBack G a_mo a_mo_numbers a_mo_boxes a_mo_words a_mo_leases a_mo_weeks a_mo_routes a_mo_turns a_mo_leave a_mo_uses a_mo_arcFrom a_mo_arcTo a_mo_arcRoom a_mo_arcCost a_mo_far a_mo_by a_mo_best a_mo_tape a_mo_kept m_arcs m_tapeMany m_tokenKind m_tokenAt m_tokenEnd m_tokenValue m_fault m_seen m_isKept m_place m_numbers res.2 m_words m_leases)) (F0 m 144 ls []) := by
  obtain ⟨hx, hb, -⟩ := id X.1
  intro H locs hW ls hl
  rw [fX7_giveBack_144] at h
  refine lv_iconst hx hb dX7_giveBack_144 qI_0 ?_
  exact tX7_giveBack_145 X v1 v2 v3 v4 v5 v6 v7 (0 : Int32) m_boxes k_75 Hk_75 h H locs hW ls hl
set_option maxHeartbeats 4000000 in
set_option maxRecDepth 100000 in
theorem tX7_giveBack_75 (X : Bx p s m args meth c cX7_giveBack 9 wsX7_giveBack RX7 (some .int)) (v1 : Int32) (v2 : Int32) (v3 : Int32) (v4 : Int32) (v5 : Int32) (m_boxes : (Nat → Int32)) (k_168 : Int32 → Option (Int32 × (Nat → Int32))) (Hk_168 : ∀ (v6 : Int32), k_168 v6 = some res → ∀ (H : Heap) (locs : List Loc), Wo G A s (wX7_giveBack G a_mo a_mo_numbers a_mo_boxes a_mo_words a_mo_leases a_mo_weeks a_mo_routes a_mo_turns a_mo_leave a_mo_uses a_mo_arcFrom a_mo_arcTo a_mo_arcRoom a_mo_arcCost a_mo_far a_mo_by a_mo_best a_mo_tape a_mo_kept m_arcs m_tapeMany m_tokenKind m_tokenAt m_tokenEnd m_tokenValue m_fault m_seen m_isKept m_place m_numbers m_boxes m_words m_leases) H locs → ∀ ls : Array Slot, lv_has ls 9 [(0, .ref a_mo), (1, .int v1), (2, .int v2), (3, .int v3), (4, .int v4), (5, .int v5), (6, .int v6)] → W p l e rmX7_giveBack s m args below meth c H locs 0 0 (QI G A below args s res.1 (wX7_giveBack G a_mo a_mo_numbers a_mo_boxes a_mo_words a_mo_leases a_mo_weeks a_mo_routes a_mo_turns a_mo_leave a_mo_uses a_mo_arcFrom a_mo_arcTo a_mo_arcRoom a_mo_arcCost a_mo_far a_mo_by a_mo_best a_mo_tape a_mo_kept m_arcs m_tapeMany m_tokenKind m_tokenAt m_tokenEnd m_tokenValue m_fault m_seen m_isKept m_place m_numbers res.2 m_words m_leases)) (F0 m 168 ls [])) : ∀ (n : Nat) (v6 : Int32) (v7 : Int32), fX7_giveBack_75 v3 v4 v5 m_numbers m_boxes k_168 n v6 v7 = some res → ∀ (H : Heap) (locs : List Loc), Wo G A s (wX7_giveBack G a_mo a_mo_numbers a_mo_boxes a_mo_words a_mo_leases a_mo_weeks a_mo_routes a_mo_turns a_mo_leave a_mo_uses a_mo_arcFrom a_mo_arcTo a_mo_arcRoom a_mo_arcCost a_mo_far a_mo_by a_mo_best a_mo_tape a_mo_kept m_arcs m_tapeMany m_tokenKind m_tokenAt m_tokenEnd m_tokenValue m_fault m_seen m_isKept m_place m_numbers m_boxes m_words m_leases) H locs → ∀ ls : Array Slot, lv_has ls 9 [(0, .ref a_mo), (1, .int v1), (2, .int v2), (3, .int v3), (4, .int v4), (5, .int v5), (6, .int v6), (7, .int v7)] → W p l e rmX7_giveBack s m args below meth c H locs 0 0 (QI G A below args s res.1 (wX7_giveBack G a_mo a_mo_numbers a_mo_boxes a_mo_words a_mo_leases a_mo_weeks a_mo_routes a_mo_turns a_mo_leave a_mo_uses a_mo_arcFrom a_mo_arcTo a_mo_arcRoom a_mo_arcCost a_mo_far a_mo_by a_mo_best a_mo_tape a_mo_kept m_arcs m_tapeMany m_tokenKind m_tokenAt m_tokenEnd m_tokenValue m_fault m_seen m_isKept m_place m_numbers res.2 m_words m_leases)) (F0 m 75 ls []) := by
  obtain ⟨hx, hb, -⟩ := id X.1
  intro n
  induction n with
  | zero => intro v6 v7 h; rw [fX7_giveBack_75] at h; cases h
  | succ n ih =>
    intro v6 v7 h H locs hW ls hl
    rw [fX7_giveBack_75] at h
    refine lv_iload hx hb dX7_giveBack_75 (lv_at hl 7 rfl) ?_
    refine lv_aload_n hx hb dX7_giveBack_77 rfl (lv_at hl 0 rfl) ?_
    refine g_get X hW eX7_giveBack_7 0 rfl rfl dX7_giveBack_78 ?_
    refine lv_iconst hx hb dX7_giveBack_81 qI_1 ?_
    obtain ⟨g77, h⟩ := gd_some h
    refine g_ald X hW 1 rfl g77 dX7_giveBack_82 ?_
    refine lv_icmp_ge (tgt := 168) hx hb dX7_giveBack_83 (by decide) (fun c78 => ?_) (fun c78 => ?_)
    · have h := (if_pos c78).symm.trans h
      exact Hk_168 v6 h H locs hW ls (lv_sub hl [0, 1, 2, 3, 4, 5, 6] rfl)
    · have h := (if_neg c78).symm.trans h
      refine lv_aload_n hx hb dX7_giveBack_86 rfl (lv_at hl 0 rfl) ?_
      refine lv_iload hx hb dX7_giveBack_87 (lv_at hl 7 rfl) ?_
      refine lv_iconst hx hb dX7_giveBack_89 qI_5 ?_
      obtain ⟨r82, hq, h⟩ := bn1_some h
      refine g_cvi X hW (As := [.int v7, .int (5 : Int32)]) (ws' := (wX7_giveBack G a_mo a_mo_numbers a_mo_boxes a_mo_words a_mo_leases a_mo_weeks a_mo_routes a_mo_turns a_mo_leave a_mo_uses a_mo_arcFrom a_mo_arcTo a_mo_arcRoom a_mo_arcCost a_mo_far a_mo_by a_mo_best a_mo_tape a_mo_kept m_arcs m_tapeMany m_tokenKind m_tokenAt m_tokenEnd m_tokenValue m_fault m_seen m_isKept m_place m_numbers m_boxes m_words m_leases)) ckX7_giveBack_X7_get_68 (kcX7_get (l := l) G a_mo a_mo_boxes a_mo_numbers a_mo_words a_mo_weeks a_mo_routes a_mo_turns a_mo_leave a_mo_leases a_mo_uses a_mo_arcFrom a_mo_arcTo a_mo_arcRoom a_mo_arcCost a_mo_far a_mo_by a_mo_best a_mo_tape a_mo_kept v7 (5 : Int32) m_arcs m_tapeMany m_tokenKind m_tokenAt m_tokenEnd m_tokenValue m_fault m_seen m_isKept m_place m_boxes hq) ⟨rfl, rfl, Nat.le_of_ble_eq_true rfl, Nat.le_of_ble_eq_true rfl⟩ [0, 2] rfl rfl rfl rfl rfl rfl rfl hl.1 (Nat.le_of_ble_eq_true rfl) ⟨Nat.zero_le _, Nat.zero_le _⟩ dX7_giveBack_90 (fun H locs hW => ?_)
      refine lv_iconst hx hb dX7_giveBack_93 qI_1 ?_
      refine lv_icmp_ne (tgt := 144) hx hb dX7_giveBack_94 (by decide) (fun c84 => ?_) (fun c84 => ?_)
      · have h := (if_neg c84).symm.trans h
        exact tX7_giveBack_144 X v1 v2 v3 v4 v5 v6 v7 m_boxes (fun v6 v7 => fX7_giveBack_75 v3 v4 v5 m_numbers m_boxes k_168 n v6 v7) ih h H locs hW ls hl
      · have h := (if_pos c84).symm.trans h
        refine lv_aload_n hx hb dX7_giveBack_97 rfl (lv_at hl 0 rfl) ?_
        refine lv_iload hx hb dX7_giveBack_98 (lv_at hl 7 rfl) ?_
        refine lv_iconst hx hb dX7_giveBack_100 qI_3 ?_
        obtain ⟨r88, hq, h⟩ := bn1_some h
        refine g_cvi X hW (As := [.int v7, .int (3 : Int32)]) (ws' := (wX7_giveBack G a_mo a_mo_numbers a_mo_boxes a_mo_words a_mo_leases a_mo_weeks a_mo_routes a_mo_turns a_mo_leave a_mo_uses a_mo_arcFrom a_mo_arcTo a_mo_arcRoom a_mo_arcCost a_mo_far a_mo_by a_mo_best a_mo_tape a_mo_kept m_arcs m_tapeMany m_tokenKind m_tokenAt m_tokenEnd m_tokenValue m_fault m_seen m_isKept m_place m_numbers m_boxes m_words m_leases)) ckX7_giveBack_X7_get_68 (kcX7_get (l := l) G a_mo a_mo_boxes a_mo_numbers a_mo_words a_mo_weeks a_mo_routes a_mo_turns a_mo_leave a_mo_leases a_mo_uses a_mo_arcFrom a_mo_arcTo a_mo_arcRoom a_mo_arcCost a_mo_far a_mo_by a_mo_best a_mo_tape a_mo_kept v7 (3 : Int32) m_arcs m_tapeMany m_tokenKind m_tokenAt m_tokenEnd m_tokenValue m_fault m_seen m_isKept m_place m_boxes hq) ⟨rfl, rfl, Nat.le_of_ble_eq_true rfl, Nat.le_of_ble_eq_true rfl⟩ [0, 2] rfl rfl rfl rfl rfl rfl rfl hl.1 (Nat.le_of_ble_eq_true rfl) ⟨Nat.zero_le _, Nat.zero_le _⟩ dX7_giveBack_101 (fun H locs hW => ?_)
        refine lv_iload hx hb dX7_giveBack_104 (lv_at hl 5 rfl) ?_
        refine lv_icmp_ne (tgt := 144) hx hb dX7_giveBack_106 (by decide) (fun c90 => ?_) (fun c90 => ?_)
        · have h := (if_neg c90).symm.trans h
          exact tX7_giveBack_144 X v1 v2 v3 v4 v5 v6 v7 m_boxes (fun v6 v7 => fX7_giveBack_75 v3 v4 v5 m_numbers m_boxes k_168 n v6 v7) ih h H locs hW ls hl
        · have h := (if_pos c90).symm.trans h
          refine lv_aload_n hx hb dX7_giveBack_109 rfl (lv_at hl 0 rfl) ?_
          refine lv_iload hx hb dX7_giveBack_110 (lv_at hl 7 rfl) ?_
          refine lv_bipush hx hb dX7_giveBack_112 qB_8 ?_
          obtain ⟨r94, hq, h⟩ := bn1_some h
          refine g_cvi X hW (As := [.int v7, .int (8 : Int32)]) (ws' := (wX7_giveBack G a_mo a_mo_numbers a_mo_boxes a_mo_words a_mo_leases a_mo_weeks a_mo_routes a_mo_turns a_mo_leave a_mo_uses a_mo_arcFrom a_mo_arcTo a_mo_arcRoom a_mo_arcCost a_mo_far a_mo_by a_mo_best a_mo_tape a_mo_kept m_arcs m_tapeMany m_tokenKind m_tokenAt m_tokenEnd m_tokenValue m_fault m_seen m_isKept m_place m_numbers m_boxes m_words m_leases)) ckX7_giveBack_X7_get_68 (kcX7_get (l := l) G a_mo a_mo_boxes a_mo_numbers a_mo_words a_mo_weeks a_mo_routes a_mo_turns a_mo_leave a_mo_leases a_mo_uses a_mo_arcFrom a_mo_arcTo a_mo_arcRoom a_mo_arcCost a_mo_far a_mo_by a_mo_best a_mo_tape a_mo_kept v7 (8 : Int32) m_arcs m_tapeMany m_tokenKind m_tokenAt m_tokenEnd m_tokenValue m_fault m_seen m_isKept m_place m_boxes hq) ⟨rfl, rfl, Nat.le_of_ble_eq_true rfl, Nat.le_of_ble_eq_true rfl⟩ [0, 2] rfl rfl rfl rfl rfl rfl rfl hl.1 (Nat.le_of_ble_eq_true rfl) ⟨Nat.zero_le _, Nat.zero_le _⟩ dX7_giveBack_114 (fun H locs hW => ?_)
          refine lv_iload hx hb dX7_giveBack_117 (lv_at hl 4 rfl) ?_
          refine lv_icmp_ne (tgt := 144) hx hb dX7_giveBack_119 (by decide) (fun c96 => ?_) (fun c96 => ?_)
          · have h := (if_neg c96).symm.trans h
            exact tX7_giveBack_144 X v1 v2 v3 v4 v5 v6 v7 m_boxes (fun v6 v7 => fX7_giveBack_75 v3 v4 v5 m_numbers m_boxes k_168 n v6 v7) ih h H locs hW ls hl
          · have h := (if_pos c96).symm.trans h
            refine lv_aload_n hx hb dX7_giveBack_122 rfl (lv_at hl 0 rfl) ?_
            refine lv_iload hx hb dX7_giveBack_123 (lv_at hl 7 rfl) ?_
            refine lv_bipush hx hb dX7_giveBack_125 qB_7 ?_
            obtain ⟨r100, hq, h⟩ := bn1_some h
            refine g_cvi X hW (As := [.int v7, .int (7 : Int32)]) (ws' := (wX7_giveBack G a_mo a_mo_numbers a_mo_boxes a_mo_words a_mo_leases a_mo_weeks a_mo_routes a_mo_turns a_mo_leave a_mo_uses a_mo_arcFrom a_mo_arcTo a_mo_arcRoom a_mo_arcCost a_mo_far a_mo_by a_mo_best a_mo_tape a_mo_kept m_arcs m_tapeMany m_tokenKind m_tokenAt m_tokenEnd m_tokenValue m_fault m_seen m_isKept m_place m_numbers m_boxes m_words m_leases)) ckX7_giveBack_X7_get_68 (kcX7_get (l := l) G a_mo a_mo_boxes a_mo_numbers a_mo_words a_mo_weeks a_mo_routes a_mo_turns a_mo_leave a_mo_leases a_mo_uses a_mo_arcFrom a_mo_arcTo a_mo_arcRoom a_mo_arcCost a_mo_far a_mo_by a_mo_best a_mo_tape a_mo_kept v7 (7 : Int32) m_arcs m_tapeMany m_tokenKind m_tokenAt m_tokenEnd m_tokenValue m_fault m_seen m_isKept m_place m_boxes hq) ⟨rfl, rfl, Nat.le_of_ble_eq_true rfl, Nat.le_of_ble_eq_true rfl⟩ [0, 2] rfl rfl rfl rfl rfl rfl rfl hl.1 (Nat.le_of_ble_eq_true rfl) ⟨Nat.zero_le _, Nat.zero_le _⟩ dX7_giveBack_127 (fun H locs hW => ?_)
            refine lv_bipush hx hb dX7_giveBack_130 qB_7 ?_
            refine lv_idiv hx hb dX7_giveBack_132 (by decide) ?_
            refine lv_iload_n hx hb dX7_giveBack_133 rfl (lv_at hl 3 rfl) ?_
            refine lv_bipush hx hb dX7_giveBack_134 qB_7 ?_
            refine lv_idiv hx hb dX7_giveBack_136 (by decide) ?_
            refine lv_icmp_ne (tgt := 144) hx hb dX7_giveBack_137 (by decide) (fun c106 => ?_) (fun c106 => ?_)
            · have h := (if_neg c106).symm.trans h
              exact tX7_giveBack_144 X v1 v2 v3 v4 v5 v6 v7 m_boxes (fun v6 v7 => fX7_giveBack_75 v3 v4 v5 m_numbers m_boxes k_168 n v6 v7) ih h H locs hW ls hl
            · have h := (if_pos c106).symm.trans h
              refine lv_iconst hx hb dX7_giveBack_140 qI_1 ?_
              refine lv_goto (tgt := 145) hx hb dX7_giveBack_141 (by decide) ?_
              exact tX7_giveBack_145 X v1 v2 v3 v4 v5 v6 v7 (1 : Int32) m_boxes (fun v6 v7 => fX7_giveBack_75 v3 v4 v5 m_numbers m_boxes k_168 n v6 v7) ih h H locs hW ls hl
set_option maxHeartbeats 4000000 in
set_option maxRecDepth 100000 in
theorem k0X7_giveBack {l : Launch} (G : Gt) (a_mo a_mo_numbers a_mo_boxes a_mo_words a_mo_leases a_mo_weeks a_mo_routes a_mo_turns a_mo_leave a_mo_uses a_mo_arcFrom a_mo_arcTo a_mo_arcRoom a_mo_arcCost a_mo_far a_mo_by a_mo_best a_mo_tape a_mo_kept : Nat) (v1 : Int32) (v2 : Int32) (m_arcs : Int32) (m_tapeMany : Int32) (m_tokenKind : Int32) (m_tokenAt : Int32) (m_tokenEnd : Int32) (m_tokenValue : Int32) (m_fault : Int32) (m_seen : Int32) (m_isKept : Int32) (m_place : Int32) (m_numbers : (Nat → Int32)) (m_boxes : (Nat → Int32)) (m_words : (Nat → Int32)) (m_leases : (Nat → Int32)) {res : Int32 × (Nat → Int32)} (h : fX7_giveBack v1 v2 m_numbers m_boxes m_words m_leases = some res) : CtI G l yX7_giveBack wsX7_giveBack rmX7_giveBack [.ref a_mo, .int v1, .int v2] (wX7_giveBack G a_mo a_mo_numbers a_mo_boxes a_mo_words a_mo_leases a_mo_weeks a_mo_routes a_mo_turns a_mo_leave a_mo_uses a_mo_arcFrom a_mo_arcTo a_mo_arcRoom a_mo_arcCost a_mo_far a_mo_by a_mo_best a_mo_tape a_mo_kept m_arcs m_tapeMany m_tokenKind m_tokenAt m_tokenEnd m_tokenValue m_fault m_seen m_isKept m_place m_numbers m_boxes m_words m_leases) res.1 (wX7_giveBack G a_mo a_mo_numbers a_mo_boxes a_mo_words a_mo_leases a_mo_weeks a_mo_routes a_mo_turns a_mo_leave a_mo_uses a_mo_arcFrom a_mo_arcTo a_mo_arcRoom a_mo_arcCost a_mo_far a_mo_by a_mo_best a_mo_tape a_mo_kept m_arcs m_tapeMany m_tokenKind m_tokenAt m_tokenEnd m_tokenValue m_fault m_seen m_isKept m_place m_numbers res.2 m_words m_leases) := by
  refine CtI.mk (cc := cX7_giveBack) (maxL := 9) (ret := (some .int)) (own := RX7) (by decide) rfl rfl (Nat.le_of_ble_eq_true rfl) ?_
  intro p e s m below meth c A X ls hl hW
  obtain ⟨hx, hb, -⟩ := id X.1
  have hl : lv_has ls 9 [(0, .ref a_mo), (1, .int v1), (2, .int v2)] := hl
  generalize hH : s.heap = H at hW ⊢
  generalize hLo : ([] : List Loc) = locs at hW ⊢
  rw [fX7_giveBack] at h
  refine lv_aload_n hx hb dX7_giveBack_0 rfl (lv_at hl 0 rfl) ?_
  refine lv_iload_n hx hb dX7_giveBack_1 rfl (lv_at hl 1 rfl) ?_
  obtain ⟨r111, hq, h⟩ := bn1_some h
  refine g_cvi X hW (As := [.int v1]) (ws' := (wX7_giveBack G a_mo a_mo_numbers a_mo_boxes a_mo_words a_mo_leases a_mo_weeks a_mo_routes a_mo_turns a_mo_leave a_mo_uses a_mo_arcFrom a_mo_arcTo a_mo_arcRoom a_mo_arcCost a_mo_far a_mo_by a_mo_best a_mo_tape a_mo_kept m_arcs m_tapeMany m_tokenKind m_tokenAt m_tokenEnd m_tokenValue m_fault m_seen m_isKept m_place m_numbers m_boxes m_words m_leases)) ckX7_giveBack_X7_isBox_84 (kcX7_isBox (l := l) G a_mo a_mo_numbers a_mo_boxes a_mo_words a_mo_weeks a_mo_routes a_mo_turns a_mo_leave a_mo_leases a_mo_uses a_mo_arcFrom a_mo_arcTo a_mo_arcRoom a_mo_arcCost a_mo_far a_mo_by a_mo_best a_mo_tape a_mo_kept v1 m_arcs m_tapeMany m_tokenKind m_tokenAt m_tokenEnd m_tokenValue m_fault m_seen m_isKept m_place m_numbers hq) ⟨rfl, rfl, Nat.le_of_ble_eq_true rfl, Nat.le_of_ble_eq_true rfl⟩ [0, 1] rfl rfl rfl rfl rfl rfl rfl hl.1 (Nat.le_of_ble_eq_true rfl) ⟨Nat.zero_le _, Nat.zero_le _⟩ dX7_giveBack_2 (fun H locs hW => ?_)
  refine lv_if_eq (tgt := 18) hx hb dX7_giveBack_5 (by decide) (fun c112 => ?_) (fun c112 => ?_)
  · have h := (if_pos c112).symm.trans h
    refine lv_iconst hx hb dX7_giveBack_18 qI_m1 ?_
    obtain rfl := Option.some.inj h
    exact g_iret X hW dX7_giveBack_19
  · have h := (if_neg c112).symm.trans h
    refine lv_iload_n hx hb dX7_giveBack_8 rfl (lv_at hl 2 rfl) ?_
    refine lv_iconst hx hb dX7_giveBack_9 qI_0 ?_
    refine lv_bipush hx hb dX7_giveBack_10 qB_9 ?_
    obtain ⟨r118, hq, h⟩ := bn1_some h
    refine g_csi X hW (As := [.int v2, .int (0 : Int32), .int (9 : Int32)]) (ws' := (wX7_giveBack G a_mo a_mo_numbers a_mo_boxes a_mo_words a_mo_leases a_mo_weeks a_mo_routes a_mo_turns a_mo_leave a_mo_uses a_mo_arcFrom a_mo_arcTo a_mo_arcRoom a_mo_arcCost a_mo_far a_mo_by a_mo_best a_mo_tape a_mo_kept m_arcs m_tapeMany m_tokenKind m_tokenAt m_tokenEnd m_tokenValue m_fault m_seen m_isKept m_place m_numbers m_boxes m_words m_leases)) ckX7_giveBack_X7_in_64 (kcX7_in (l := l) G v2 (0 : Int32) (9 : Int32) hq) ⟨rfl, rfl, Nat.le_of_ble_eq_true rfl, Nat.le_of_ble_eq_true rfl⟩ [] rfl rfl rfl rfl rfl rfl hl.1 (Nat.le_of_ble_eq_true rfl) ⟨Nat.zero_le _, Nat.zero_le _⟩ dX7_giveBack_12 (fun H locs hW => ?_)
    refine lv_if_ne (tgt := 20) hx hb dX7_giveBack_15 (by decide) (fun c119 => ?_) (fun c119 => ?_)
    · have h := (if_neg c119).symm.trans h
      refine lv_aload_n hx hb dX7_giveBack_20 rfl (lv_at hl 0 rfl) ?_
      refine g_get X hW eX7_giveBack_7 0 rfl rfl dX7_giveBack_21 ?_
      refine lv_iconst hx hb dX7_giveBack_24 qI_0 ?_
      obtain ⟨g123, h⟩ := gd_some h
      refine g_ald X hW 1 rfl g123 dX7_giveBack_25 ?_
      refine lv_istore_n (lv' := [(3, .int (m_numbers (0 : Int32).toNatClampNeg)), (0, .ref a_mo), (1, .int v1), (2, .int v2)]) hx hb dX7_giveBack_26 rfl hl (by decide) rfl (fun ls hl => ?_)
      refine lv_aload_n hx hb dX7_giveBack_27 rfl (lv_at hl 1 rfl) ?_
      refine lv_iload_n hx hb dX7_giveBack_28 rfl (lv_at hl 2 rfl) ?_
      refine lv_iload_n hx hb dX7_giveBack_29 rfl (lv_at hl 0 rfl) ?_
      refine lv_iload_n hx hb dX7_giveBack_30 rfl (lv_at hl 0 rfl) ?_
      obtain ⟨r129, hq, h⟩ := bn1_some h
      refine g_cvi X hW (As := [.int v1, .int (m_numbers (0 : Int32).toNatClampNeg), .int (m_numbers (0 : Int32).toNatClampNeg)]) (ws' := (wX7_giveBack G a_mo a_mo_numbers a_mo_boxes a_mo_words a_mo_leases a_mo_weeks a_mo_routes a_mo_turns a_mo_leave a_mo_uses a_mo_arcFrom a_mo_arcTo a_mo_arcRoom a_mo_arcCost a_mo_far a_mo_by a_mo_best a_mo_tape a_mo_kept m_arcs m_tapeMany m_tokenKind m_tokenAt m_tokenEnd m_tokenValue m_fault m_seen m_isKept m_place m_numbers m_boxes m_words m_leases)) ckX7_giveBack_X7_whereIs_100 (kcX7_whereIs (l := l) G a_mo a_mo_numbers a_mo_words a_mo_boxes a_mo_weeks a_mo_routes a_mo_turns a_mo_leave a_mo_leases a_mo_uses a_mo_arcFrom a_mo_arcTo a_mo_arcRoom a_mo_arcCost a_mo_far a_mo_by a_mo_best a_mo_tape a_mo_kept v1 (m_numbers (0 : Int32).toNatClampNeg) (m_numbers (0 : Int32).toNatClampNeg) m_arcs m_tapeMany m_tokenKind m_tokenAt m_tokenEnd m_tokenValue m_fault m_seen m_isKept m_place m_numbers m_words hq) ⟨rfl, rfl, Nat.le_of_ble_eq_true rfl, Nat.le_of_ble_eq_true rfl⟩ [0, 1, 3] rfl rfl rfl rfl rfl rfl rfl hl.1 (Nat.le_of_ble_eq_true rfl) ⟨Nat.zero_le _, Nat.zero_le _⟩ dX7_giveBack_31 (fun H locs hW => ?_)
      refine lv_istore (lv' := [(4, .int r129), (3, .int (m_numbers (0 : Int32).toNatClampNeg)), (0, .ref a_mo), (1, .int v1), (2, .int v2)]) hx hb dX7_giveBack_34 hl (by decide) rfl (fun ls hl => ?_)
      refine lv_aload_n hx hb dX7_giveBack_36 rfl (lv_at hl 2 rfl) ?_
      refine lv_iload_n hx hb dX7_giveBack_37 rfl (lv_at hl 3 rfl) ?_
      refine lv_iconst hx hb dX7_giveBack_38 qI_3 ?_
      obtain ⟨r134, hq, h⟩ := bn1_some h
      refine g_cvi X hW (As := [.int v1, .int (3 : Int32)]) (ws' := (wX7_giveBack G a_mo a_mo_numbers a_mo_boxes a_mo_words a_mo_leases a_mo_weeks a_mo_routes a_mo_turns a_mo_leave a_mo_uses a_mo_arcFrom a_mo_arcTo a_mo_arcRoom a_mo_arcCost a_mo_far a_mo_by a_mo_best a_mo_tape a_mo_kept m_arcs m_tapeMany m_tokenKind m_tokenAt m_tokenEnd m_tokenValue m_fault m_seen m_isKept m_place m_numbers m_boxes m_words m_leases)) ckX7_giveBack_X7_get_68 (kcX7_get (l := l) G a_mo a_mo_boxes a_mo_numbers a_mo_words a_mo_weeks a_mo_routes a_mo_turns a_mo_leave a_mo_leases a_mo_uses a_mo_arcFrom a_mo_arcTo a_mo_arcRoom a_mo_arcCost a_mo_far a_mo_by a_mo_best a_mo_tape a_mo_kept v1 (3 : Int32) m_arcs m_tapeMany m_tokenKind m_tokenAt m_tokenEnd m_tokenValue m_fault m_seen m_isKept m_place m_boxes hq) ⟨rfl, rfl, Nat.le_of_ble_eq_true rfl, Nat.le_of_ble_eq_true rfl⟩ [0, 2] rfl rfl rfl rfl rfl rfl rfl hl.1 (Nat.le_of_ble_eq_true rfl) ⟨Nat.zero_le _, Nat.zero_le _⟩ dX7_giveBack_39 (fun H locs hW => ?_)
      refine lv_istore (lv' := [(5, .int r134), (4, .int r129), (3, .int (m_numbers (0 : Int32).toNatClampNeg)), (0, .ref a_mo), (1, .int v1), (2, .int v2)]) hx hb dX7_giveBack_42 hl (by decide) rfl (fun ls hl => ?_)
      refine lv_iload hx hb dX7_giveBack_44 (lv_at hl 0 rfl) ?_
      refine lv_if_lt (tgt := 66) hx hb dX7_giveBack_46 (by decide) (fun c137 => ?_) (fun c137 => ?_)
      · have h := (if_pos c137).symm.trans h
        refine lv_bipush hx hb dX7_giveBack_66 qB_m4 ?_
        obtain rfl := Option.some.inj h
        exact g_iret X hW dX7_giveBack_68
      · have h := (if_neg c137).symm.trans h
        refine lv_aload_n hx hb dX7_giveBack_49 rfl (lv_at hl 3 rfl) ?_
        refine lv_iload_n hx hb dX7_giveBack_50 rfl (lv_at hl 4 rfl) ?_
        refine lv_iconst hx hb dX7_giveBack_51 qI_5 ?_
        obtain ⟨r143, hq, h⟩ := bn1_some h
        refine g_cvi X hW (As := [.int v1, .int (5 : Int32)]) (ws' := (wX7_giveBack G a_mo a_mo_numbers a_mo_boxes a_mo_words a_mo_leases a_mo_weeks a_mo_routes a_mo_turns a_mo_leave a_mo_uses a_mo_arcFrom a_mo_arcTo a_mo_arcRoom a_mo_arcCost a_mo_far a_mo_by a_mo_best a_mo_tape a_mo_kept m_arcs m_tapeMany m_tokenKind m_tokenAt m_tokenEnd m_tokenValue m_fault m_seen m_isKept m_place m_numbers m_boxes m_words m_leases)) ckX7_giveBack_X7_get_68 (kcX7_get (l := l) G a_mo a_mo_boxes a_mo_numbers a_mo_words a_mo_weeks a_mo_routes a_mo_turns a_mo_leave a_mo_leases a_mo_uses a_mo_arcFrom a_mo_arcTo a_mo_arcRoom a_mo_arcCost a_mo_far a_mo_by a_mo_best a_mo_tape a_mo_kept v1 (5 : Int32) m_arcs m_tapeMany m_tokenKind m_tokenAt m_tokenEnd m_tokenValue m_fault m_seen m_isKept m_place m_boxes hq) ⟨rfl, rfl, Nat.le_of_ble_eq_true rfl, Nat.le_of_ble_eq_true rfl⟩ [0, 2] rfl rfl rfl rfl rfl rfl rfl hl.1 (Nat.le_of_ble_eq_true rfl) ⟨Nat.zero_le _, Nat.zero_le _⟩ dX7_giveBack_52 (fun H locs hW => ?_)
        refine lv_if_ne (tgt := 66) hx hb dX7_giveBack_55 (by decide) (fun c144 => ?_) (fun c144 => ?_)
        · have h := (if_neg c144).symm.trans h
          refine lv_bipush hx hb dX7_giveBack_66 qB_m4 ?_
          obtain rfl := Option.some.inj h
          exact g_iret X hW dX7_giveBack_68
        · have h := (if_pos c144).symm.trans h
          refine lv_iload hx hb dX7_giveBack_58 (lv_at hl 1 rfl) ?_
          obtain ⟨r148, hq, h⟩ := bn1_some h
          refine g_csi X hW (As := [.int r129]) (ws' := (wX7_giveBack G a_mo a_mo_numbers a_mo_boxes a_mo_words a_mo_leases a_mo_weeks a_mo_routes a_mo_turns a_mo_leave a_mo_uses a_mo_arcFrom a_mo_arcTo a_mo_arcRoom a_mo_arcCost a_mo_far a_mo_by a_mo_best a_mo_tape a_mo_kept m_arcs m_tapeMany m_tokenKind m_tokenAt m_tokenEnd m_tokenValue m_fault m_seen m_isKept m_place m_numbers m_boxes m_words m_leases)) ckX7_giveBack_X7_isPlace_90 (kcX7_isPlace (l := l) G r129 hq) ⟨rfl, rfl, Nat.le_of_ble_eq_true rfl, Nat.le_of_ble_eq_true rfl⟩ [] rfl rfl rfl rfl rfl rfl hl.1 (Nat.le_of_ble_eq_true rfl) ⟨Nat.zero_le _, Nat.zero_le _⟩ dX7_giveBack_60 (fun H locs hW => ?_)
          refine lv_if_ne (tgt := 69) hx hb dX7_giveBack_63 (by decide) (fun c149 => ?_) (fun c149 => ?_)
          · have h := (if_neg c149).symm.trans h
            refine lv_iconst hx hb dX7_giveBack_69 qI_0 ?_
            refine lv_istore (lv' := [(6, .int (0 : Int32)), (5, .int r134), (4, .int r129), (3, .int (m_numbers (0 : Int32).toNatClampNeg)), (0, .ref a_mo), (1, .int v1), (2, .int v2)]) hx hb dX7_giveBack_70 hl (by decide) rfl (fun ls hl => ?_)
            refine lv_iconst hx hb dX7_giveBack_72 qI_0 ?_
            refine lv_istore (lv' := [(7, .int (0 : Int32)), (6, .int (0 : Int32)), (5, .int r134), (4, .int r129), (3, .int (m_numbers (0 : Int32).toNatClampNeg)), (0, .ref a_mo), (1, .int v1), (2, .int v2)]) hx hb dX7_giveBack_73 hl (by decide) rfl (fun ls hl => ?_)
            exact tX7_giveBack_75 X v1 v2 (m_numbers (0 : Int32).toNatClampNeg) r129 r134 m_boxes (fun v6_q154 => fX7_giveBack_168 v1 v2 (m_numbers (0 : Int32).toNatClampNeg) r129 r134 v6_q154 m_numbers m_boxes m_leases) (fun v6_q154 h H locs hW ls hl => by exact tX7_giveBack_168 X v1 v2 (m_numbers (0 : Int32).toNatClampNeg) r129 r134 v6_q154 m_boxes h H locs hW ls hl) FU (0 : Int32) (0 : Int32) h H locs hW ls (lv_sub hl [5, 6, 7, 4, 3, 2, 1, 0] rfl)
          · have h := (if_pos c149).symm.trans h
            refine lv_bipush hx hb dX7_giveBack_66 qB_m4 ?_
            obtain rfl := Option.some.inj h
            exact g_iret X hW dX7_giveBack_68
    · have h := (if_pos c119).symm.trans h
      refine lv_iconst hx hb dX7_giveBack_18 qI_m1 ?_
      obtain rfl := Option.some.inj h
      exact g_iret X hW dX7_giveBack_19
theorem kcX7_giveBack {l : Launch} (G : Gt) (a_mo a_mo_numbers a_mo_boxes a_mo_words a_mo_leases a_mo_weeks a_mo_routes a_mo_turns a_mo_leave a_mo_uses a_mo_arcFrom a_mo_arcTo a_mo_arcRoom a_mo_arcCost a_mo_far a_mo_by a_mo_best a_mo_tape a_mo_kept : Nat) (v1 : Int32) (v2 : Int32) (m_arcs : Int32) (m_tapeMany : Int32) (m_tokenKind : Int32) (m_tokenAt : Int32) (m_tokenEnd : Int32) (m_tokenValue : Int32) (m_fault : Int32) (m_seen : Int32) (m_isKept : Int32) (m_place : Int32) (m_numbers : (Nat → Int32)) (m_boxes : (Nat → Int32)) (m_words : (Nat → Int32)) (m_leases : (Nat → Int32)) {r : Int32} {z_m_boxes : (Nat → Int32)} (h : fX7_giveBack v1 v2 m_numbers m_boxes m_words m_leases = some (r, z_m_boxes)) : CtI G l yX7_giveBack wsX7_giveBack rmX7_giveBack [.ref a_mo, .int v1, .int v2] (wX7_giveBack G a_mo a_mo_numbers a_mo_boxes a_mo_words a_mo_leases a_mo_weeks a_mo_routes a_mo_turns a_mo_leave a_mo_uses a_mo_arcFrom a_mo_arcTo a_mo_arcRoom a_mo_arcCost a_mo_far a_mo_by a_mo_best a_mo_tape a_mo_kept m_arcs m_tapeMany m_tokenKind m_tokenAt m_tokenEnd m_tokenValue m_fault m_seen m_isKept m_place m_numbers m_boxes m_words m_leases) r (wX7_giveBack G a_mo a_mo_numbers a_mo_boxes a_mo_words a_mo_leases a_mo_weeks a_mo_routes a_mo_turns a_mo_leave a_mo_uses a_mo_arcFrom a_mo_arcTo a_mo_arcRoom a_mo_arcCost a_mo_far a_mo_by a_mo_best a_mo_tape a_mo_kept m_arcs m_tapeMany m_tokenKind m_tokenAt m_tokenEnd m_tokenValue m_fault m_seen m_isKept m_place m_numbers z_m_boxes m_words m_leases) := k0X7_giveBack G a_mo a_mo_numbers a_mo_boxes a_mo_words a_mo_leases a_mo_weeks a_mo_routes a_mo_turns a_mo_leave a_mo_uses a_mo_arcFrom a_mo_arcTo a_mo_arcRoom a_mo_arcCost a_mo_far a_mo_by a_mo_best a_mo_tape a_mo_kept v1 v2 m_arcs m_tapeMany m_tokenKind m_tokenAt m_tokenEnd m_tokenValue m_fault m_seen m_isKept m_place m_numbers m_boxes m_words m_leases h
end MX7_giveBack
/-! EmptyBoxesModel.writeOff -/
section MX7_writeOff
theorem hdX7_writeOff : yX7_writeOff.cls = RX7 ∧ yX7_writeOff.cls ≠ "java/lang/invoke/MethodHandle" ∧ yX7_writeOff.cls ≠ "java/lang/invoke/VarHandle" ∧ (parseMethodDescriptor yX7_writeOff.desc).map (fun d => d.parameters.length) = some 1 := by decide +kernel
abbrev wX7_writeOff (G : Gt) (a_mo a_mo_numbers a_mo_boxes a_mo_words a_mo_leases a_mo_weeks a_mo_routes a_mo_turns a_mo_leave a_mo_uses a_mo_arcFrom a_mo_arcTo a_mo_arcRoom a_mo_arcCost a_mo_far a_mo_by a_mo_best a_mo_tape a_mo_kept : Nat) (m_arcs : Int32) (m_tapeMany : Int32) (m_tokenKind : Int32) (m_tokenAt : Int32) (m_tokenEnd : Int32) (m_tokenValue : Int32) (m_fault : Int32) (m_seen : Int32) (m_isKept : Int32) (m_place : Int32) (m_numbers : (Nat → Int32)) (m_boxes : (Nat → Int32)) (m_words : (Nat → Int32)) (m_leases : (Nat → Int32)) : va_W := [(a_mo, .inr (7, [.ref a_mo_numbers, .ref a_mo_boxes, .ref a_mo_words, .ref a_mo_weeks, .ref a_mo_routes, .ref a_mo_turns, .ref a_mo_leave, .ref a_mo_leases, .ref a_mo_uses, .ref a_mo_arcFrom, .ref a_mo_arcTo, .ref a_mo_arcRoom, .ref a_mo_arcCost, .int m_arcs, .ref a_mo_far, .ref a_mo_by, .ref a_mo_best, .ref a_mo_tape, .int m_tapeMany, .int m_tokenKind, .int m_tokenAt, .int m_tokenEnd, .int m_tokenValue, .int m_fault, .int m_seen, .int m_isKept, .ref a_mo_kept, .int m_place])), (a_mo_numbers, .inl (G.2.1, 10, .inl m_numbers)), (a_mo_boxes, .inl (G.2.1, 216, .inl m_boxes)), (a_mo_words, .inl (G.2.1, 300, .inl m_words)), (a_mo_leases, .inl (G.2.1, 68, .inl m_leases))]
abbrev rmX7_writeOff : Room := { frames := 2, cells := 0, slots := 0, locals := 48 }
theorem iX7_writeOff_X7 : ∀ w ∈ wsX70, w ∈ wsX7_writeOff := by decide +kernel
theorem eX7_writeOff_31 : Fk wsX7_writeOff RX7 31 7 7 := ⟨RX7, TX7, 28, rfl, iX7_writeOff_X7, by decide, by decide +kernel⟩
theorem eX7_writeOff_7 : Fk wsX7_writeOff RX7 7 7 0 := ⟨RX7, TX7, 28, rfl, iX7_writeOff_X7, by decide, by decide +kernel⟩
theorem ckX7_writeOff_X7_daysCost_193 : CkV wsX7_writeOff RX7 193 yX7_daysCost wsX7_daysCost cX7_daysCost 4 (some .int) 1 7 := ⟨RX7, TX7, 28, _, rfl, gX7_writeOff_X7_daysCost, rfl, hdX7_daysCost⟩
theorem ckX7_writeOff_X7_ends_196 : CkV wsX7_writeOff RX7 196 yX7_ends wsX7_ends cX7_ends 4 (some .int) 3 7 := ⟨RX7, TX7, 28, _, rfl, gX7_writeOff_X7_ends, rfl, hdX7_ends⟩
theorem ckX7_writeOff_X7_get_68 : CkV wsX7_writeOff RX7 68 yX7_get wsX7_get cX7_get 3 (some .int) 2 7 := ⟨RX7, TX7, 28, _, rfl, gX7_writeOff_X7_get, rfl, hdX7_get⟩
theorem ckX7_writeOff_X7_isBox_84 : CkV wsX7_writeOff RX7 84 yX7_isBox wsX7_isBox cX7_isBox 2 (some .boolean) 1 7 := ⟨RX7, TX7, 28, _, rfl, gX7_writeOff_X7_isBox, rfl, hdX7_isBox⟩
theorem ckX7_writeOff_X7_isLate_106 : CkV wsX7_writeOff RX7 106 yX7_isLate wsX7_isLate cX7_isLate 4 (some .boolean) 1 7 := ⟨RX7, TX7, 28, _, rfl, gX7_writeOff_X7_isLate, rfl, hdX7_isLate⟩
theorem ckX7_writeOff_X7_latest_93 : CkV wsX7_writeOff RX7 93 yX7_latest wsX7_latest cX7_latest 6 (some .int) 3 7 := ⟨RX7, TX7, 28, _, rfl, gX7_writeOff_X7_latest, rfl, hdX7_latest⟩
variable {p : Program} {l : Launch} {e : Env} {s : State} {m : MethodId} {args : Array Value} {below : List Frame} {meth : Method} {c : Code} {A : Nat → Prop} {G : Gt} {a_mo a_mo_numbers a_mo_boxes a_mo_words a_mo_leases a_mo_weeks a_mo_routes a_mo_turns a_mo_leave a_mo_uses a_mo_arcFrom a_mo_arcTo a_mo_arcRoom a_mo_arcCost a_mo_far a_mo_by a_mo_best a_mo_tape a_mo_kept : Nat} {m_arcs : Int32} {m_tapeMany : Int32} {m_tokenKind : Int32} {m_tokenAt : Int32} {m_tokenEnd : Int32} {m_tokenValue : Int32} {m_fault : Int32} {m_seen : Int32} {m_isKept : Int32} {m_place : Int32} {m_numbers : (Nat → Int32)} {m_words : (Nat → Int32)} {m_leases : (Nat → Int32)} {res : Int32 × (Nat → Int32)}
set_option maxHeartbeats 4000000 in
set_option maxRecDepth 100000 in
theorem tX7_writeOff_40 (X : Bx p s m args meth c cX7_writeOff 4 wsX7_writeOff RX7 (some .int)) (v1 : Int32) (t0 : Int32) (m_boxes : (Nat → Int32))   (h : fX7_writeOff_40 v1 t0 m_numbers m_boxes m_leases = some res) : ∀ (H : Heap) (locs : List Loc), Wo G A s (wX7_writeOff G a_mo a_mo_numbers a_mo_boxes a_mo_words a_mo_leases a_mo_weeks a_mo_routes a_mo_turns a_mo_leave a_mo_uses a_mo_arcFrom a_mo_arcTo a_mo_arcRoom a_mo_arcCost a_mo_far a_mo_by a_mo_best a_mo_tape a_mo_kept m_arcs m_tapeMany m_tokenKind m_tokenAt m_tokenEnd m_tokenValue m_fault m_seen m_isKept m_place m_numbers m_boxes m_words m_leases) H locs → ∀ ls : Array Slot, lv_has ls 4 [(0, .ref a_mo), (1, .int v1)] → W p l e rmX7_writeOff s m args below meth c H locs 0 0 (QI G A below args s res.1 (wX7_writeOff G a_mo a_mo_numbers a_mo_boxes a_mo_words a_mo_leases a_mo_weeks a_mo_routes a_mo_turns a_mo_leave a_mo_uses a_mo_arcFrom a_mo_arcTo a_mo_arcRoom a_mo_arcCost a_mo_far a_mo_by a_mo_best a_mo_tape a_mo_kept m_arcs m_tapeMany m_tokenKind m_tokenAt m_tokenEnd m_tokenValue m_fault m_seen m_isKept m_place m_numbers res.2 m_words m_leases)) (F0 m 40 ls [.int t0]) := by
  obtain ⟨hx, hb, -⟩ := id X.1
  intro H locs hW ls hl
  rw [fX7_writeOff_40] at h
  refine lv_istore_n (lv' := [(3, .int t0), (0, .ref a_mo), (1, .int v1)]) hx hb dX7_writeOff_40 rfl hl (by decide) rfl (fun ls hl => ?_)
  refine lv_aload_n hx hb dX7_writeOff_41 rfl (lv_at hl 1 rfl) ?_
  refine lv_iload_n hx hb dX7_writeOff_42 rfl (lv_at hl 2 rfl) ?_
  refine lv_iconst hx hb dX7_writeOff_43 qI_3 ?_
  obtain ⟨r5, hq, h⟩ := bn1_some h
  refine g_cvi X hW (As := [.int v1, .int (3 : Int32)]) (ws' := (wX7_writeOff G a_mo a_mo_numbers a_mo_boxes a_mo_words a_mo_leases a_mo_weeks a_mo_routes a_mo_turns a_mo_leave a_mo_uses a_mo_arcFrom a_mo_arcTo a_mo_arcRoom a_mo_arcCost a_mo_far a_mo_by a_mo_best a_mo_tape a_mo_kept m_arcs m_tapeMany m_tokenKind m_tokenAt m_tokenEnd m_tokenValue m_fault m_seen m_isKept m_place m_numbers m_boxes m_words m_leases)) ckX7_writeOff_X7_get_68 (kcX7_get (l := l) G a_mo a_mo_boxes a_mo_numbers a_mo_words a_mo_weeks a_mo_routes a_mo_turns a_mo_leave a_mo_leases a_mo_uses a_mo_arcFrom a_mo_arcTo a_mo_arcRoom a_mo_arcCost a_mo_far a_mo_by a_mo_best a_mo_tape a_mo_kept v1 (3 : Int32) m_arcs m_tapeMany m_tokenKind m_tokenAt m_tokenEnd m_tokenValue m_fault m_seen m_isKept m_place m_boxes hq) ⟨rfl, rfl, Nat.le_of_ble_eq_true rfl, Nat.le_of_ble_eq_true rfl⟩ [0, 2] rfl rfl rfl rfl rfl rfl rfl hl.1 (Nat.le_of_ble_eq_true rfl) ⟨Nat.zero_le _, Nat.zero_le _⟩ dX7_writeOff_44 (fun H locs hW => ?_)
  refine lv_if_lt (tgt := 63) hx hb dX7_writeOff_47 (by decide) (fun c6 => ?_) (fun c6 => ?_)
  · have h := (if_pos c6).symm.trans h
    refine lv_bipush hx hb dX7_writeOff_63 qB_m4 ?_
    obtain rfl := Option.some.inj h
    exact g_iret X hW dX7_writeOff_65
  · have h := (if_neg c6).symm.trans h
    refine lv_aload_n hx hb dX7_writeOff_50 rfl (lv_at hl 1 rfl) ?_
    refine lv_iload_n hx hb dX7_writeOff_51 rfl (lv_at hl 2 rfl) ?_
    refine lv_iconst hx hb dX7_writeOff_52 qI_5 ?_
    obtain ⟨r12, hq, h⟩ := bn1_some h
    refine g_cvi X hW (As := [.int v1, .int (5 : Int32)]) (ws' := (wX7_writeOff G a_mo a_mo_numbers a_mo_boxes a_mo_words a_mo_leases a_mo_weeks a_mo_routes a_mo_turns a_mo_leave a_mo_uses a_mo_arcFrom a_mo_arcTo a_mo_arcRoom a_mo_arcCost a_mo_far a_mo_by a_mo_best a_mo_tape a_mo_kept m_arcs m_tapeMany m_tokenKind m_tokenAt m_tokenEnd m_tokenValue m_fault m_seen m_isKept m_place m_numbers m_boxes m_words m_leases)) ckX7_writeOff_X7_get_68 (kcX7_get (l := l) G a_mo a_mo_boxes a_mo_numbers a_mo_words a_mo_weeks a_mo_routes a_mo_turns a_mo_leave a_mo_leases a_mo_uses a_mo_arcFrom a_mo_arcTo a_mo_arcRoom a_mo_arcCost a_mo_far a_mo_by a_mo_best a_mo_tape a_mo_kept v1 (5 : Int32) m_arcs m_tapeMany m_tokenKind m_tokenAt m_tokenEnd m_tokenValue m_fault m_seen m_isKept m_place m_boxes hq) ⟨rfl, rfl, Nat.le_of_ble_eq_true rfl, Nat.le_of_ble_eq_true rfl⟩ [0, 2] rfl rfl rfl rfl rfl rfl rfl hl.1 (Nat.le_of_ble_eq_true rfl) ⟨Nat.zero_le _, Nat.zero_le _⟩ dX7_writeOff_53 (fun H locs hW => ?_)
    refine lv_if_ne (tgt := 63) hx hb dX7_writeOff_56 (by decide) (fun c13 => ?_) (fun c13 => ?_)
    · have h := (if_neg c13).symm.trans h
      refine lv_bipush hx hb dX7_writeOff_63 qB_m4 ?_
      obtain rfl := Option.some.inj h
      exact g_iret X hW dX7_writeOff_65
    · have h := (if_pos c13).symm.trans h
      refine lv_iload_n hx hb dX7_writeOff_59 rfl (lv_at hl 0 rfl) ?_
      refine lv_if_ne (tgt := 66) hx hb dX7_writeOff_60 (by decide) (fun c17 => ?_) (fun c17 => ?_)
      · have h := (if_neg c17).symm.trans h
        refine lv_aload_n hx hb dX7_writeOff_66 rfl (lv_at hl 1 rfl) ?_
        refine lv_iload_n hx hb dX7_writeOff_67 rfl (lv_at hl 2 rfl) ?_
        refine lv_iconst hx hb dX7_writeOff_68 qI_2 ?_
        refine lv_aload_n hx hb dX7_writeOff_69 rfl (lv_at hl 1 rfl) ?_
        refine lv_iload_n hx hb dX7_writeOff_70 rfl (lv_at hl 2 rfl) ?_
        obtain ⟨r23, hq, h⟩ := bn1_some h
        refine g_cvi X hW (As := [.int v1]) (ws' := (wX7_writeOff G a_mo a_mo_numbers a_mo_boxes a_mo_words a_mo_leases a_mo_weeks a_mo_routes a_mo_turns a_mo_leave a_mo_uses a_mo_arcFrom a_mo_arcTo a_mo_arcRoom a_mo_arcCost a_mo_far a_mo_by a_mo_best a_mo_tape a_mo_kept m_arcs m_tapeMany m_tokenKind m_tokenAt m_tokenEnd m_tokenValue m_fault m_seen m_isKept m_place m_numbers m_boxes m_words m_leases)) ckX7_writeOff_X7_daysCost_193 (kcX7_daysCost (l := l) G a_mo a_mo_numbers a_mo_boxes a_mo_leases a_mo_words a_mo_weeks a_mo_routes a_mo_turns a_mo_leave a_mo_uses a_mo_arcFrom a_mo_arcTo a_mo_arcRoom a_mo_arcCost a_mo_far a_mo_by a_mo_best a_mo_tape a_mo_kept v1 m_arcs m_tapeMany m_tokenKind m_tokenAt m_tokenEnd m_tokenValue m_fault m_seen m_isKept m_place m_numbers m_boxes m_leases hq) ⟨rfl, rfl, Nat.le_of_ble_eq_true rfl, Nat.le_of_ble_eq_true rfl⟩ [0, 1, 2, 4] rfl rfl rfl rfl rfl rfl rfl hl.1 (Nat.le_of_ble_eq_true rfl) ⟨Nat.zero_le _, Nat.zero_le _⟩ dX7_writeOff_71 (fun H locs hW => ?_)
        refine lv_aload_n hx hb dX7_writeOff_74 rfl (lv_at hl 1 rfl) ?_
        refine g_get X hW eX7_writeOff_31 0 rfl rfl dX7_writeOff_75 ?_
        refine lv_bipush hx hb dX7_writeOff_78 qB_17 ?_
        refine lv_aload_n hx hb dX7_writeOff_80 rfl (lv_at hl 1 rfl) ?_
        refine lv_iload_n hx hb dX7_writeOff_81 rfl (lv_at hl 2 rfl) ?_
        refine lv_iconst hx hb dX7_writeOff_82 qI_3 ?_
        obtain ⟨r30, hq, h⟩ := bn1_some h
        refine g_cvi X hW (As := [.int v1, .int (3 : Int32)]) (ws' := (wX7_writeOff G a_mo a_mo_numbers a_mo_boxes a_mo_words a_mo_leases a_mo_weeks a_mo_routes a_mo_turns a_mo_leave a_mo_uses a_mo_arcFrom a_mo_arcTo a_mo_arcRoom a_mo_arcCost a_mo_far a_mo_by a_mo_best a_mo_tape a_mo_kept m_arcs m_tapeMany m_tokenKind m_tokenAt m_tokenEnd m_tokenValue m_fault m_seen m_isKept m_place m_numbers m_boxes m_words m_leases)) ckX7_writeOff_X7_get_68 (kcX7_get (l := l) G a_mo a_mo_boxes a_mo_numbers a_mo_words a_mo_weeks a_mo_routes a_mo_turns a_mo_leave a_mo_leases a_mo_uses a_mo_arcFrom a_mo_arcTo a_mo_arcRoom a_mo_arcCost a_mo_far a_mo_by a_mo_best a_mo_tape a_mo_kept v1 (3 : Int32) m_arcs m_tapeMany m_tokenKind m_tokenAt m_tokenEnd m_tokenValue m_fault m_seen m_isKept m_place m_boxes hq) ⟨rfl, rfl, Nat.le_of_ble_eq_true rfl, Nat.le_of_ble_eq_true rfl⟩ [0, 2] rfl rfl rfl rfl rfl rfl rfl hl.1 (Nat.le_of_ble_eq_true rfl) ⟨Nat.zero_le _, Nat.zero_le _⟩ dX7_writeOff_83 (fun H locs hW => ?_)
        refine lv_imul hx hb dX7_writeOff_86 ?_
        refine lv_iconst hx hb dX7_writeOff_87 qI_3 ?_
        refine lv_iadd hx hb dX7_writeOff_88 ?_
        obtain ⟨g34, h⟩ := gd_some h
        refine g_ald X hW 4 rfl g34 dX7_writeOff_89 ?_
        refine lv_iadd hx hb dX7_writeOff_90 ?_
        obtain ⟨r36, o36_m_boxes, hq, h⟩ := bn2_some h
        refine g_cvi X hW (As := [.int v1, .int (2 : Int32), .int (r23 + (m_leases (((17 : Int32) * r30) + (3 : Int32)).toNatClampNeg))]) (ws' := (wX7_writeOff G a_mo a_mo_numbers a_mo_boxes a_mo_words a_mo_leases a_mo_weeks a_mo_routes a_mo_turns a_mo_leave a_mo_uses a_mo_arcFrom a_mo_arcTo a_mo_arcRoom a_mo_arcCost a_mo_far a_mo_by a_mo_best a_mo_tape a_mo_kept m_arcs m_tapeMany m_tokenKind m_tokenAt m_tokenEnd m_tokenValue m_fault m_seen m_isKept m_place m_numbers o36_m_boxes m_words m_leases)) ckX7_writeOff_X7_ends_196 (kcX7_ends (l := l) G a_mo a_mo_boxes a_mo_numbers a_mo_words a_mo_weeks a_mo_routes a_mo_turns a_mo_leave a_mo_leases a_mo_uses a_mo_arcFrom a_mo_arcTo a_mo_arcRoom a_mo_arcCost a_mo_far a_mo_by a_mo_best a_mo_tape a_mo_kept v1 (2 : Int32) (r23 + (m_leases (((17 : Int32) * r30) + (3 : Int32)).toNatClampNeg)) m_arcs m_tapeMany m_tokenKind m_tokenAt m_tokenEnd m_tokenValue m_fault m_seen m_isKept m_place m_boxes hq) ⟨rfl, rfl, Nat.le_of_ble_eq_true rfl, Nat.le_of_ble_eq_true rfl⟩ [0, 2] rfl rfl rfl rfl rfl rfl rfl hl.1 (Nat.le_of_ble_eq_true rfl) ⟨Nat.zero_le _, Nat.zero_le _⟩ dX7_writeOff_91 (fun H locs hW => ?_)
        obtain rfl := Option.some.inj h
        exact g_iret X hW dX7_writeOff_94
      · have h := (if_pos c17).symm.trans h
        refine lv_bipush hx hb dX7_writeOff_63 qB_m4 ?_
        obtain rfl := Option.some.inj h
        exact g_iret X hW dX7_writeOff_65
set_option maxHeartbeats 4000000 in
set_option maxRecDepth 100000 in
theorem tX7_writeOff_35 (X : Bx p s m args meth c cX7_writeOff 4 wsX7_writeOff RX7 (some .int)) (v1 : Int32) (m_boxes : (Nat → Int32))   (h : fX7_writeOff_35 v1 m_numbers m_boxes m_leases = some res) : ∀ (H : Heap) (locs : List Loc), Wo G A s (wX7_writeOff G a_mo a_mo_numbers a_mo_boxes a_mo_words a_mo_leases a_mo_weeks a_mo_routes a_mo_turns a_mo_leave a_mo_uses a_mo_arcFrom a_mo_arcTo a_mo_arcRoom a_mo_arcCost a_mo_far a_mo_by a_mo_best a_mo_tape a_mo_kept m_arcs m_tapeMany m_tokenKind m_tokenAt m_tokenEnd m_tokenValue m_fault m_seen m_isKept m_place m_numbers m_boxes m_words m_leases) H locs → ∀ ls : Array Slot, lv_has ls 4 [(0, .ref a_mo), (1, .int v1)] → W p l e rmX7_writeOff s m args below meth c H locs 0 0 (QI G A below args s res.1 (wX7_writeOff G a_mo a_mo_numbers a_mo_boxes a_mo_words a_mo_leases a_mo_weeks a_mo_routes a_mo_turns a_mo_leave a_mo_uses a_mo_arcFrom a_mo_arcTo a_mo_arcRoom a_mo_arcCost a_mo_far a_mo_by a_mo_best a_mo_tape a_mo_kept m_arcs m_tapeMany m_tokenKind m_tokenAt m_tokenEnd m_tokenValue m_fault m_seen m_isKept m_place m_numbers res.2 m_words m_leases)) (F0 m 35 ls []) := by
  obtain ⟨hx, hb, -⟩ := id X.1
  intro H locs hW ls hl
  rw [fX7_writeOff_35] at h
  refine lv_iconst hx hb dX7_writeOff_35 qI_1 ?_
  refine lv_goto (tgt := 40) hx hb dX7_writeOff_36 (by decide) ?_
  exact tX7_writeOff_40 X v1 (1 : Int32) m_boxes h H locs hW ls hl
set_option maxHeartbeats 4000000 in
set_option maxRecDepth 100000 in
theorem k0X7_writeOff {l : Launch} (G : Gt) (a_mo a_mo_numbers a_mo_boxes a_mo_words a_mo_leases a_mo_weeks a_mo_routes a_mo_turns a_mo_leave a_mo_uses a_mo_arcFrom a_mo_arcTo a_mo_arcRoom a_mo_arcCost a_mo_far a_mo_by a_mo_best a_mo_tape a_mo_kept : Nat) (v1 : Int32) (m_arcs : Int32) (m_tapeMany : Int32) (m_tokenKind : Int32) (m_tokenAt : Int32) (m_tokenEnd : Int32) (m_tokenValue : Int32) (m_fault : Int32) (m_seen : Int32) (m_isKept : Int32) (m_place : Int32) (m_numbers : (Nat → Int32)) (m_boxes : (Nat → Int32)) (m_words : (Nat → Int32)) (m_leases : (Nat → Int32)) {res : Int32 × (Nat → Int32)} (h : fX7_writeOff v1 m_numbers m_boxes m_words m_leases = some res) : CtI G l yX7_writeOff wsX7_writeOff rmX7_writeOff [.ref a_mo, .int v1] (wX7_writeOff G a_mo a_mo_numbers a_mo_boxes a_mo_words a_mo_leases a_mo_weeks a_mo_routes a_mo_turns a_mo_leave a_mo_uses a_mo_arcFrom a_mo_arcTo a_mo_arcRoom a_mo_arcCost a_mo_far a_mo_by a_mo_best a_mo_tape a_mo_kept m_arcs m_tapeMany m_tokenKind m_tokenAt m_tokenEnd m_tokenValue m_fault m_seen m_isKept m_place m_numbers m_boxes m_words m_leases) res.1 (wX7_writeOff G a_mo a_mo_numbers a_mo_boxes a_mo_words a_mo_leases a_mo_weeks a_mo_routes a_mo_turns a_mo_leave a_mo_uses a_mo_arcFrom a_mo_arcTo a_mo_arcRoom a_mo_arcCost a_mo_far a_mo_by a_mo_best a_mo_tape a_mo_kept m_arcs m_tapeMany m_tokenKind m_tokenAt m_tokenEnd m_tokenValue m_fault m_seen m_isKept m_place m_numbers res.2 m_words m_leases) := by
  refine CtI.mk (cc := cX7_writeOff) (maxL := 4) (ret := (some .int)) (own := RX7) (by decide) rfl rfl (Nat.le_of_ble_eq_true rfl) ?_
  intro p e s m below meth c A X ls hl hW
  obtain ⟨hx, hb, -⟩ := id X.1
  have hl : lv_has ls 4 [(0, .ref a_mo), (1, .int v1)] := hl
  generalize hH : s.heap = H at hW ⊢
  generalize hLo : ([] : List Loc) = locs at hW ⊢
  rw [fX7_writeOff] at h
  refine lv_aload_n hx hb dX7_writeOff_0 rfl (lv_at hl 0 rfl) ?_
  refine lv_iload_n hx hb dX7_writeOff_1 rfl (lv_at hl 1 rfl) ?_
  obtain ⟨r44, hq, h⟩ := bn1_some h
  refine g_cvi X hW (As := [.int v1]) (ws' := (wX7_writeOff G a_mo a_mo_numbers a_mo_boxes a_mo_words a_mo_leases a_mo_weeks a_mo_routes a_mo_turns a_mo_leave a_mo_uses a_mo_arcFrom a_mo_arcTo a_mo_arcRoom a_mo_arcCost a_mo_far a_mo_by a_mo_best a_mo_tape a_mo_kept m_arcs m_tapeMany m_tokenKind m_tokenAt m_tokenEnd m_tokenValue m_fault m_seen m_isKept m_place m_numbers m_boxes m_words m_leases)) ckX7_writeOff_X7_isBox_84 (kcX7_isBox (l := l) G a_mo a_mo_numbers a_mo_boxes a_mo_words a_mo_weeks a_mo_routes a_mo_turns a_mo_leave a_mo_leases a_mo_uses a_mo_arcFrom a_mo_arcTo a_mo_arcRoom a_mo_arcCost a_mo_far a_mo_by a_mo_best a_mo_tape a_mo_kept v1 m_arcs m_tapeMany m_tokenKind m_tokenAt m_tokenEnd m_tokenValue m_fault m_seen m_isKept m_place m_numbers hq) ⟨rfl, rfl, Nat.le_of_ble_eq_true rfl, Nat.le_of_ble_eq_true rfl⟩ [0, 1] rfl rfl rfl rfl rfl rfl rfl hl.1 (Nat.le_of_ble_eq_true rfl) ⟨Nat.zero_le _, Nat.zero_le _⟩ dX7_writeOff_2 (fun H locs hW => ?_)
  refine lv_if_ne (tgt := 10) hx hb dX7_writeOff_5 (by decide) (fun c45 => ?_) (fun c45 => ?_)
  · have h := (if_neg c45).symm.trans h
    refine lv_aload_n hx hb dX7_writeOff_10 rfl (lv_at hl 0 rfl) ?_
    refine g_get X hW eX7_writeOff_7 0 rfl rfl dX7_writeOff_11 ?_
    refine lv_iconst hx hb dX7_writeOff_14 qI_0 ?_
    obtain ⟨g49, h⟩ := gd_some h
    refine g_ald X hW 1 rfl g49 dX7_writeOff_15 ?_
    refine lv_istore_n (lv' := [(2, .int (m_numbers (0 : Int32).toNatClampNeg)), (0, .ref a_mo), (1, .int v1)]) hx hb dX7_writeOff_16 rfl hl (by decide) rfl (fun ls hl => ?_)
    refine lv_aload_n hx hb dX7_writeOff_17 rfl (lv_at hl 1 rfl) ?_
    refine lv_iload_n hx hb dX7_writeOff_18 rfl (lv_at hl 2 rfl) ?_
    obtain ⟨r53, hq, h⟩ := bn1_some h
    refine g_cvi X hW (As := [.int v1]) (ws' := (wX7_writeOff G a_mo a_mo_numbers a_mo_boxes a_mo_words a_mo_leases a_mo_weeks a_mo_routes a_mo_turns a_mo_leave a_mo_uses a_mo_arcFrom a_mo_arcTo a_mo_arcRoom a_mo_arcCost a_mo_far a_mo_by a_mo_best a_mo_tape a_mo_kept m_arcs m_tapeMany m_tokenKind m_tokenAt m_tokenEnd m_tokenValue m_fault m_seen m_isKept m_place m_numbers m_boxes m_words m_leases)) ckX7_writeOff_X7_isLate_106 (kcX7_isLate (l := l) G a_mo a_mo_numbers a_mo_words a_mo_boxes a_mo_weeks a_mo_routes a_mo_turns a_mo_leave a_mo_leases a_mo_uses a_mo_arcFrom a_mo_arcTo a_mo_arcRoom a_mo_arcCost a_mo_far a_mo_by a_mo_best a_mo_tape a_mo_kept v1 m_arcs m_tapeMany m_tokenKind m_tokenAt m_tokenEnd m_tokenValue m_fault m_seen m_isKept m_place m_numbers m_words hq) ⟨rfl, rfl, Nat.le_of_ble_eq_true rfl, Nat.le_of_ble_eq_true rfl⟩ [0, 1, 3] rfl rfl rfl rfl rfl rfl rfl hl.1 (Nat.le_of_ble_eq_true rfl) ⟨Nat.zero_le _, Nat.zero_le _⟩ dX7_writeOff_19 (fun H locs hW => ?_)
    refine lv_if_ne (tgt := 35) hx hb dX7_writeOff_22 (by decide) (fun c54 => ?_) (fun c54 => ?_)
    · have h := (if_neg c54).symm.trans h
      exact tX7_writeOff_35 X v1 m_boxes h H locs hW ls (lv_sub hl [1, 2] rfl)
    · have h := (if_pos c54).symm.trans h
      refine lv_aload_n hx hb dX7_writeOff_25 rfl (lv_at hl 1 rfl) ?_
      refine lv_iload_n hx hb dX7_writeOff_26 rfl (lv_at hl 2 rfl) ?_
      refine lv_iload_n hx hb dX7_writeOff_27 rfl (lv_at hl 0 rfl) ?_
      refine lv_iload_n hx hb dX7_writeOff_28 rfl (lv_at hl 0 rfl) ?_
      obtain ⟨r59, hq, h⟩ := bn1_some h
      refine g_cvi X hW (As := [.int v1, .int (m_numbers (0 : Int32).toNatClampNeg), .int (m_numbers (0 : Int32).toNatClampNeg)]) (ws' := (wX7_writeOff G a_mo a_mo_numbers a_mo_boxes a_mo_words a_mo_leases a_mo_weeks a_mo_routes a_mo_turns a_mo_leave a_mo_uses a_mo_arcFrom a_mo_arcTo a_mo_arcRoom a_mo_arcCost a_mo_far a_mo_by a_mo_best a_mo_tape a_mo_kept m_arcs m_tapeMany m_tokenKind m_tokenAt m_tokenEnd m_tokenValue m_fault m_seen m_isKept m_place m_numbers m_boxes m_words m_leases)) ckX7_writeOff_X7_latest_93 (kcX7_latest (l := l) G a_mo a_mo_numbers a_mo_words a_mo_boxes a_mo_weeks a_mo_routes a_mo_turns a_mo_leave a_mo_leases a_mo_uses a_mo_arcFrom a_mo_arcTo a_mo_arcRoom a_mo_arcCost a_mo_far a_mo_by a_mo_best a_mo_tape a_mo_kept v1 (m_numbers (0 : Int32).toNatClampNeg) (m_numbers (0 : Int32).toNatClampNeg) m_arcs m_tapeMany m_tokenKind m_tokenAt m_tokenEnd m_tokenValue m_fault m_seen m_isKept m_place m_numbers m_words hq) ⟨rfl, rfl, Nat.le_of_ble_eq_true rfl, Nat.le_of_ble_eq_true rfl⟩ [0, 1, 3] rfl rfl rfl rfl rfl rfl rfl hl.1 (Nat.le_of_ble_eq_true rfl) ⟨Nat.zero_le _, Nat.zero_le _⟩ dX7_writeOff_29 (fun H locs hW => ?_)
      refine lv_if_ge (tgt := 39) hx hb dX7_writeOff_32 (by decide) (fun c60 => ?_) (fun c60 => ?_)
      · have h := (if_pos c60).symm.trans h
        refine lv_iconst hx hb dX7_writeOff_39 qI_0 ?_
        exact tX7_writeOff_40 X v1 (0 : Int32) m_boxes h H locs hW ls (lv_sub hl [1, 2] rfl)
      · have h := (if_neg c60).symm.trans h
        exact tX7_writeOff_35 X v1 m_boxes h H locs hW ls (lv_sub hl [1, 2] rfl)
  · have h := (if_pos c45).symm.trans h
    refine lv_iconst hx hb dX7_writeOff_8 qI_m1 ?_
    obtain rfl := Option.some.inj h
    exact g_iret X hW dX7_writeOff_9
theorem kcX7_writeOff {l : Launch} (G : Gt) (a_mo a_mo_numbers a_mo_boxes a_mo_words a_mo_leases a_mo_weeks a_mo_routes a_mo_turns a_mo_leave a_mo_uses a_mo_arcFrom a_mo_arcTo a_mo_arcRoom a_mo_arcCost a_mo_far a_mo_by a_mo_best a_mo_tape a_mo_kept : Nat) (v1 : Int32) (m_arcs : Int32) (m_tapeMany : Int32) (m_tokenKind : Int32) (m_tokenAt : Int32) (m_tokenEnd : Int32) (m_tokenValue : Int32) (m_fault : Int32) (m_seen : Int32) (m_isKept : Int32) (m_place : Int32) (m_numbers : (Nat → Int32)) (m_boxes : (Nat → Int32)) (m_words : (Nat → Int32)) (m_leases : (Nat → Int32)) {r : Int32} {z_m_boxes : (Nat → Int32)} (h : fX7_writeOff v1 m_numbers m_boxes m_words m_leases = some (r, z_m_boxes)) : CtI G l yX7_writeOff wsX7_writeOff rmX7_writeOff [.ref a_mo, .int v1] (wX7_writeOff G a_mo a_mo_numbers a_mo_boxes a_mo_words a_mo_leases a_mo_weeks a_mo_routes a_mo_turns a_mo_leave a_mo_uses a_mo_arcFrom a_mo_arcTo a_mo_arcRoom a_mo_arcCost a_mo_far a_mo_by a_mo_best a_mo_tape a_mo_kept m_arcs m_tapeMany m_tokenKind m_tokenAt m_tokenEnd m_tokenValue m_fault m_seen m_isKept m_place m_numbers m_boxes m_words m_leases) r (wX7_writeOff G a_mo a_mo_numbers a_mo_boxes a_mo_words a_mo_leases a_mo_weeks a_mo_routes a_mo_turns a_mo_leave a_mo_uses a_mo_arcFrom a_mo_arcTo a_mo_arcRoom a_mo_arcCost a_mo_far a_mo_by a_mo_best a_mo_tape a_mo_kept m_arcs m_tapeMany m_tokenKind m_tokenAt m_tokenEnd m_tokenValue m_fault m_seen m_isKept m_place m_numbers z_m_boxes m_words m_leases) := k0X7_writeOff G a_mo a_mo_numbers a_mo_boxes a_mo_words a_mo_leases a_mo_weeks a_mo_routes a_mo_turns a_mo_leave a_mo_uses a_mo_arcFrom a_mo_arcTo a_mo_arcRoom a_mo_arcCost a_mo_far a_mo_by a_mo_best a_mo_tape a_mo_kept v1 m_arcs m_tapeMany m_tokenKind m_tokenAt m_tokenEnd m_tokenValue m_fault m_seen m_isKept m_place m_numbers m_boxes m_words m_leases h
end MX7_writeOff
/-! EmptyBoxesModel.rate -/
section MX7_rate
theorem hdX7_rate : yX7_rate.cls = RX7 ∧ yX7_rate.cls ≠ "java/lang/invoke/MethodHandle" ∧ yX7_rate.cls ≠ "java/lang/invoke/VarHandle" ∧ (parseMethodDescriptor yX7_rate.desc).map (fun d => d.parameters.length) = some 2 := by decide +kernel
abbrev wX7_rate (G : Gt) (a_mo a_mo_numbers a_mo_boxes a_mo_words a_mo_weeks a_mo_routes a_mo_turns a_mo_leave a_mo_leases a_mo_uses a_mo_arcFrom a_mo_arcTo a_mo_arcRoom a_mo_arcCost a_mo_far a_mo_by a_mo_best a_mo_tape a_mo_kept : Nat) (m_arcs : Int32) (m_tapeMany : Int32) (m_tokenKind : Int32) (m_tokenAt : Int32) (m_tokenEnd : Int32) (m_tokenValue : Int32) (m_fault : Int32) (m_seen : Int32) (m_isKept : Int32) (m_place : Int32) (m_numbers : (Nat → Int32)) : va_W := [(a_mo, .inr (7, [.ref a_mo_numbers, .ref a_mo_boxes, .ref a_mo_words, .ref a_mo_weeks, .ref a_mo_routes, .ref a_mo_turns, .ref a_mo_leave, .ref a_mo_leases, .ref a_mo_uses, .ref a_mo_arcFrom, .ref a_mo_arcTo, .ref a_mo_arcRoom, .ref a_mo_arcCost, .int m_arcs, .ref a_mo_far, .ref a_mo_by, .ref a_mo_best, .ref a_mo_tape, .int m_tapeMany, .int m_tokenKind, .int m_tokenAt, .int m_tokenEnd, .int m_tokenValue, .int m_fault, .int m_seen, .int m_isKept, .ref a_mo_kept, .int m_place])), (a_mo_numbers, .inl (G.2.1, 10, .inl m_numbers))]
abbrev rmX7_rate : Room := { frames := 1, cells := 0, slots := 0, locals := 22 }
theorem iX7_rate_X7 : ∀ w ∈ wsX70, w ∈ wsX7_rate := by decide +kernel
theorem eX7_rate_7 : Fk wsX7_rate RX7 7 7 0 := ⟨RX7, TX7, 28, rfl, iX7_rate_X7, by decide, by decide +kernel⟩
theorem ckX7_rate_X7_in_64 : CkS wsX7_rate RX7 64 yX7_in wsX7_in cX7_in 3 (some .boolean) 3 := ⟨_, gX7_rate_X7_in, rfl, hdX7_in.2⟩
variable {p : Program} {l : Launch} {e : Env} {s : State} {m : MethodId} {args : Array Value} {below : List Frame} {meth : Method} {c : Code} {A : Nat → Prop} {G : Gt} {a_mo a_mo_numbers a_mo_boxes a_mo_words a_mo_weeks a_mo_routes a_mo_turns a_mo_leave a_mo_leases a_mo_uses a_mo_arcFrom a_mo_arcTo a_mo_arcRoom a_mo_arcCost a_mo_far a_mo_by a_mo_best a_mo_tape a_mo_kept : Nat} {m_arcs : Int32} {m_tapeMany : Int32} {m_tokenKind : Int32} {m_tokenAt : Int32} {m_tokenEnd : Int32} {m_tokenValue : Int32} {m_fault : Int32} {m_seen : Int32} {m_isKept : Int32} {m_place : Int32} {res : Int32 × (Nat → Int32)}
set_option maxHeartbeats 4000000 in
set_option maxRecDepth 100000 in
theorem tX7_rate_22 (X : Bx p s m args meth c cX7_rate 4 wsX7_rate RX7 (some .int)) (v1 : Int32) (v2 : Int32) (t0 : Int32) (t1 : Int32) (t2 : Int32) (m_numbers : (Nat → Int32))   (h : fX7_rate_22 v1 v2 t0 t1 t2 m_numbers = some res) : ∀ (H : Heap) (locs : List Loc), Wo G A s (wX7_rate G a_mo a_mo_numbers a_mo_boxes a_mo_words a_mo_weeks a_mo_routes a_mo_turns a_mo_leave a_mo_leases a_mo_uses a_mo_arcFrom a_mo_arcTo a_mo_arcRoom a_mo_arcCost a_mo_far a_mo_by a_mo_best a_mo_tape a_mo_kept m_arcs m_tapeMany m_tokenKind m_tokenAt m_tokenEnd m_tokenValue m_fault m_seen m_isKept m_place m_numbers) H locs → ∀ ls : Array Slot, lv_has ls 4 [(0, .ref a_mo), (1, .int v1), (2, .int v2)] → W p l e rmX7_rate s m args below meth c H locs 0 0 (QI G A below args s res.1 (wX7_rate G a_mo a_mo_numbers a_mo_boxes a_mo_words a_mo_weeks a_mo_routes a_mo_turns a_mo_leave a_mo_leases a_mo_uses a_mo_arcFrom a_mo_arcTo a_mo_arcRoom a_mo_arcCost a_mo_far a_mo_by a_mo_best a_mo_tape a_mo_kept m_arcs m_tapeMany m_tokenKind m_tokenAt m_tokenEnd m_tokenValue m_fault m_seen m_isKept m_place res.2)) (F0 m 22 ls [.int t2, .int t1, .int t0]) := by
  obtain ⟨hx, hb, -⟩ := id X.1
  intro H locs hW ls hl
  rw [fX7_rate_22] at h
  obtain ⟨r1, hq, h⟩ := bn1_some h
  refine g_csi X hW (As := [.int t0, .int t1, .int t2]) (ws' := (wX7_rate G a_mo a_mo_numbers a_mo_boxes a_mo_words a_mo_weeks a_mo_routes a_mo_turns a_mo_leave a_mo_leases a_mo_uses a_mo_arcFrom a_mo_arcTo a_mo_arcRoom a_mo_arcCost a_mo_far a_mo_by a_mo_best a_mo_tape a_mo_kept m_arcs m_tapeMany m_tokenKind m_tokenAt m_tokenEnd m_tokenValue m_fault m_seen m_isKept m_place m_numbers)) ckX7_rate_X7_in_64 (kcX7_in (l := l) G t0 t1 t2 hq) ⟨rfl, rfl, Nat.le_of_ble_eq_true rfl, Nat.le_of_ble_eq_true rfl⟩ [] rfl rfl rfl rfl rfl rfl hl.1 (Nat.le_of_ble_eq_true rfl) ⟨Nat.zero_le _, Nat.zero_le _⟩ dX7_rate_22 (fun H locs hW => ?_)
  refine lv_if_ne (tgt := 30) hx hb dX7_rate_25 (by decide) (fun c2 => ?_) (fun c2 => ?_)
  · have h := (if_neg c2).symm.trans h
    refine lv_aload_n hx hb dX7_rate_30 rfl (lv_at hl 0 rfl) ?_
    refine g_get X hW eX7_rate_7 0 rfl rfl dX7_rate_31 ?_
    refine lv_bipush hx hb dX7_rate_34 qB_7 ?_
    refine lv_iload_n hx hb dX7_rate_36 rfl (lv_at hl 1 rfl) ?_
    refine lv_iadd hx hb dX7_rate_37 ?_
    obtain ⟨g8, h⟩ := gd_some h
    refine g_ald X hW 1 rfl g8 dX7_rate_38 ?_
    refine lv_istore_n (lv' := [(3, .int (m_numbers ((7 : Int32) + v1).toNatClampNeg)), (0, .ref a_mo), (1, .int v1), (2, .int v2)]) hx hb dX7_rate_39 rfl hl (by decide) rfl (fun ls hl => ?_)
    refine lv_aload_n hx hb dX7_rate_40 rfl (lv_at hl 1 rfl) ?_
    refine g_get X hW eX7_rate_7 0 rfl rfl dX7_rate_41 ?_
    refine lv_bipush hx hb dX7_rate_44 qB_7 ?_
    refine lv_iload_n hx hb dX7_rate_46 rfl (lv_at hl 2 rfl) ?_
    refine lv_iadd hx hb dX7_rate_47 ?_
    refine lv_iload_n hx hb dX7_rate_48 rfl (lv_at hl 3 rfl) ?_
    obtain ⟨g16, h⟩ := gd_some h
    refine g_ast X hW (ws' := (wX7_rate G a_mo a_mo_numbers a_mo_boxes a_mo_words a_mo_weeks a_mo_routes a_mo_turns a_mo_leave a_mo_leases a_mo_uses a_mo_arcFrom a_mo_arcTo a_mo_arcRoom a_mo_arcCost a_mo_far a_mo_by a_mo_best a_mo_tape a_mo_kept m_arcs m_tapeMany m_tokenKind m_tokenAt m_tokenEnd m_tokenValue m_fault m_seen m_isKept m_place (upd m_numbers ((7 : Int32) + v1).toNatClampNeg v2))) 1 rfl g16 rfl dX7_rate_49 (fun H locs hW => ?_)
    refine lv_iload_n hx hb dX7_rate_50 rfl (lv_at hl 0 rfl) ?_
    obtain rfl := Option.some.inj h
    exact g_iret X hW dX7_rate_51
  · have h := (if_pos c2).symm.trans h
    refine lv_iconst hx hb dX7_rate_28 qI_m1 ?_
    obtain rfl := Option.some.inj h
    exact g_iret X hW dX7_rate_29
set_option maxHeartbeats 4000000 in
set_option maxRecDepth 100000 in
theorem k0X7_rate {l : Launch} (G : Gt) (a_mo a_mo_numbers a_mo_boxes a_mo_words a_mo_weeks a_mo_routes a_mo_turns a_mo_leave a_mo_leases a_mo_uses a_mo_arcFrom a_mo_arcTo a_mo_arcRoom a_mo_arcCost a_mo_far a_mo_by a_mo_best a_mo_tape a_mo_kept : Nat) (v1 : Int32) (v2 : Int32) (m_arcs : Int32) (m_tapeMany : Int32) (m_tokenKind : Int32) (m_tokenAt : Int32) (m_tokenEnd : Int32) (m_tokenValue : Int32) (m_fault : Int32) (m_seen : Int32) (m_isKept : Int32) (m_place : Int32) (m_numbers : (Nat → Int32)) {res : Int32 × (Nat → Int32)} (h : fX7_rate v1 v2 m_numbers = some res) : CtI G l yX7_rate wsX7_rate rmX7_rate [.ref a_mo, .int v1, .int v2] (wX7_rate G a_mo a_mo_numbers a_mo_boxes a_mo_words a_mo_weeks a_mo_routes a_mo_turns a_mo_leave a_mo_leases a_mo_uses a_mo_arcFrom a_mo_arcTo a_mo_arcRoom a_mo_arcCost a_mo_far a_mo_by a_mo_best a_mo_tape a_mo_kept m_arcs m_tapeMany m_tokenKind m_tokenAt m_tokenEnd m_tokenValue m_fault m_seen m_isKept m_place m_numbers) res.1 (wX7_rate G a_mo a_mo_numbers a_mo_boxes a_mo_words a_mo_weeks a_mo_routes a_mo_turns a_mo_leave a_mo_leases a_mo_uses a_mo_arcFrom a_mo_arcTo a_mo_arcRoom a_mo_arcCost a_mo_far a_mo_by a_mo_best a_mo_tape a_mo_kept m_arcs m_tapeMany m_tokenKind m_tokenAt m_tokenEnd m_tokenValue m_fault m_seen m_isKept m_place res.2) := by
  refine CtI.mk (cc := cX7_rate) (maxL := 4) (ret := (some .int)) (own := RX7) (by decide) rfl rfl (Nat.le_of_ble_eq_true rfl) ?_
  intro p e s m below meth c A X ls hl hW
  obtain ⟨hx, hb, -⟩ := id X.1
  have hl : lv_has ls 4 [(0, .ref a_mo), (1, .int v1), (2, .int v2)] := hl
  generalize hH : s.heap = H at hW ⊢
  generalize hLo : ([] : List Loc) = locs at hW ⊢
  rw [fX7_rate] at h
  refine lv_iload_n hx hb dX7_rate_0 rfl (lv_at hl 1 rfl) ?_
  refine lv_iconst hx hb dX7_rate_1 qI_0 ?_
  refine lv_iconst hx hb dX7_rate_2 qI_1 ?_
  obtain ⟨r24, hq, h⟩ := bn1_some h
  refine g_csi X hW (As := [.int v1, .int (0 : Int32), .int (1 : Int32)]) (ws' := (wX7_rate G a_mo a_mo_numbers a_mo_boxes a_mo_words a_mo_weeks a_mo_routes a_mo_turns a_mo_leave a_mo_leases a_mo_uses a_mo_arcFrom a_mo_arcTo a_mo_arcRoom a_mo_arcCost a_mo_far a_mo_by a_mo_best a_mo_tape a_mo_kept m_arcs m_tapeMany m_tokenKind m_tokenAt m_tokenEnd m_tokenValue m_fault m_seen m_isKept m_place m_numbers)) ckX7_rate_X7_in_64 (kcX7_in (l := l) G v1 (0 : Int32) (1 : Int32) hq) ⟨rfl, rfl, Nat.le_of_ble_eq_true rfl, Nat.le_of_ble_eq_true rfl⟩ [] rfl rfl rfl rfl rfl rfl hl.1 (Nat.le_of_ble_eq_true rfl) ⟨Nat.zero_le _, Nat.zero_le _⟩ dX7_rate_3 (fun H locs hW => ?_)
  refine lv_if_eq (tgt := 28) hx hb dX7_rate_6 (by decide) (fun c25 => ?_) (fun c25 => ?_)
  · have h := (if_pos c25).symm.trans h
    refine lv_iconst hx hb dX7_rate_28 qI_m1 ?_
    obtain rfl := Option.some.inj h
    exact g_iret X hW dX7_rate_29
  · have h := (if_neg c25).symm.trans h
    refine lv_iload_n hx hb dX7_rate_9 rfl (lv_at hl 2 rfl) ?_
    refine lv_iconst hx hb dX7_rate_10 qI_0 ?_
    refine lv_iload_n hx hb dX7_rate_11 rfl (lv_at hl 1 rfl) ?_
    refine lv_if_ne (tgt := 20) hx hb dX7_rate_12 (by decide) (fun c31 => ?_) (fun c31 => ?_)
    · have h := (if_neg c31).symm.trans h
      refine lv_bipush hx hb dX7_rate_20 qB_10 ?_
      exact tX7_rate_22 X v1 v2 v2 (0 : Int32) (10 : Int32) m_numbers h H locs hW ls hl
    · have h := (if_pos c31).symm.trans h
      refine lv_bipush hx hb dX7_rate_15 qB_50 ?_
      refine lv_goto (tgt := 22) hx hb dX7_rate_17 (by decide) ?_
      exact tX7_rate_22 X v1 v2 v2 (0 : Int32) (50 : Int32) m_numbers h H locs hW ls hl
theorem kcX7_rate {l : Launch} (G : Gt) (a_mo a_mo_numbers a_mo_boxes a_mo_words a_mo_weeks a_mo_routes a_mo_turns a_mo_leave a_mo_leases a_mo_uses a_mo_arcFrom a_mo_arcTo a_mo_arcRoom a_mo_arcCost a_mo_far a_mo_by a_mo_best a_mo_tape a_mo_kept : Nat) (v1 : Int32) (v2 : Int32) (m_arcs : Int32) (m_tapeMany : Int32) (m_tokenKind : Int32) (m_tokenAt : Int32) (m_tokenEnd : Int32) (m_tokenValue : Int32) (m_fault : Int32) (m_seen : Int32) (m_isKept : Int32) (m_place : Int32) (m_numbers : (Nat → Int32)) {r : Int32} {z_m_numbers : (Nat → Int32)} (h : fX7_rate v1 v2 m_numbers = some (r, z_m_numbers)) : CtI G l yX7_rate wsX7_rate rmX7_rate [.ref a_mo, .int v1, .int v2] (wX7_rate G a_mo a_mo_numbers a_mo_boxes a_mo_words a_mo_weeks a_mo_routes a_mo_turns a_mo_leave a_mo_leases a_mo_uses a_mo_arcFrom a_mo_arcTo a_mo_arcRoom a_mo_arcCost a_mo_far a_mo_by a_mo_best a_mo_tape a_mo_kept m_arcs m_tapeMany m_tokenKind m_tokenAt m_tokenEnd m_tokenValue m_fault m_seen m_isKept m_place m_numbers) r (wX7_rate G a_mo a_mo_numbers a_mo_boxes a_mo_words a_mo_weeks a_mo_routes a_mo_turns a_mo_leave a_mo_leases a_mo_uses a_mo_arcFrom a_mo_arcTo a_mo_arcRoom a_mo_arcCost a_mo_far a_mo_by a_mo_best a_mo_tape a_mo_kept m_arcs m_tapeMany m_tokenKind m_tokenAt m_tokenEnd m_tokenValue m_fault m_seen m_isKept m_place z_m_numbers) := k0X7_rate G a_mo a_mo_numbers a_mo_boxes a_mo_words a_mo_weeks a_mo_routes a_mo_turns a_mo_leave a_mo_leases a_mo_uses a_mo_arcFrom a_mo_arcTo a_mo_arcRoom a_mo_arcCost a_mo_far a_mo_by a_mo_best a_mo_tape a_mo_kept v1 v2 m_arcs m_tapeMany m_tokenKind m_tokenAt m_tokenEnd m_tokenValue m_fault m_seen m_isKept m_place m_numbers h
end MX7_rate
/-! EmptyBoxesModel.use -/
section MX7_use
theorem hdX7_use : yX7_use.cls = RX7 ∧ yX7_use.cls ≠ "java/lang/invoke/MethodHandle" ∧ yX7_use.cls ≠ "java/lang/invoke/VarHandle" ∧ (parseMethodDescriptor yX7_use.desc).map (fun d => d.parameters.length) = some 4 := by decide +kernel
abbrev wX7_use (G : Gt) (a_mo a_mo_numbers a_mo_boxes a_mo_uses a_mo_words a_mo_weeks a_mo_routes a_mo_turns a_mo_leave a_mo_leases a_mo_arcFrom a_mo_arcTo a_mo_arcRoom a_mo_arcCost a_mo_far a_mo_by a_mo_best a_mo_tape a_mo_kept : Nat) (m_arcs : Int32) (m_tapeMany : Int32) (m_tokenKind : Int32) (m_tokenAt : Int32) (m_tokenEnd : Int32) (m_tokenValue : Int32) (m_fault : Int32) (m_seen : Int32) (m_isKept : Int32) (m_place : Int32) (m_numbers : (Nat → Int32)) (m_boxes : (Nat → Int32)) (m_uses : (Nat → Int32)) : va_W := [(a_mo, .inr (7, [.ref a_mo_numbers, .ref a_mo_boxes, .ref a_mo_words, .ref a_mo_weeks, .ref a_mo_routes, .ref a_mo_turns, .ref a_mo_leave, .ref a_mo_leases, .ref a_mo_uses, .ref a_mo_arcFrom, .ref a_mo_arcTo, .ref a_mo_arcRoom, .ref a_mo_arcCost, .int m_arcs, .ref a_mo_far, .ref a_mo_by, .ref a_mo_best, .ref a_mo_tape, .int m_tapeMany, .int m_tokenKind, .int m_tokenAt, .int m_tokenEnd, .int m_tokenValue, .int m_fault, .int m_seen, .int m_isKept, .ref a_mo_kept, .int m_place])), (a_mo_numbers, .inl (G.2.1, 10, .inl m_numbers)), (a_mo_boxes, .inl (G.2.1, 216, .inl m_boxes)), (a_mo_uses, .inl (G.2.1, 240, .inl m_uses))]
abbrev rmX7_use : Room := { frames := 2, cells := 0, slots := 0, locals := 43 }
theorem iX7_use_X7 : ∀ w ∈ wsX70, w ∈ wsX7_use := by decide +kernel
theorem eX7_use_34 : Fk wsX7_use RX7 34 7 8 := ⟨RX7, TX7, 28, rfl, iX7_use_X7, by decide, by decide +kernel⟩
theorem eX7_use_7 : Fk wsX7_use RX7 7 7 0 := ⟨RX7, TX7, 28, rfl, iX7_use_X7, by decide, by decide +kernel⟩
theorem ckX7_use_X7_get_68 : CkV wsX7_use RX7 68 yX7_get wsX7_get cX7_get 3 (some .int) 2 7 := ⟨RX7, TX7, 28, _, rfl, gX7_use_X7_get, rfl, hdX7_get⟩
theorem ckX7_use_X7_isBox_84 : CkV wsX7_use RX7 84 yX7_isBox wsX7_isBox cX7_isBox 2 (some .boolean) 1 7 := ⟨RX7, TX7, 28, _, rfl, gX7_use_X7_isBox, rfl, hdX7_isBox⟩
theorem ckX7_use_X7_isLine_72 : CkS wsX7_use RX7 72 yX7_isLine wsX7_isLine cX7_isLine 1 (some .boolean) 1 := ⟨_, gX7_use_X7_isLine, rfl, hdX7_isLine.2⟩
theorem ckX7_use_X7_isPast_87 : CkV wsX7_use RX7 87 yX7_isPast wsX7_isPast cX7_isPast 2 (some .boolean) 1 7 := ⟨RX7, TX7, 28, _, rfl, gX7_use_X7_isPast, rfl, hdX7_isPast⟩
variable {p : Program} {l : Launch} {e : Env} {s : State} {m : MethodId} {args : Array Value} {below : List Frame} {meth : Method} {c : Code} {A : Nat → Prop} {G : Gt} {a_mo a_mo_numbers a_mo_boxes a_mo_uses a_mo_words a_mo_weeks a_mo_routes a_mo_turns a_mo_leave a_mo_leases a_mo_arcFrom a_mo_arcTo a_mo_arcRoom a_mo_arcCost a_mo_far a_mo_by a_mo_best a_mo_tape a_mo_kept : Nat} {m_arcs : Int32} {m_tapeMany : Int32} {m_tokenKind : Int32} {m_tokenAt : Int32} {m_tokenEnd : Int32} {m_tokenValue : Int32} {m_fault : Int32} {m_seen : Int32} {m_isKept : Int32} {m_place : Int32} {m_boxes : (Nat → Int32)} {res : Int32 × (Nat → Int32) × (Nat → Int32)}
set_option maxHeartbeats 4000000 in
set_option maxRecDepth 100000 in
theorem k0X7_use {l : Launch} (G : Gt) (a_mo a_mo_numbers a_mo_boxes a_mo_uses a_mo_words a_mo_weeks a_mo_routes a_mo_turns a_mo_leave a_mo_leases a_mo_arcFrom a_mo_arcTo a_mo_arcRoom a_mo_arcCost a_mo_far a_mo_by a_mo_best a_mo_tape a_mo_kept : Nat) (v1 : Int32) (v2 : Int32) (v3 : Int32) (v4 : Int32) (m_arcs : Int32) (m_tapeMany : Int32) (m_tokenKind : Int32) (m_tokenAt : Int32) (m_tokenEnd : Int32) (m_tokenValue : Int32) (m_fault : Int32) (m_seen : Int32) (m_isKept : Int32) (m_place : Int32) (m_numbers : (Nat → Int32)) (m_boxes : (Nat → Int32)) (m_uses : (Nat → Int32)) {res : Int32 × (Nat → Int32) × (Nat → Int32)} (h : fX7_use v1 v2 v3 v4 m_numbers m_boxes m_uses = some res) : CtI G l yX7_use wsX7_use rmX7_use [.ref a_mo, .int v1, .int v2, .int v3, .int v4] (wX7_use G a_mo a_mo_numbers a_mo_boxes a_mo_uses a_mo_words a_mo_weeks a_mo_routes a_mo_turns a_mo_leave a_mo_leases a_mo_arcFrom a_mo_arcTo a_mo_arcRoom a_mo_arcCost a_mo_far a_mo_by a_mo_best a_mo_tape a_mo_kept m_arcs m_tapeMany m_tokenKind m_tokenAt m_tokenEnd m_tokenValue m_fault m_seen m_isKept m_place m_numbers m_boxes m_uses) res.1 (wX7_use G a_mo a_mo_numbers a_mo_boxes a_mo_uses a_mo_words a_mo_weeks a_mo_routes a_mo_turns a_mo_leave a_mo_leases a_mo_arcFrom a_mo_arcTo a_mo_arcRoom a_mo_arcCost a_mo_far a_mo_by a_mo_best a_mo_tape a_mo_kept m_arcs m_tapeMany m_tokenKind m_tokenAt m_tokenEnd m_tokenValue m_fault m_seen m_isKept m_place res.2.1 m_boxes res.2.2) := by
  refine CtI.mk (cc := cX7_use) (maxL := 6) (ret := (some .int)) (own := RX7) (by decide) rfl rfl (Nat.le_of_ble_eq_true rfl) ?_
  intro p e s m below meth c A X ls hl hW
  obtain ⟨hx, hb, -⟩ := id X.1
  have hl : lv_has ls 6 [(0, .ref a_mo), (1, .int v1), (2, .int v2), (3, .int v3), (4, .int v4)] := hl
  generalize hH : s.heap = H at hW ⊢
  generalize hLo : ([] : List Loc) = locs at hW ⊢
  rw [fX7_use] at h
  refine lv_aload_n hx hb dX7_use_0 rfl (lv_at hl 0 rfl) ?_
  refine lv_iload_n hx hb dX7_use_1 rfl (lv_at hl 1 rfl) ?_
  obtain ⟨r3, hq, h⟩ := bn1_some h
  refine g_cvi X hW (As := [.int v1]) (ws' := (wX7_use G a_mo a_mo_numbers a_mo_boxes a_mo_uses a_mo_words a_mo_weeks a_mo_routes a_mo_turns a_mo_leave a_mo_leases a_mo_arcFrom a_mo_arcTo a_mo_arcRoom a_mo_arcCost a_mo_far a_mo_by a_mo_best a_mo_tape a_mo_kept m_arcs m_tapeMany m_tokenKind m_tokenAt m_tokenEnd m_tokenValue m_fault m_seen m_isKept m_place m_numbers m_boxes m_uses)) ckX7_use_X7_isBox_84 (kcX7_isBox (l := l) G a_mo a_mo_numbers a_mo_boxes a_mo_words a_mo_weeks a_mo_routes a_mo_turns a_mo_leave a_mo_leases a_mo_uses a_mo_arcFrom a_mo_arcTo a_mo_arcRoom a_mo_arcCost a_mo_far a_mo_by a_mo_best a_mo_tape a_mo_kept v1 m_arcs m_tapeMany m_tokenKind m_tokenAt m_tokenEnd m_tokenValue m_fault m_seen m_isKept m_place m_numbers hq) ⟨rfl, rfl, Nat.le_of_ble_eq_true rfl, Nat.le_of_ble_eq_true rfl⟩ [0, 1] rfl rfl rfl rfl rfl rfl rfl hl.1 (Nat.le_of_ble_eq_true rfl) ⟨Nat.zero_le _, Nat.zero_le _⟩ dX7_use_2 (fun H locs hW => ?_)
  refine lv_if_eq (tgt := 38) hx hb dX7_use_5 (by decide) (fun c4 => ?_) (fun c4 => ?_)
  · have h := (if_pos c4).symm.trans h
    refine lv_iconst hx hb dX7_use_38 qI_m1 ?_
    obtain rfl := Option.some.inj h
    exact g_iret X hW dX7_use_39
  · have h := (if_neg c4).symm.trans h
    refine lv_iload_n hx hb dX7_use_8 rfl (lv_at hl 2 rfl) ?_
    obtain ⟨r8, hq, h⟩ := bn1_some h
    refine g_csi X hW (As := [.int v2]) (ws' := (wX7_use G a_mo a_mo_numbers a_mo_boxes a_mo_uses a_mo_words a_mo_weeks a_mo_routes a_mo_turns a_mo_leave a_mo_leases a_mo_arcFrom a_mo_arcTo a_mo_arcRoom a_mo_arcCost a_mo_far a_mo_by a_mo_best a_mo_tape a_mo_kept m_arcs m_tapeMany m_tokenKind m_tokenAt m_tokenEnd m_tokenValue m_fault m_seen m_isKept m_place m_numbers m_boxes m_uses)) ckX7_use_X7_isLine_72 (kcX7_isLine (l := l) G v2 hq) ⟨rfl, rfl, Nat.le_of_ble_eq_true rfl, Nat.le_of_ble_eq_true rfl⟩ [] rfl rfl rfl rfl rfl rfl hl.1 (Nat.le_of_ble_eq_true rfl) ⟨Nat.zero_le _, Nat.zero_le _⟩ dX7_use_9 (fun H locs hW => ?_)
    refine lv_if_eq (tgt := 38) hx hb dX7_use_12 (by decide) (fun c9 => ?_) (fun c9 => ?_)
    · have h := (if_pos c9).symm.trans h
      refine lv_iconst hx hb dX7_use_38 qI_m1 ?_
      obtain rfl := Option.some.inj h
      exact g_iret X hW dX7_use_39
    · have h := (if_neg c9).symm.trans h
      refine lv_aload_n hx hb dX7_use_15 rfl (lv_at hl 0 rfl) ?_
      refine lv_iload_n hx hb dX7_use_16 rfl (lv_at hl 3 rfl) ?_
      obtain ⟨r14, hq, h⟩ := bn1_some h
      refine g_cvi X hW (As := [.int v3]) (ws' := (wX7_use G a_mo a_mo_numbers a_mo_boxes a_mo_uses a_mo_words a_mo_weeks a_mo_routes a_mo_turns a_mo_leave a_mo_leases a_mo_arcFrom a_mo_arcTo a_mo_arcRoom a_mo_arcCost a_mo_far a_mo_by a_mo_best a_mo_tape a_mo_kept m_arcs m_tapeMany m_tokenKind m_tokenAt m_tokenEnd m_tokenValue m_fault m_seen m_isKept m_place m_numbers m_boxes m_uses)) ckX7_use_X7_isPast_87 (kcX7_isPast (l := l) G a_mo a_mo_numbers a_mo_boxes a_mo_words a_mo_weeks a_mo_routes a_mo_turns a_mo_leave a_mo_leases a_mo_uses a_mo_arcFrom a_mo_arcTo a_mo_arcRoom a_mo_arcCost a_mo_far a_mo_by a_mo_best a_mo_tape a_mo_kept v3 m_arcs m_tapeMany m_tokenKind m_tokenAt m_tokenEnd m_tokenValue m_fault m_seen m_isKept m_place m_numbers hq) ⟨rfl, rfl, Nat.le_of_ble_eq_true rfl, Nat.le_of_ble_eq_true rfl⟩ [0, 1] rfl rfl rfl rfl rfl rfl rfl hl.1 (Nat.le_of_ble_eq_true rfl) ⟨Nat.zero_le _, Nat.zero_le _⟩ dX7_use_17 (fun H locs hW => ?_)
      refine lv_if_eq (tgt := 38) hx hb dX7_use_20 (by decide) (fun c15 => ?_) (fun c15 => ?_)
      · have h := (if_pos c15).symm.trans h
        refine lv_iconst hx hb dX7_use_38 qI_m1 ?_
        obtain rfl := Option.some.inj h
        exact g_iret X hW dX7_use_39
      · have h := (if_neg c15).symm.trans h
        refine lv_aload_n hx hb dX7_use_23 rfl (lv_at hl 0 rfl) ?_
        refine lv_iload hx hb dX7_use_24 (lv_at hl 4 rfl) ?_
        obtain ⟨r20, hq, h⟩ := bn1_some h
        refine g_cvi X hW (As := [.int v4]) (ws' := (wX7_use G a_mo a_mo_numbers a_mo_boxes a_mo_uses a_mo_words a_mo_weeks a_mo_routes a_mo_turns a_mo_leave a_mo_leases a_mo_arcFrom a_mo_arcTo a_mo_arcRoom a_mo_arcCost a_mo_far a_mo_by a_mo_best a_mo_tape a_mo_kept m_arcs m_tapeMany m_tokenKind m_tokenAt m_tokenEnd m_tokenValue m_fault m_seen m_isKept m_place m_numbers m_boxes m_uses)) ckX7_use_X7_isPast_87 (kcX7_isPast (l := l) G a_mo a_mo_numbers a_mo_boxes a_mo_words a_mo_weeks a_mo_routes a_mo_turns a_mo_leave a_mo_leases a_mo_uses a_mo_arcFrom a_mo_arcTo a_mo_arcRoom a_mo_arcCost a_mo_far a_mo_by a_mo_best a_mo_tape a_mo_kept v4 m_arcs m_tapeMany m_tokenKind m_tokenAt m_tokenEnd m_tokenValue m_fault m_seen m_isKept m_place m_numbers hq) ⟨rfl, rfl, Nat.le_of_ble_eq_true rfl, Nat.le_of_ble_eq_true rfl⟩ [0, 1] rfl rfl rfl rfl rfl rfl rfl hl.1 (Nat.le_of_ble_eq_true rfl) ⟨Nat.zero_le _, Nat.zero_le _⟩ dX7_use_26 (fun H locs hW => ?_)
        refine lv_if_eq (tgt := 38) hx hb dX7_use_29 (by decide) (fun c21 => ?_) (fun c21 => ?_)
        · have h := (if_pos c21).symm.trans h
          refine lv_iconst hx hb dX7_use_38 qI_m1 ?_
          obtain rfl := Option.some.inj h
          exact g_iret X hW dX7_use_39
        · have h := (if_neg c21).symm.trans h
          refine lv_iload hx hb dX7_use_32 (lv_at hl 4 rfl) ?_
          refine lv_iload_n hx hb dX7_use_34 rfl (lv_at hl 3 rfl) ?_
          refine lv_icmp_ge (tgt := 40) hx hb dX7_use_35 (by decide) (fun c26 => ?_) (fun c26 => ?_)
          · have h := (if_pos c26).symm.trans h
            refine lv_aload_n hx hb dX7_use_40 rfl (lv_at hl 0 rfl) ?_
            refine lv_iload_n hx hb dX7_use_41 rfl (lv_at hl 1 rfl) ?_
            refine lv_iconst hx hb dX7_use_42 qI_2 ?_
            obtain ⟨r30, hq, h⟩ := bn1_some h
            refine g_cvi X hW (As := [.int v1, .int (2 : Int32)]) (ws' := (wX7_use G a_mo a_mo_numbers a_mo_boxes a_mo_uses a_mo_words a_mo_weeks a_mo_routes a_mo_turns a_mo_leave a_mo_leases a_mo_arcFrom a_mo_arcTo a_mo_arcRoom a_mo_arcCost a_mo_far a_mo_by a_mo_best a_mo_tape a_mo_kept m_arcs m_tapeMany m_tokenKind m_tokenAt m_tokenEnd m_tokenValue m_fault m_seen m_isKept m_place m_numbers m_boxes m_uses)) ckX7_use_X7_get_68 (kcX7_get (l := l) G a_mo a_mo_boxes a_mo_numbers a_mo_words a_mo_weeks a_mo_routes a_mo_turns a_mo_leave a_mo_leases a_mo_uses a_mo_arcFrom a_mo_arcTo a_mo_arcRoom a_mo_arcCost a_mo_far a_mo_by a_mo_best a_mo_tape a_mo_kept v1 (2 : Int32) m_arcs m_tapeMany m_tokenKind m_tokenAt m_tokenEnd m_tokenValue m_fault m_seen m_isKept m_place m_boxes hq) ⟨rfl, rfl, Nat.le_of_ble_eq_true rfl, Nat.le_of_ble_eq_true rfl⟩ [0, 2] rfl rfl rfl rfl rfl rfl rfl hl.1 (Nat.le_of_ble_eq_true rfl) ⟨Nat.zero_le _, Nat.zero_le _⟩ dX7_use_43 (fun H locs hW => ?_)
            refine lv_iload_n hx hb dX7_use_46 rfl (lv_at hl 2 rfl) ?_
            refine lv_icmp_ne (tgt := 53) hx hb dX7_use_47 (by decide) (fun c32 => ?_) (fun c32 => ?_)
            · have h := (if_neg c32).symm.trans h
              refine lv_aload_n hx hb dX7_use_53 rfl (lv_at hl 0 rfl) ?_
              refine g_get X hW eX7_use_7 0 rfl rfl dX7_use_54 ?_
              refine lv_bipush hx hb dX7_use_57 qB_6 ?_
              obtain ⟨g36, h⟩ := gd_some h
              refine g_ald X hW 1 rfl g36 dX7_use_59 ?_
              refine lv_bipush hx hb dX7_use_60 qB_40 ?_
              refine lv_icmp_ne (tgt := 68) hx hb dX7_use_62 (by decide) (fun c38 => ?_) (fun c38 => ?_)
              · have h := (if_neg c38).symm.trans h
                refine lv_bipush hx hb dX7_use_68 qB_6 ?_
                refine lv_aload_n hx hb dX7_use_70 rfl (lv_at hl 0 rfl) ?_
                refine g_get X hW eX7_use_7 0 rfl rfl dX7_use_71 ?_
                refine lv_bipush hx hb dX7_use_74 qB_6 ?_
                obtain ⟨g43, h⟩ := gd_some h
                refine g_ald X hW 1 rfl g43 dX7_use_76 ?_
                refine lv_imul hx hb dX7_use_77 ?_
                refine lv_istore (lv' := [(5, .int ((6 : Int32) * (m_numbers (6 : Int32).toNatClampNeg))), (0, .ref a_mo), (1, .int v1), (2, .int v2), (3, .int v3), (4, .int v4)]) hx hb dX7_use_78 hl (by decide) rfl (fun ls hl => ?_)
                refine lv_aload_n hx hb dX7_use_80 rfl (lv_at hl 1 rfl) ?_
                refine g_get X hW eX7_use_34 0 rfl rfl dX7_use_81 ?_
                refine lv_iload hx hb dX7_use_84 (lv_at hl 0 rfl) ?_
                refine lv_iload_n hx hb dX7_use_86 rfl (lv_at hl 2 rfl) ?_
                obtain ⟨g50, h⟩ := gd_some h
                refine g_ast X hW (ws' := (wX7_use G a_mo a_mo_numbers a_mo_boxes a_mo_uses a_mo_words a_mo_weeks a_mo_routes a_mo_turns a_mo_leave a_mo_leases a_mo_arcFrom a_mo_arcTo a_mo_arcRoom a_mo_arcCost a_mo_far a_mo_by a_mo_best a_mo_tape a_mo_kept m_arcs m_tapeMany m_tokenKind m_tokenAt m_tokenEnd m_tokenValue m_fault m_seen m_isKept m_place m_numbers m_boxes (upd m_uses ((6 : Int32) * (m_numbers (6 : Int32).toNatClampNeg)).toNatClampNeg v1))) 3 rfl g50 rfl dX7_use_87 (fun H locs hW => ?_)
                refine lv_aload_n hx hb dX7_use_88 rfl (lv_at hl 1 rfl) ?_
                refine g_get X hW eX7_use_34 0 rfl rfl dX7_use_89 ?_
                refine lv_iload hx hb dX7_use_92 (lv_at hl 0 rfl) ?_
                refine lv_iconst hx hb dX7_use_94 qI_1 ?_
                refine lv_iadd hx hb dX7_use_95 ?_
                refine lv_iload_n hx hb dX7_use_96 rfl (lv_at hl 3 rfl) ?_
                obtain ⟨g57, h⟩ := gd_some h
                refine g_ast X hW (ws' := (wX7_use G a_mo a_mo_numbers a_mo_boxes a_mo_uses a_mo_words a_mo_weeks a_mo_routes a_mo_turns a_mo_leave a_mo_leases a_mo_arcFrom a_mo_arcTo a_mo_arcRoom a_mo_arcCost a_mo_far a_mo_by a_mo_best a_mo_tape a_mo_kept m_arcs m_tapeMany m_tokenKind m_tokenAt m_tokenEnd m_tokenValue m_fault m_seen m_isKept m_place m_numbers m_boxes (upd (upd m_uses ((6 : Int32) * (m_numbers (6 : Int32).toNatClampNeg)).toNatClampNeg v1) (((6 : Int32) * (m_numbers (6 : Int32).toNatClampNeg)) + (1 : Int32)).toNatClampNeg v2))) 3 rfl g57 rfl dX7_use_97 (fun H locs hW => ?_)
                refine lv_aload_n hx hb dX7_use_98 rfl (lv_at hl 1 rfl) ?_
                refine g_get X hW eX7_use_34 0 rfl rfl dX7_use_99 ?_
                refine lv_iload hx hb dX7_use_102 (lv_at hl 0 rfl) ?_
                refine lv_iconst hx hb dX7_use_104 qI_2 ?_
                refine lv_iadd hx hb dX7_use_105 ?_
                refine lv_iload_n hx hb dX7_use_106 rfl (lv_at hl 4 rfl) ?_
                obtain ⟨g64, h⟩ := gd_some h
                refine g_ast X hW (ws' := (wX7_use G a_mo a_mo_numbers a_mo_boxes a_mo_uses a_mo_words a_mo_weeks a_mo_routes a_mo_turns a_mo_leave a_mo_leases a_mo_arcFrom a_mo_arcTo a_mo_arcRoom a_mo_arcCost a_mo_far a_mo_by a_mo_best a_mo_tape a_mo_kept m_arcs m_tapeMany m_tokenKind m_tokenAt m_tokenEnd m_tokenValue m_fault m_seen m_isKept m_place m_numbers m_boxes (upd (upd (upd m_uses ((6 : Int32) * (m_numbers (6 : Int32).toNatClampNeg)).toNatClampNeg v1) (((6 : Int32) * (m_numbers (6 : Int32).toNatClampNeg)) + (1 : Int32)).toNatClampNeg v2) (((6 : Int32) * (m_numbers (6 : Int32).toNatClampNeg)) + (2 : Int32)).toNatClampNeg v3))) 3 rfl g64 rfl dX7_use_107 (fun H locs hW => ?_)
                refine lv_aload_n hx hb dX7_use_108 rfl (lv_at hl 1 rfl) ?_
                refine g_get X hW eX7_use_34 0 rfl rfl dX7_use_109 ?_
                refine lv_iload hx hb dX7_use_112 (lv_at hl 0 rfl) ?_
                refine lv_iconst hx hb dX7_use_114 qI_3 ?_
                refine lv_iadd hx hb dX7_use_115 ?_
                refine lv_iload hx hb dX7_use_116 (lv_at hl 5 rfl) ?_
                obtain ⟨g71, h⟩ := gd_some h
                refine g_ast X hW (ws' := (wX7_use G a_mo a_mo_numbers a_mo_boxes a_mo_uses a_mo_words a_mo_weeks a_mo_routes a_mo_turns a_mo_leave a_mo_leases a_mo_arcFrom a_mo_arcTo a_mo_arcRoom a_mo_arcCost a_mo_far a_mo_by a_mo_best a_mo_tape a_mo_kept m_arcs m_tapeMany m_tokenKind m_tokenAt m_tokenEnd m_tokenValue m_fault m_seen m_isKept m_place m_numbers m_boxes (upd (upd (upd (upd m_uses ((6 : Int32) * (m_numbers (6 : Int32).toNatClampNeg)).toNatClampNeg v1) (((6 : Int32) * (m_numbers (6 : Int32).toNatClampNeg)) + (1 : Int32)).toNatClampNeg v2) (((6 : Int32) * (m_numbers (6 : Int32).toNatClampNeg)) + (2 : Int32)).toNatClampNeg v3) (((6 : Int32) * (m_numbers (6 : Int32).toNatClampNeg)) + (3 : Int32)).toNatClampNeg v4))) 3 rfl g71 rfl dX7_use_118 (fun H locs hW => ?_)
                refine lv_aload_n hx hb dX7_use_119 rfl (lv_at hl 1 rfl) ?_
                refine g_get X hW eX7_use_34 0 rfl rfl dX7_use_120 ?_
                refine lv_iload hx hb dX7_use_123 (lv_at hl 0 rfl) ?_
                refine lv_iconst hx hb dX7_use_125 qI_4 ?_
                refine lv_iadd hx hb dX7_use_126 ?_
                refine lv_aload_n hx hb dX7_use_127 rfl (lv_at hl 1 rfl) ?_
                refine g_get X hW eX7_use_7 0 rfl rfl dX7_use_128 ?_
                refine lv_iconst hx hb dX7_use_131 qI_0 ?_
                obtain ⟨g80, h⟩ := gd_some h
                refine g_ald X hW 1 rfl g80 dX7_use_132 ?_
                obtain ⟨g81, h⟩ := gd_some h
                refine g_ast X hW (ws' := (wX7_use G a_mo a_mo_numbers a_mo_boxes a_mo_uses a_mo_words a_mo_weeks a_mo_routes a_mo_turns a_mo_leave a_mo_leases a_mo_arcFrom a_mo_arcTo a_mo_arcRoom a_mo_arcCost a_mo_far a_mo_by a_mo_best a_mo_tape a_mo_kept m_arcs m_tapeMany m_tokenKind m_tokenAt m_tokenEnd m_tokenValue m_fault m_seen m_isKept m_place m_numbers m_boxes (upd (upd (upd (upd (upd m_uses ((6 : Int32) * (m_numbers (6 : Int32).toNatClampNeg)).toNatClampNeg v1) (((6 : Int32) * (m_numbers (6 : Int32).toNatClampNeg)) + (1 : Int32)).toNatClampNeg v2) (((6 : Int32) * (m_numbers (6 : Int32).toNatClampNeg)) + (2 : Int32)).toNatClampNeg v3) (((6 : Int32) * (m_numbers (6 : Int32).toNatClampNeg)) + (3 : Int32)).toNatClampNeg v4) (((6 : Int32) * (m_numbers (6 : Int32).toNatClampNeg)) + (4 : Int32)).toNatClampNeg (m_numbers (0 : Int32).toNatClampNeg)))) 3 rfl g81 rfl dX7_use_133 (fun H locs hW => ?_)
                refine lv_aload_n hx hb dX7_use_134 rfl (lv_at hl 1 rfl) ?_
                refine g_get X hW eX7_use_34 0 rfl rfl dX7_use_135 ?_
                refine lv_iload hx hb dX7_use_138 (lv_at hl 0 rfl) ?_
                refine lv_iconst hx hb dX7_use_140 qI_5 ?_
                refine lv_iadd hx hb dX7_use_141 ?_
                refine lv_iconst hx hb dX7_use_142 qI_m1 ?_
                obtain ⟨g88, h⟩ := gd_some h
                refine g_ast X hW (ws' := (wX7_use G a_mo a_mo_numbers a_mo_boxes a_mo_uses a_mo_words a_mo_weeks a_mo_routes a_mo_turns a_mo_leave a_mo_leases a_mo_arcFrom a_mo_arcTo a_mo_arcRoom a_mo_arcCost a_mo_far a_mo_by a_mo_best a_mo_tape a_mo_kept m_arcs m_tapeMany m_tokenKind m_tokenAt m_tokenEnd m_tokenValue m_fault m_seen m_isKept m_place m_numbers m_boxes (upd (upd (upd (upd (upd (upd m_uses ((6 : Int32) * (m_numbers (6 : Int32).toNatClampNeg)).toNatClampNeg v1) (((6 : Int32) * (m_numbers (6 : Int32).toNatClampNeg)) + (1 : Int32)).toNatClampNeg v2) (((6 : Int32) * (m_numbers (6 : Int32).toNatClampNeg)) + (2 : Int32)).toNatClampNeg v3) (((6 : Int32) * (m_numbers (6 : Int32).toNatClampNeg)) + (3 : Int32)).toNatClampNeg v4) (((6 : Int32) * (m_numbers (6 : Int32).toNatClampNeg)) + (4 : Int32)).toNatClampNeg (m_numbers (0 : Int32).toNatClampNeg)) (((6 : Int32) * (m_numbers (6 : Int32).toNatClampNeg)) + (5 : Int32)).toNatClampNeg (-1 : Int32)))) 3 rfl g88 rfl dX7_use_143 (fun H locs hW => ?_)
                refine lv_aload_n hx hb dX7_use_144 rfl (lv_at hl 1 rfl) ?_
                refine g_get X hW eX7_use_7 0 rfl rfl dX7_use_145 ?_
                refine lv_bipush hx hb dX7_use_148 qB_6 ?_
                refine lv_dup2_11 hx hb dX7_use_150 rfl rfl ?_
                obtain ⟨g93, h⟩ := gd_some h
                refine g_ald X hW 1 rfl g93 dX7_use_151 ?_
                refine lv_iconst hx hb dX7_use_152 qI_1 ?_
                refine lv_iadd hx hb dX7_use_153 ?_
                obtain ⟨g96, h⟩ := gd_some h
                refine g_ast X hW (ws' := (wX7_use G a_mo a_mo_numbers a_mo_boxes a_mo_uses a_mo_words a_mo_weeks a_mo_routes a_mo_turns a_mo_leave a_mo_leases a_mo_arcFrom a_mo_arcTo a_mo_arcRoom a_mo_arcCost a_mo_far a_mo_by a_mo_best a_mo_tape a_mo_kept m_arcs m_tapeMany m_tokenKind m_tokenAt m_tokenEnd m_tokenValue m_fault m_seen m_isKept m_place (upd m_numbers (6 : Int32).toNatClampNeg ((m_numbers (6 : Int32).toNatClampNeg) + (1 : Int32))) m_boxes (upd (upd (upd (upd (upd (upd m_uses ((6 : Int32) * (m_numbers (6 : Int32).toNatClampNeg)).toNatClampNeg v1) (((6 : Int32) * (m_numbers (6 : Int32).toNatClampNeg)) + (1 : Int32)).toNatClampNeg v2) (((6 : Int32) * (m_numbers (6 : Int32).toNatClampNeg)) + (2 : Int32)).toNatClampNeg v3) (((6 : Int32) * (m_numbers (6 : Int32).toNatClampNeg)) + (3 : Int32)).toNatClampNeg v4) (((6 : Int32) * (m_numbers (6 : Int32).toNatClampNeg)) + (4 : Int32)).toNatClampNeg (m_numbers (0 : Int32).toNatClampNeg)) (((6 : Int32) * (m_numbers (6 : Int32).toNatClampNeg)) + (5 : Int32)).toNatClampNeg (-1 : Int32)))) 1 rfl g96 rfl dX7_use_154 (fun H locs hW => ?_)
                refine lv_aload_n hx hb dX7_use_155 rfl (lv_at hl 1 rfl) ?_
                refine g_get X hW eX7_use_7 0 rfl rfl dX7_use_156 ?_
                refine lv_bipush hx hb dX7_use_159 qB_6 ?_
                obtain ⟨g100, h⟩ := gd_some h
                refine g_ald X hW 1 rfl g100 dX7_use_161 ?_
                refine lv_iconst hx hb dX7_use_162 qI_1 ?_
                refine lv_isub hx hb dX7_use_163 ?_
                obtain rfl := Option.some.inj h
                exact g_iret X hW dX7_use_164
              · have h := (if_pos c38).symm.trans h
                refine lv_bipush hx hb dX7_use_65 qB_m2 ?_
                obtain rfl := Option.some.inj h
                exact g_iret X hW dX7_use_67
            · have h := (if_pos c32).symm.trans h
              refine lv_bipush hx hb dX7_use_50 qB_m4 ?_
              obtain rfl := Option.some.inj h
              exact g_iret X hW dX7_use_52
          · have h := (if_neg c26).symm.trans h
            refine lv_iconst hx hb dX7_use_38 qI_m1 ?_
            obtain rfl := Option.some.inj h
            exact g_iret X hW dX7_use_39
theorem kcX7_use {l : Launch} (G : Gt) (a_mo a_mo_numbers a_mo_boxes a_mo_uses a_mo_words a_mo_weeks a_mo_routes a_mo_turns a_mo_leave a_mo_leases a_mo_arcFrom a_mo_arcTo a_mo_arcRoom a_mo_arcCost a_mo_far a_mo_by a_mo_best a_mo_tape a_mo_kept : Nat) (v1 : Int32) (v2 : Int32) (v3 : Int32) (v4 : Int32) (m_arcs : Int32) (m_tapeMany : Int32) (m_tokenKind : Int32) (m_tokenAt : Int32) (m_tokenEnd : Int32) (m_tokenValue : Int32) (m_fault : Int32) (m_seen : Int32) (m_isKept : Int32) (m_place : Int32) (m_numbers : (Nat → Int32)) (m_boxes : (Nat → Int32)) (m_uses : (Nat → Int32)) {r : Int32} {z_m_numbers : (Nat → Int32)} {z_m_uses : (Nat → Int32)} (h : fX7_use v1 v2 v3 v4 m_numbers m_boxes m_uses = some (r, z_m_numbers, z_m_uses)) : CtI G l yX7_use wsX7_use rmX7_use [.ref a_mo, .int v1, .int v2, .int v3, .int v4] (wX7_use G a_mo a_mo_numbers a_mo_boxes a_mo_uses a_mo_words a_mo_weeks a_mo_routes a_mo_turns a_mo_leave a_mo_leases a_mo_arcFrom a_mo_arcTo a_mo_arcRoom a_mo_arcCost a_mo_far a_mo_by a_mo_best a_mo_tape a_mo_kept m_arcs m_tapeMany m_tokenKind m_tokenAt m_tokenEnd m_tokenValue m_fault m_seen m_isKept m_place m_numbers m_boxes m_uses) r (wX7_use G a_mo a_mo_numbers a_mo_boxes a_mo_uses a_mo_words a_mo_weeks a_mo_routes a_mo_turns a_mo_leave a_mo_leases a_mo_arcFrom a_mo_arcTo a_mo_arcRoom a_mo_arcCost a_mo_far a_mo_by a_mo_best a_mo_tape a_mo_kept m_arcs m_tapeMany m_tokenKind m_tokenAt m_tokenEnd m_tokenValue m_fault m_seen m_isKept m_place z_m_numbers m_boxes z_m_uses) := k0X7_use G a_mo a_mo_numbers a_mo_boxes a_mo_uses a_mo_words a_mo_weeks a_mo_routes a_mo_turns a_mo_leave a_mo_leases a_mo_arcFrom a_mo_arcTo a_mo_arcRoom a_mo_arcCost a_mo_far a_mo_by a_mo_best a_mo_tape a_mo_kept v1 v2 v3 v4 m_arcs m_tapeMany m_tokenKind m_tokenAt m_tokenEnd m_tokenValue m_fault m_seen m_isKept m_place m_numbers m_boxes m_uses h
end MX7_use
/-! EmptyBoxesModel.worthOf -/
section MX7_worthOf
theorem hdX7_worthOf : yX7_worthOf.cls = RX7 ∧ yX7_worthOf.cls ≠ "java/lang/invoke/MethodHandle" ∧ yX7_worthOf.cls ≠ "java/lang/invoke/VarHandle" ∧ (parseMethodDescriptor yX7_worthOf.desc).map (fun d => d.parameters.length) = some 1 := by decide +kernel
abbrev wX7_worthOf (G : Gt) (a_mo a_mo_numbers a_mo_uses a_mo_boxes a_mo_words a_mo_weeks a_mo_routes a_mo_turns a_mo_leave a_mo_leases a_mo_arcFrom a_mo_arcTo a_mo_arcRoom a_mo_arcCost a_mo_far a_mo_by a_mo_best a_mo_tape a_mo_kept : Nat) (m_arcs : Int32) (m_tapeMany : Int32) (m_tokenKind : Int32) (m_tokenAt : Int32) (m_tokenEnd : Int32) (m_tokenValue : Int32) (m_fault : Int32) (m_seen : Int32) (m_isKept : Int32) (m_place : Int32) (m_numbers : (Nat → Int32)) (m_uses : (Nat → Int32)) : va_W := [(a_mo, .inr (7, [.ref a_mo_numbers, .ref a_mo_boxes, .ref a_mo_words, .ref a_mo_weeks, .ref a_mo_routes, .ref a_mo_turns, .ref a_mo_leave, .ref a_mo_leases, .ref a_mo_uses, .ref a_mo_arcFrom, .ref a_mo_arcTo, .ref a_mo_arcRoom, .ref a_mo_arcCost, .int m_arcs, .ref a_mo_far, .ref a_mo_by, .ref a_mo_best, .ref a_mo_tape, .int m_tapeMany, .int m_tokenKind, .int m_tokenAt, .int m_tokenEnd, .int m_tokenValue, .int m_fault, .int m_seen, .int m_isKept, .ref a_mo_kept, .int m_place])), (a_mo_numbers, .inl (G.2.1, 10, .inl m_numbers)), (a_mo_uses, .inl (G.2.1, 240, .inl m_uses))]
abbrev rmX7_worthOf : Room := { frames := 0, cells := 0, slots := 0, locals := 0 }
theorem iX7_worthOf_X7 : ∀ w ∈ wsX70, w ∈ wsX7_worthOf := by decide +kernel
theorem eX7_worthOf_34 : Fk wsX7_worthOf RX7 34 7 8 := ⟨RX7, TX7, 28, rfl, iX7_worthOf_X7, by decide, by decide +kernel⟩
theorem eX7_worthOf_7 : Fk wsX7_worthOf RX7 7 7 0 := ⟨RX7, TX7, 28, rfl, iX7_worthOf_X7, by decide, by decide +kernel⟩
variable {p : Program} {l : Launch} {e : Env} {s : State} {m : MethodId} {args : Array Value} {below : List Frame} {meth : Method} {c : Code} {A : Nat → Prop} {G : Gt} {a_mo a_mo_numbers a_mo_uses a_mo_boxes a_mo_words a_mo_weeks a_mo_routes a_mo_turns a_mo_leave a_mo_leases a_mo_arcFrom a_mo_arcTo a_mo_arcRoom a_mo_arcCost a_mo_far a_mo_by a_mo_best a_mo_tape a_mo_kept : Nat} {m_arcs : Int32} {m_tapeMany : Int32} {m_tokenKind : Int32} {m_tokenAt : Int32} {m_tokenEnd : Int32} {m_tokenValue : Int32} {m_fault : Int32} {m_seen : Int32} {m_isKept : Int32} {m_place : Int32} {m_numbers : (Nat → Int32)} {m_uses : (Nat → Int32)} {res : Int32}
set_option maxHeartbeats 4000000 in
set_option maxRecDepth 100000 in
theorem k0X7_worthOf {l : Launch} (G : Gt) (a_mo a_mo_numbers a_mo_uses a_mo_boxes a_mo_words a_mo_weeks a_mo_routes a_mo_turns a_mo_leave a_mo_leases a_mo_arcFrom a_mo_arcTo a_mo_arcRoom a_mo_arcCost a_mo_far a_mo_by a_mo_best a_mo_tape a_mo_kept : Nat) (v1 : Int32) (m_arcs : Int32) (m_tapeMany : Int32) (m_tokenKind : Int32) (m_tokenAt : Int32) (m_tokenEnd : Int32) (m_tokenValue : Int32) (m_fault : Int32) (m_seen : Int32) (m_isKept : Int32) (m_place : Int32) (m_numbers : (Nat → Int32)) (m_uses : (Nat → Int32)) {res : Int32} (h : fX7_worthOf v1 m_numbers m_uses = some res) : CtI G l yX7_worthOf wsX7_worthOf rmX7_worthOf [.ref a_mo, .int v1] (wX7_worthOf G a_mo a_mo_numbers a_mo_uses a_mo_boxes a_mo_words a_mo_weeks a_mo_routes a_mo_turns a_mo_leave a_mo_leases a_mo_arcFrom a_mo_arcTo a_mo_arcRoom a_mo_arcCost a_mo_far a_mo_by a_mo_best a_mo_tape a_mo_kept m_arcs m_tapeMany m_tokenKind m_tokenAt m_tokenEnd m_tokenValue m_fault m_seen m_isKept m_place m_numbers m_uses) res (wX7_worthOf G a_mo a_mo_numbers a_mo_uses a_mo_boxes a_mo_words a_mo_weeks a_mo_routes a_mo_turns a_mo_leave a_mo_leases a_mo_arcFrom a_mo_arcTo a_mo_arcRoom a_mo_arcCost a_mo_far a_mo_by a_mo_best a_mo_tape a_mo_kept m_arcs m_tapeMany m_tokenKind m_tokenAt m_tokenEnd m_tokenValue m_fault m_seen m_isKept m_place m_numbers m_uses) := by
  refine CtI.mk (cc := cX7_worthOf) (maxL := 3) (ret := (some .int)) (own := RX7) (by decide) rfl rfl (Nat.le_of_ble_eq_true rfl) ?_
  intro p e s m below meth c A X ls hl hW
  obtain ⟨hx, hb, -⟩ := id X.1
  have hl : lv_has ls 3 [(0, .ref a_mo), (1, .int v1)] := hl
  generalize hH : s.heap = H at hW ⊢
  generalize hLo : ([] : List Loc) = locs at hW ⊢
  rw [fX7_worthOf] at h
  refine lv_aload_n hx hb dX7_worthOf_0 rfl (lv_at hl 0 rfl) ?_
  refine g_get X hW eX7_worthOf_34 0 rfl rfl dX7_worthOf_1 ?_
  refine lv_bipush hx hb dX7_worthOf_4 qB_6 ?_
  refine lv_iload_n hx hb dX7_worthOf_6 rfl (lv_at hl 1 rfl) ?_
  refine lv_imul hx hb dX7_worthOf_7 ?_
  refine lv_iconst hx hb dX7_worthOf_8 qI_3 ?_
  refine lv_iadd hx hb dX7_worthOf_9 ?_
  obtain ⟨g8, h⟩ := gd_some h
  refine g_ald X hW 2 rfl g8 dX7_worthOf_10 ?_
  refine lv_aload_n hx hb dX7_worthOf_11 rfl (lv_at hl 0 rfl) ?_
  refine g_get X hW eX7_worthOf_34 0 rfl rfl dX7_worthOf_12 ?_
  refine lv_bipush hx hb dX7_worthOf_15 qB_6 ?_
  refine lv_iload_n hx hb dX7_worthOf_17 rfl (lv_at hl 1 rfl) ?_
  refine lv_imul hx hb dX7_worthOf_18 ?_
  refine lv_iconst hx hb dX7_worthOf_19 qI_2 ?_
  refine lv_iadd hx hb dX7_worthOf_20 ?_
  obtain ⟨g16, h⟩ := gd_some h
  refine g_ald X hW 2 rfl g16 dX7_worthOf_21 ?_
  refine lv_isub hx hb dX7_worthOf_22 ?_
  refine lv_iconst hx hb dX7_worthOf_23 qI_1 ?_
  refine lv_iadd hx hb dX7_worthOf_24 ?_
  refine lv_aload_n hx hb dX7_worthOf_25 rfl (lv_at hl 0 rfl) ?_
  refine g_get X hW eX7_worthOf_7 0 rfl rfl dX7_worthOf_26 ?_
  refine lv_bipush hx hb dX7_worthOf_29 qB_8 ?_
  obtain ⟨g23, h⟩ := gd_some h
  refine g_ald X hW 1 rfl g23 dX7_worthOf_31 ?_
  refine lv_isub hx hb dX7_worthOf_32 ?_
  refine lv_istore_n (lv' := [(2, .int ((((m_uses (((6 : Int32) * v1) + (3 : Int32)).toNatClampNeg) - (m_uses (((6 : Int32) * v1) + (2 : Int32)).toNatClampNeg)) + (1 : Int32)) - (m_numbers (8 : Int32).toNatClampNeg))), (0, .ref a_mo), (1, .int v1)]) hx hb dX7_worthOf_33 rfl hl (by decide) rfl (fun ls hl => ?_)
  refine lv_iload_n hx hb dX7_worthOf_34 rfl (lv_at hl 0 rfl) ?_
  refine lv_if_le (tgt := 50) hx hb dX7_worthOf_35 (by decide) (fun c27 => ?_) (fun c27 => ?_)
  · have h := (if_pos c27).symm.trans h
    refine lv_iconst hx hb dX7_worthOf_50 qI_0 ?_
    obtain rfl := Option.some.inj h
    exact g_iret X hW dX7_worthOf_51
  · have h := (if_neg c27).symm.trans h
    refine lv_iload_n hx hb dX7_worthOf_38 rfl (lv_at hl 0 rfl) ?_
    refine lv_aload_n hx hb dX7_worthOf_39 rfl (lv_at hl 1 rfl) ?_
    refine g_get X hW eX7_worthOf_7 0 rfl rfl dX7_worthOf_40 ?_
    refine lv_bipush hx hb dX7_worthOf_43 qB_7 ?_
    obtain ⟨g34, h⟩ := gd_some h
    refine g_ald X hW 1 rfl g34 dX7_worthOf_45 ?_
    refine lv_imul hx hb dX7_worthOf_46 ?_
    refine lv_goto (tgt := 51) hx hb dX7_worthOf_47 (by decide) ?_
    obtain rfl := Option.some.inj h
    exact g_iret X hW dX7_worthOf_51
theorem kcX7_worthOf {l : Launch} (G : Gt) (a_mo a_mo_numbers a_mo_uses a_mo_boxes a_mo_words a_mo_weeks a_mo_routes a_mo_turns a_mo_leave a_mo_leases a_mo_arcFrom a_mo_arcTo a_mo_arcRoom a_mo_arcCost a_mo_far a_mo_by a_mo_best a_mo_tape a_mo_kept : Nat) (v1 : Int32) (m_arcs : Int32) (m_tapeMany : Int32) (m_tokenKind : Int32) (m_tokenAt : Int32) (m_tokenEnd : Int32) (m_tokenValue : Int32) (m_fault : Int32) (m_seen : Int32) (m_isKept : Int32) (m_place : Int32) (m_numbers : (Nat → Int32)) (m_uses : (Nat → Int32)) {r : Int32}  (h : fX7_worthOf v1 m_numbers m_uses = some r) : CtI G l yX7_worthOf wsX7_worthOf rmX7_worthOf [.ref a_mo, .int v1] (wX7_worthOf G a_mo a_mo_numbers a_mo_uses a_mo_boxes a_mo_words a_mo_weeks a_mo_routes a_mo_turns a_mo_leave a_mo_leases a_mo_arcFrom a_mo_arcTo a_mo_arcRoom a_mo_arcCost a_mo_far a_mo_by a_mo_best a_mo_tape a_mo_kept m_arcs m_tapeMany m_tokenKind m_tokenAt m_tokenEnd m_tokenValue m_fault m_seen m_isKept m_place m_numbers m_uses) r (wX7_worthOf G a_mo a_mo_numbers a_mo_uses a_mo_boxes a_mo_words a_mo_weeks a_mo_routes a_mo_turns a_mo_leave a_mo_leases a_mo_arcFrom a_mo_arcTo a_mo_arcRoom a_mo_arcCost a_mo_far a_mo_by a_mo_best a_mo_tape a_mo_kept m_arcs m_tapeMany m_tokenKind m_tokenAt m_tokenEnd m_tokenValue m_fault m_seen m_isKept m_place m_numbers m_uses) := k0X7_worthOf G a_mo a_mo_numbers a_mo_uses a_mo_boxes a_mo_words a_mo_weeks a_mo_routes a_mo_turns a_mo_leave a_mo_leases a_mo_arcFrom a_mo_arcTo a_mo_arcRoom a_mo_arcCost a_mo_far a_mo_by a_mo_best a_mo_tape a_mo_kept v1 m_arcs m_tapeMany m_tokenKind m_tokenAt m_tokenEnd m_tokenValue m_fault m_seen m_isKept m_place m_numbers m_uses h
end MX7_worthOf
/-! EmptyBoxesModel.strike -/
section MX7_strike
theorem hdX7_strike : yX7_strike.cls = RX7 ∧ yX7_strike.cls ≠ "java/lang/invoke/MethodHandle" ∧ yX7_strike.cls ≠ "java/lang/invoke/VarHandle" ∧ (parseMethodDescriptor yX7_strike.desc).map (fun d => d.parameters.length) = some 1 := by decide +kernel
abbrev wX7_strike (G : Gt) (a_mo a_mo_numbers a_mo_uses a_mo_boxes a_mo_words a_mo_weeks a_mo_routes a_mo_turns a_mo_leave a_mo_leases a_mo_arcFrom a_mo_arcTo a_mo_arcRoom a_mo_arcCost a_mo_far a_mo_by a_mo_best a_mo_tape a_mo_kept : Nat) (m_arcs : Int32) (m_tapeMany : Int32) (m_tokenKind : Int32) (m_tokenAt : Int32) (m_tokenEnd : Int32) (m_tokenValue : Int32) (m_fault : Int32) (m_seen : Int32) (m_isKept : Int32) (m_place : Int32) (m_numbers : (Nat → Int32)) (m_uses : (Nat → Int32)) : va_W := [(a_mo, .inr (7, [.ref a_mo_numbers, .ref a_mo_boxes, .ref a_mo_words, .ref a_mo_weeks, .ref a_mo_routes, .ref a_mo_turns, .ref a_mo_leave, .ref a_mo_leases, .ref a_mo_uses, .ref a_mo_arcFrom, .ref a_mo_arcTo, .ref a_mo_arcRoom, .ref a_mo_arcCost, .int m_arcs, .ref a_mo_far, .ref a_mo_by, .ref a_mo_best, .ref a_mo_tape, .int m_tapeMany, .int m_tokenKind, .int m_tokenAt, .int m_tokenEnd, .int m_tokenValue, .int m_fault, .int m_seen, .int m_isKept, .ref a_mo_kept, .int m_place])), (a_mo_numbers, .inl (G.2.1, 10, .inl m_numbers)), (a_mo_uses, .inl (G.2.1, 240, .inl m_uses))]
abbrev rmX7_strike : Room := { frames := 1, cells := 0, slots := 0, locals := 22 }
theorem iX7_strike_X7 : ∀ w ∈ wsX70, w ∈ wsX7_strike := by decide +kernel
theorem eX7_strike_34 : Fk wsX7_strike RX7 34 7 8 := ⟨RX7, TX7, 28, rfl, iX7_strike_X7, by decide, by decide +kernel⟩
theorem eX7_strike_7 : Fk wsX7_strike RX7 7 7 0 := ⟨RX7, TX7, 28, rfl, iX7_strike_X7, by decide, by decide +kernel⟩
theorem ckX7_strike_X7_in_64 : CkS wsX7_strike RX7 64 yX7_in wsX7_in cX7_in 3 (some .boolean) 3 := ⟨_, gX7_strike_X7_in, rfl, hdX7_in.2⟩
theorem ckX7_strike_X7_worthOf_199 : CkV wsX7_strike RX7 199 yX7_worthOf wsX7_worthOf cX7_worthOf 3 (some .int) 1 7 := ⟨RX7, TX7, 28, _, rfl, gX7_strike_X7_worthOf, rfl, hdX7_worthOf⟩
variable {p : Program} {l : Launch} {e : Env} {s : State} {m : MethodId} {args : Array Value} {below : List Frame} {meth : Method} {c : Code} {A : Nat → Prop} {G : Gt} {a_mo a_mo_numbers a_mo_uses a_mo_boxes a_mo_words a_mo_weeks a_mo_routes a_mo_turns a_mo_leave a_mo_leases a_mo_arcFrom a_mo_arcTo a_mo_arcRoom a_mo_arcCost a_mo_far a_mo_by a_mo_best a_mo_tape a_mo_kept : Nat} {m_arcs : Int32} {m_tapeMany : Int32} {m_tokenKind : Int32} {m_tokenAt : Int32} {m_tokenEnd : Int32} {m_tokenValue : Int32} {m_fault : Int32} {m_seen : Int32} {m_isKept : Int32} {m_place : Int32} {m_numbers : (Nat → Int32)} {res : Int32 × (Nat → Int32)}
set_option maxHeartbeats 4000000 in
set_option maxRecDepth 100000 in
theorem k0X7_strike {l : Launch} (G : Gt) (a_mo a_mo_numbers a_mo_uses a_mo_boxes a_mo_words a_mo_weeks a_mo_routes a_mo_turns a_mo_leave a_mo_leases a_mo_arcFrom a_mo_arcTo a_mo_arcRoom a_mo_arcCost a_mo_far a_mo_by a_mo_best a_mo_tape a_mo_kept : Nat) (v1 : Int32) (m_arcs : Int32) (m_tapeMany : Int32) (m_tokenKind : Int32) (m_tokenAt : Int32) (m_tokenEnd : Int32) (m_tokenValue : Int32) (m_fault : Int32) (m_seen : Int32) (m_isKept : Int32) (m_place : Int32) (m_numbers : (Nat → Int32)) (m_uses : (Nat → Int32)) {res : Int32 × (Nat → Int32)} (h : fX7_strike v1 m_numbers m_uses = some res) : CtI G l yX7_strike wsX7_strike rmX7_strike [.ref a_mo, .int v1] (wX7_strike G a_mo a_mo_numbers a_mo_uses a_mo_boxes a_mo_words a_mo_weeks a_mo_routes a_mo_turns a_mo_leave a_mo_leases a_mo_arcFrom a_mo_arcTo a_mo_arcRoom a_mo_arcCost a_mo_far a_mo_by a_mo_best a_mo_tape a_mo_kept m_arcs m_tapeMany m_tokenKind m_tokenAt m_tokenEnd m_tokenValue m_fault m_seen m_isKept m_place m_numbers m_uses) res.1 (wX7_strike G a_mo a_mo_numbers a_mo_uses a_mo_boxes a_mo_words a_mo_weeks a_mo_routes a_mo_turns a_mo_leave a_mo_leases a_mo_arcFrom a_mo_arcTo a_mo_arcRoom a_mo_arcCost a_mo_far a_mo_by a_mo_best a_mo_tape a_mo_kept m_arcs m_tapeMany m_tokenKind m_tokenAt m_tokenEnd m_tokenValue m_fault m_seen m_isKept m_place m_numbers res.2) := by
  refine CtI.mk (cc := cX7_strike) (maxL := 2) (ret := (some .int)) (own := RX7) (by decide) rfl rfl (Nat.le_of_ble_eq_true rfl) ?_
  intro p e s m below meth c A X ls hl hW
  obtain ⟨hx, hb, -⟩ := id X.1
  have hl : lv_has ls 2 [(0, .ref a_mo), (1, .int v1)] := hl
  generalize hH : s.heap = H at hW ⊢
  generalize hLo : ([] : List Loc) = locs at hW ⊢
  rw [fX7_strike] at h
  refine lv_iload_n hx hb dX7_strike_0 rfl (lv_at hl 1 rfl) ?_
  refine lv_iconst hx hb dX7_strike_1 qI_0 ?_
  refine lv_aload_n hx hb dX7_strike_2 rfl (lv_at hl 0 rfl) ?_
  refine g_get X hW eX7_strike_7 0 rfl rfl dX7_strike_3 ?_
  refine lv_bipush hx hb dX7_strike_6 qB_6 ?_
  obtain ⟨g6, h⟩ := gd_some h
  refine g_ald X hW 1 rfl g6 dX7_strike_8 ?_
  refine lv_iconst hx hb dX7_strike_9 qI_1 ?_
  refine lv_isub hx hb dX7_strike_10 ?_
  obtain ⟨r9, hq, h⟩ := bn1_some h
  refine g_csi X hW (As := [.int v1, .int (0 : Int32), .int ((m_numbers (6 : Int32).toNatClampNeg) - (1 : Int32))]) (ws' := (wX7_strike G a_mo a_mo_numbers a_mo_uses a_mo_boxes a_mo_words a_mo_weeks a_mo_routes a_mo_turns a_mo_leave a_mo_leases a_mo_arcFrom a_mo_arcTo a_mo_arcRoom a_mo_arcCost a_mo_far a_mo_by a_mo_best a_mo_tape a_mo_kept m_arcs m_tapeMany m_tokenKind m_tokenAt m_tokenEnd m_tokenValue m_fault m_seen m_isKept m_place m_numbers m_uses)) ckX7_strike_X7_in_64 (kcX7_in (l := l) G v1 (0 : Int32) ((m_numbers (6 : Int32).toNatClampNeg) - (1 : Int32)) hq) ⟨rfl, rfl, Nat.le_of_ble_eq_true rfl, Nat.le_of_ble_eq_true rfl⟩ [] rfl rfl rfl rfl rfl rfl hl.1 (Nat.le_of_ble_eq_true rfl) ⟨Nat.zero_le _, Nat.zero_le _⟩ dX7_strike_11 (fun H locs hW => ?_)
  refine lv_if_ne (tgt := 19) hx hb dX7_strike_14 (by decide) (fun c10 => ?_) (fun c10 => ?_)
  · have h := (if_neg c10).symm.trans h
    refine lv_aload_n hx hb dX7_strike_19 rfl (lv_at hl 0 rfl) ?_
    refine g_get X hW eX7_strike_34 0 rfl rfl dX7_strike_20 ?_
    refine lv_bipush hx hb dX7_strike_23 qB_6 ?_
    refine lv_iload_n hx hb dX7_strike_25 rfl (lv_at hl 1 rfl) ?_
    refine lv_imul hx hb dX7_strike_26 ?_
    refine lv_iconst hx hb dX7_strike_27 qI_5 ?_
    refine lv_iadd hx hb dX7_strike_28 ?_
    obtain ⟨g18, h⟩ := gd_some h
    refine g_ald X hW 2 rfl g18 dX7_strike_29 ?_
    refine lv_if_lt (tgt := 36) hx hb dX7_strike_30 (by decide) (fun c19 => ?_) (fun c19 => ?_)
    · have h := (if_pos c19).symm.trans h
      refine lv_aload_n hx hb dX7_strike_36 rfl (lv_at hl 0 rfl) ?_
      refine g_get X hW eX7_strike_34 0 rfl rfl dX7_strike_37 ?_
      refine lv_bipush hx hb dX7_strike_40 qB_6 ?_
      refine lv_iload_n hx hb dX7_strike_42 rfl (lv_at hl 1 rfl) ?_
      refine lv_imul hx hb dX7_strike_43 ?_
      refine lv_iconst hx hb dX7_strike_44 qI_5 ?_
      refine lv_iadd hx hb dX7_strike_45 ?_
      refine lv_aload_n hx hb dX7_strike_46 rfl (lv_at hl 0 rfl) ?_
      refine g_get X hW eX7_strike_7 0 rfl rfl dX7_strike_47 ?_
      refine lv_iconst hx hb dX7_strike_50 qI_0 ?_
      obtain ⟨g30, h⟩ := gd_some h
      refine g_ald X hW 1 rfl g30 dX7_strike_51 ?_
      obtain ⟨g31, h⟩ := gd_some h
      refine g_ast X hW (ws' := (wX7_strike G a_mo a_mo_numbers a_mo_uses a_mo_boxes a_mo_words a_mo_weeks a_mo_routes a_mo_turns a_mo_leave a_mo_leases a_mo_arcFrom a_mo_arcTo a_mo_arcRoom a_mo_arcCost a_mo_far a_mo_by a_mo_best a_mo_tape a_mo_kept m_arcs m_tapeMany m_tokenKind m_tokenAt m_tokenEnd m_tokenValue m_fault m_seen m_isKept m_place m_numbers (upd m_uses (((6 : Int32) * v1) + (5 : Int32)).toNatClampNeg (m_numbers (0 : Int32).toNatClampNeg)))) 2 rfl g31 rfl dX7_strike_52 (fun H locs hW => ?_)
      refine lv_aload_n hx hb dX7_strike_53 rfl (lv_at hl 0 rfl) ?_
      refine lv_iload_n hx hb dX7_strike_54 rfl (lv_at hl 1 rfl) ?_
      obtain ⟨r34, hq, h⟩ := bn1_some h
      refine g_cvi X hW (As := [.int v1]) (ws' := (wX7_strike G a_mo a_mo_numbers a_mo_uses a_mo_boxes a_mo_words a_mo_weeks a_mo_routes a_mo_turns a_mo_leave a_mo_leases a_mo_arcFrom a_mo_arcTo a_mo_arcRoom a_mo_arcCost a_mo_far a_mo_by a_mo_best a_mo_tape a_mo_kept m_arcs m_tapeMany m_tokenKind m_tokenAt m_tokenEnd m_tokenValue m_fault m_seen m_isKept m_place m_numbers (upd m_uses (((6 : Int32) * v1) + (5 : Int32)).toNatClampNeg (m_numbers (0 : Int32).toNatClampNeg)))) ckX7_strike_X7_worthOf_199 (kcX7_worthOf (l := l) G a_mo a_mo_numbers a_mo_uses a_mo_boxes a_mo_words a_mo_weeks a_mo_routes a_mo_turns a_mo_leave a_mo_leases a_mo_arcFrom a_mo_arcTo a_mo_arcRoom a_mo_arcCost a_mo_far a_mo_by a_mo_best a_mo_tape a_mo_kept v1 m_arcs m_tapeMany m_tokenKind m_tokenAt m_tokenEnd m_tokenValue m_fault m_seen m_isKept m_place m_numbers (upd m_uses (((6 : Int32) * v1) + (5 : Int32)).toNatClampNeg (m_numbers (0 : Int32).toNatClampNeg)) hq) ⟨rfl, rfl, Nat.le_of_ble_eq_true rfl, Nat.le_of_ble_eq_true rfl⟩ [0, 1, 2] rfl rfl rfl rfl rfl rfl rfl hl.1 (Nat.le_of_ble_eq_true rfl) ⟨Nat.zero_le _, Nat.zero_le _⟩ dX7_strike_55 (fun H locs hW => ?_)
      obtain rfl := Option.some.inj h
      exact g_iret X hW dX7_strike_58
    · have h := (if_neg c19).symm.trans h
      refine lv_bipush hx hb dX7_strike_33 qB_m4 ?_
      obtain rfl := Option.some.inj h
      exact g_iret X hW dX7_strike_35
  · have h := (if_pos c10).symm.trans h
    refine lv_iconst hx hb dX7_strike_17 qI_m1 ?_
    obtain rfl := Option.some.inj h
    exact g_iret X hW dX7_strike_18
theorem kcX7_strike {l : Launch} (G : Gt) (a_mo a_mo_numbers a_mo_uses a_mo_boxes a_mo_words a_mo_weeks a_mo_routes a_mo_turns a_mo_leave a_mo_leases a_mo_arcFrom a_mo_arcTo a_mo_arcRoom a_mo_arcCost a_mo_far a_mo_by a_mo_best a_mo_tape a_mo_kept : Nat) (v1 : Int32) (m_arcs : Int32) (m_tapeMany : Int32) (m_tokenKind : Int32) (m_tokenAt : Int32) (m_tokenEnd : Int32) (m_tokenValue : Int32) (m_fault : Int32) (m_seen : Int32) (m_isKept : Int32) (m_place : Int32) (m_numbers : (Nat → Int32)) (m_uses : (Nat → Int32)) {r : Int32} {z_m_uses : (Nat → Int32)} (h : fX7_strike v1 m_numbers m_uses = some (r, z_m_uses)) : CtI G l yX7_strike wsX7_strike rmX7_strike [.ref a_mo, .int v1] (wX7_strike G a_mo a_mo_numbers a_mo_uses a_mo_boxes a_mo_words a_mo_weeks a_mo_routes a_mo_turns a_mo_leave a_mo_leases a_mo_arcFrom a_mo_arcTo a_mo_arcRoom a_mo_arcCost a_mo_far a_mo_by a_mo_best a_mo_tape a_mo_kept m_arcs m_tapeMany m_tokenKind m_tokenAt m_tokenEnd m_tokenValue m_fault m_seen m_isKept m_place m_numbers m_uses) r (wX7_strike G a_mo a_mo_numbers a_mo_uses a_mo_boxes a_mo_words a_mo_weeks a_mo_routes a_mo_turns a_mo_leave a_mo_leases a_mo_arcFrom a_mo_arcTo a_mo_arcRoom a_mo_arcCost a_mo_far a_mo_by a_mo_best a_mo_tape a_mo_kept m_arcs m_tapeMany m_tokenKind m_tokenAt m_tokenEnd m_tokenValue m_fault m_seen m_isKept m_place m_numbers z_m_uses) := k0X7_strike G a_mo a_mo_numbers a_mo_uses a_mo_boxes a_mo_words a_mo_weeks a_mo_routes a_mo_turns a_mo_leave a_mo_leases a_mo_arcFrom a_mo_arcTo a_mo_arcRoom a_mo_arcCost a_mo_far a_mo_by a_mo_best a_mo_tape a_mo_kept v1 m_arcs m_tapeMany m_tokenKind m_tokenAt m_tokenEnd m_tokenValue m_fault m_seen m_isKept m_place m_numbers m_uses h
end MX7_strike
/-! EmptyBoxesModel.owesOf -/
section MX7_owesOf
theorem hdX7_owesOf : yX7_owesOf.cls = RX7 ∧ yX7_owesOf.cls ≠ "java/lang/invoke/MethodHandle" ∧ yX7_owesOf.cls ≠ "java/lang/invoke/VarHandle" ∧ (parseMethodDescriptor yX7_owesOf.desc).map (fun d => d.parameters.length) = some 3 := by decide +kernel
abbrev wX7_owesOf (G : Gt) (a_mo a_mo_numbers a_mo_boxes a_mo_uses a_mo_words a_mo_weeks a_mo_routes a_mo_turns a_mo_leave a_mo_leases a_mo_arcFrom a_mo_arcTo a_mo_arcRoom a_mo_arcCost a_mo_far a_mo_by a_mo_best a_mo_tape a_mo_kept : Nat) (m_arcs : Int32) (m_tapeMany : Int32) (m_tokenKind : Int32) (m_tokenAt : Int32) (m_tokenEnd : Int32) (m_tokenValue : Int32) (m_fault : Int32) (m_seen : Int32) (m_isKept : Int32) (m_place : Int32) (m_numbers : (Nat → Int32)) (m_boxes : (Nat → Int32)) (m_uses : (Nat → Int32)) : va_W := [(a_mo, .inr (7, [.ref a_mo_numbers, .ref a_mo_boxes, .ref a_mo_words, .ref a_mo_weeks, .ref a_mo_routes, .ref a_mo_turns, .ref a_mo_leave, .ref a_mo_leases, .ref a_mo_uses, .ref a_mo_arcFrom, .ref a_mo_arcTo, .ref a_mo_arcRoom, .ref a_mo_arcCost, .int m_arcs, .ref a_mo_far, .ref a_mo_by, .ref a_mo_best, .ref a_mo_tape, .int m_tapeMany, .int m_tokenKind, .int m_tokenAt, .int m_tokenEnd, .int m_tokenValue, .int m_fault, .int m_seen, .int m_isKept, .ref a_mo_kept, .int m_place])), (a_mo_numbers, .inl (G.2.1, 10, .inl m_numbers)), (a_mo_boxes, .inl (G.2.1, 216, .inl m_boxes)), (a_mo_uses, .inl (G.2.1, 240, .inl m_uses))]
abbrev rmX7_owesOf : Room := { frames := 1, cells := 0, slots := 0, locals := 22 }
theorem iX7_owesOf_X7 : ∀ w ∈ wsX70, w ∈ wsX7_owesOf := by decide +kernel
theorem eX7_owesOf_34 : Fk wsX7_owesOf RX7 34 7 8 := ⟨RX7, TX7, 28, rfl, iX7_owesOf_X7, by decide, by decide +kernel⟩
theorem eX7_owesOf_7 : Fk wsX7_owesOf RX7 7 7 0 := ⟨RX7, TX7, 28, rfl, iX7_owesOf_X7, by decide, by decide +kernel⟩
theorem ckX7_owesOf_X7_get_68 : CkV wsX7_owesOf RX7 68 yX7_get wsX7_get cX7_get 3 (some .int) 2 7 := ⟨RX7, TX7, 28, _, rfl, gX7_owesOf_X7_get, rfl, hdX7_get⟩
theorem ckX7_owesOf_X7_worthOf_199 : CkV wsX7_owesOf RX7 199 yX7_worthOf wsX7_worthOf cX7_worthOf 3 (some .int) 1 7 := ⟨RX7, TX7, 28, _, rfl, gX7_owesOf_X7_worthOf, rfl, hdX7_worthOf⟩
variable {p : Program} {l : Launch} {e : Env} {s : State} {m : MethodId} {args : Array Value} {below : List Frame} {meth : Method} {c : Code} {A : Nat → Prop} {G : Gt} {a_mo a_mo_numbers a_mo_boxes a_mo_uses a_mo_words a_mo_weeks a_mo_routes a_mo_turns a_mo_leave a_mo_leases a_mo_arcFrom a_mo_arcTo a_mo_arcRoom a_mo_arcCost a_mo_far a_mo_by a_mo_best a_mo_tape a_mo_kept : Nat} {m_arcs : Int32} {m_tapeMany : Int32} {m_tokenKind : Int32} {m_tokenAt : Int32} {m_tokenEnd : Int32} {m_tokenValue : Int32} {m_fault : Int32} {m_seen : Int32} {m_isKept : Int32} {m_place : Int32} {m_numbers : (Nat → Int32)} {m_boxes : (Nat → Int32)} {m_uses : (Nat → Int32)} {res : Int32}
set_option maxHeartbeats 4000000 in
set_option maxRecDepth 100000 in
theorem tX7_owesOf_130 (X : Bx p s m args meth c cX7_owesOf 8 wsX7_owesOf RX7 (some .int)) (v1 : Int32) (v2 : Int32) (v3 : Int32) (v5 : Int32) (t0 : Int32) (t1 : Int32) (k_6 : Int32 → Int32 → Option (Int32)) (Hk_6 : ∀ (v4 : Int32) (v5 : Int32), k_6 v4 v5 = some res → ∀ (H : Heap) (locs : List Loc), Wo G A s (wX7_owesOf G a_mo a_mo_numbers a_mo_boxes a_mo_uses a_mo_words a_mo_weeks a_mo_routes a_mo_turns a_mo_leave a_mo_leases a_mo_arcFrom a_mo_arcTo a_mo_arcRoom a_mo_arcCost a_mo_far a_mo_by a_mo_best a_mo_tape a_mo_kept m_arcs m_tapeMany m_tokenKind m_tokenAt m_tokenEnd m_tokenValue m_fault m_seen m_isKept m_place m_numbers m_boxes m_uses) H locs → ∀ ls : Array Slot, lv_has ls 8 [(0, .ref a_mo), (1, .int v1), (2, .int v2), (3, .int v3), (4, .int v4), (5, .int v5)] → W p l e rmX7_owesOf s m args below meth c H locs 0 0 (QI G A below args s res (wX7_owesOf G a_mo a_mo_numbers a_mo_boxes a_mo_uses a_mo_words a_mo_weeks a_mo_routes a_mo_turns a_mo_leave a_mo_leases a_mo_arcFrom a_mo_arcTo a_mo_arcRoom a_mo_arcCost a_mo_far a_mo_by a_mo_best a_mo_tape a_mo_kept m_arcs m_tapeMany m_tokenKind m_tokenAt m_tokenEnd m_tokenValue m_fault m_seen m_isKept m_place m_numbers m_boxes m_uses)) (F0 m 6 ls [])) (h : fX7_owesOf_130 k_6 v5 t0 t1 = some res) : ∀ (H : Heap) (locs : List Loc), Wo G A s (wX7_owesOf G a_mo a_mo_numbers a_mo_boxes a_mo_uses a_mo_words a_mo_weeks a_mo_routes a_mo_turns a_mo_leave a_mo_leases a_mo_arcFrom a_mo_arcTo a_mo_arcRoom a_mo_arcCost a_mo_far a_mo_by a_mo_best a_mo_tape a_mo_kept m_arcs m_tapeMany m_tokenKind m_tokenAt m_tokenEnd m_tokenValue m_fault m_seen m_isKept m_place m_numbers m_boxes m_uses) H locs → ∀ ls : Array Slot, lv_has ls 8 [(0, .ref a_mo), (1, .int v1), (2, .int v2), (3, .int v3), (5, .int v5)] → W p l e rmX7_owesOf s m args below meth c H locs 0 0 (QI G A below args s res (wX7_owesOf G a_mo a_mo_numbers a_mo_boxes a_mo_uses a_mo_words a_mo_weeks a_mo_routes a_mo_turns a_mo_leave a_mo_leases a_mo_arcFrom a_mo_arcTo a_mo_arcRoom a_mo_arcCost a_mo_far a_mo_by a_mo_best a_mo_tape a_mo_kept m_arcs m_tapeMany m_tokenKind m_tokenAt m_tokenEnd m_tokenValue m_fault m_seen m_isKept m_place m_numbers m_boxes m_uses)) (F0 m 130 ls [.int t1, .int t0]) := by
  obtain ⟨hx, hb, -⟩ := id X.1
  intro H locs hW ls hl
  rw [fX7_owesOf_130] at h
  refine lv_iadd hx hb dX7_owesOf_130 ?_
  refine lv_istore (lv' := [(4, .int (t0 + t1)), (0, .ref a_mo), (1, .int v1), (2, .int v2), (3, .int v3), (5, .int v5)]) hx hb dX7_owesOf_131 hl (by decide) rfl (fun ls hl => ?_)
  refine lv_iinc (v := (v5 + (1 : Int32))) (lv' := [(5, .int (v5 + (1 : Int32))), (4, .int (t0 + t1)), (0, .ref a_mo), (1, .int v1), (2, .int v2), (3, .int v3)]) hx hb dX7_owesOf_133 hl (k := 5) rfl (congrArg (fun z => v5 + z) qI_1) (by decide) rfl (fun ls hl => ?_)
  refine lv_goto (tgt := 6) hx hb dX7_owesOf_136 (by decide) ?_
  exact Hk_6 (t0 + t1) (v5 + (1 : Int32)) h H locs hW ls (lv_sub hl [2, 3, 4, 5, 1, 0] rfl)
set_option maxHeartbeats 4000000 in
set_option maxRecDepth 100000 in
theorem tX7_owesOf_111 (X : Bx p s m args meth c cX7_owesOf 8 wsX7_owesOf RX7 (some .int)) (v1 : Int32) (v2 : Int32) (v3 : Int32) (v4 : Int32) (v5 : Int32) (t0 : Int32) (k_6 : Int32 → Int32 → Option (Int32)) (Hk_6 : ∀ (v4 : Int32) (v5 : Int32), k_6 v4 v5 = some res → ∀ (H : Heap) (locs : List Loc), Wo G A s (wX7_owesOf G a_mo a_mo_numbers a_mo_boxes a_mo_uses a_mo_words a_mo_weeks a_mo_routes a_mo_turns a_mo_leave a_mo_leases a_mo_arcFrom a_mo_arcTo a_mo_arcRoom a_mo_arcCost a_mo_far a_mo_by a_mo_best a_mo_tape a_mo_kept m_arcs m_tapeMany m_tokenKind m_tokenAt m_tokenEnd m_tokenValue m_fault m_seen m_isKept m_place m_numbers m_boxes m_uses) H locs → ∀ ls : Array Slot, lv_has ls 8 [(0, .ref a_mo), (1, .int v1), (2, .int v2), (3, .int v3), (4, .int v4), (5, .int v5)] → W p l e rmX7_owesOf s m args below meth c H locs 0 0 (QI G A below args s res (wX7_owesOf G a_mo a_mo_numbers a_mo_boxes a_mo_uses a_mo_words a_mo_weeks a_mo_routes a_mo_turns a_mo_leave a_mo_leases a_mo_arcFrom a_mo_arcTo a_mo_arcRoom a_mo_arcCost a_mo_far a_mo_by a_mo_best a_mo_tape a_mo_kept m_arcs m_tapeMany m_tokenKind m_tokenAt m_tokenEnd m_tokenValue m_fault m_seen m_isKept m_place m_numbers m_boxes m_uses)) (F0 m 6 ls [])) (h : fX7_owesOf_111 k_6 v4 v5 t0 m_numbers m_uses = some res) : ∀ (H : Heap) (locs : List Loc), Wo G A s (wX7_owesOf G a_mo a_mo_numbers a_mo_boxes a_mo_uses a_mo_words a_mo_weeks a_mo_routes a_mo_turns a_mo_leave a_mo_leases a_mo_arcFrom a_mo_arcTo a_mo_arcRoom a_mo_arcCost a_mo_far a_mo_by a_mo_best a_mo_tape a_mo_kept m_arcs m_tapeMany m_tokenKind m_tokenAt m_tokenEnd m_tokenValue m_fault m_seen m_isKept m_place m_numbers m_boxes m_uses) H locs → ∀ ls : Array Slot, lv_has ls 8 [(0, .ref a_mo), (1, .int v1), (2, .int v2), (3, .int v3), (4, .int v4), (5, .int v5)] → W p l e rmX7_owesOf s m args below meth c H locs 0 0 (QI G A below args s res (wX7_owesOf G a_mo a_mo_numbers a_mo_boxes a_mo_uses a_mo_words a_mo_weeks a_mo_routes a_mo_turns a_mo_leave a_mo_leases a_mo_arcFrom a_mo_arcTo a_mo_arcRoom a_mo_arcCost a_mo_far a_mo_by a_mo_best a_mo_tape a_mo_kept m_arcs m_tapeMany m_tokenKind m_tokenAt m_tokenEnd m_tokenValue m_fault m_seen m_isKept m_place m_numbers m_boxes m_uses)) (F0 m 111 ls [.int t0]) := by
  obtain ⟨hx, hb, -⟩ := id X.1
  intro H locs hW ls hl
  rw [fX7_owesOf_111] at h
  refine lv_istore (lv' := [(7, .int t0), (0, .ref a_mo), (1, .int v1), (2, .int v2), (3, .int v3), (4, .int v4), (5, .int v5)]) hx hb dX7_owesOf_111 hl (by decide) rfl (fun ls hl => ?_)
  refine lv_iload hx hb dX7_owesOf_113 (lv_at hl 5 rfl) ?_
  refine lv_iload hx hb dX7_owesOf_115 (lv_at hl 0 rfl) ?_
  refine lv_if_eq (tgt := 129) hx hb dX7_owesOf_117 (by decide) (fun c8 => ?_) (fun c8 => ?_)
  · have h := (if_pos c8).symm.trans h
    refine lv_iconst hx hb dX7_owesOf_129 qI_0 ?_
    exact tX7_owesOf_130 X v1 v2 v3 v5 v4 (0 : Int32) k_6 Hk_6 h H locs hW ls (lv_sub hl [1, 2, 3, 4, 6] rfl)
  · have h := (if_neg c8).symm.trans h
    refine lv_aload_n hx hb dX7_owesOf_120 rfl (lv_at hl 1 rfl) ?_
    refine lv_iload hx hb dX7_owesOf_121 (lv_at hl 6 rfl) ?_
    obtain ⟨r12, hq, h⟩ := bn1_some h
    refine g_cvi X hW (As := [.int v5]) (ws' := (wX7_owesOf G a_mo a_mo_numbers a_mo_boxes a_mo_uses a_mo_words a_mo_weeks a_mo_routes a_mo_turns a_mo_leave a_mo_leases a_mo_arcFrom a_mo_arcTo a_mo_arcRoom a_mo_arcCost a_mo_far a_mo_by a_mo_best a_mo_tape a_mo_kept m_arcs m_tapeMany m_tokenKind m_tokenAt m_tokenEnd m_tokenValue m_fault m_seen m_isKept m_place m_numbers m_boxes m_uses)) ckX7_owesOf_X7_worthOf_199 (kcX7_worthOf (l := l) G a_mo a_mo_numbers a_mo_uses a_mo_boxes a_mo_words a_mo_weeks a_mo_routes a_mo_turns a_mo_leave a_mo_leases a_mo_arcFrom a_mo_arcTo a_mo_arcRoom a_mo_arcCost a_mo_far a_mo_by a_mo_best a_mo_tape a_mo_kept v5 m_arcs m_tapeMany m_tokenKind m_tokenAt m_tokenEnd m_tokenValue m_fault m_seen m_isKept m_place m_numbers m_uses hq) ⟨rfl, rfl, Nat.le_of_ble_eq_true rfl, Nat.le_of_ble_eq_true rfl⟩ [0, 1, 3] rfl rfl rfl rfl rfl rfl rfl hl.1 (Nat.le_of_ble_eq_true rfl) ⟨Nat.zero_le _, Nat.zero_le _⟩ dX7_owesOf_123 (fun H locs hW => ?_)
    refine lv_goto (tgt := 130) hx hb dX7_owesOf_126 (by decide) ?_
    exact tX7_owesOf_130 X v1 v2 v3 v5 v4 r12 k_6 Hk_6 h H locs hW ls (lv_sub hl [1, 2, 3, 4, 6] rfl)
set_option maxHeartbeats 4000000 in
set_option maxRecDepth 100000 in
theorem tX7_owesOf_110 (X : Bx p s m args meth c cX7_owesOf 8 wsX7_owesOf RX7 (some .int)) (v1 : Int32) (v2 : Int32) (v3 : Int32) (v4 : Int32) (v5 : Int32) (k_6 : Int32 → Int32 → Option (Int32)) (Hk_6 : ∀ (v4 : Int32) (v5 : Int32), k_6 v4 v5 = some res → ∀ (H : Heap) (locs : List Loc), Wo G A s (wX7_owesOf G a_mo a_mo_numbers a_mo_boxes a_mo_uses a_mo_words a_mo_weeks a_mo_routes a_mo_turns a_mo_leave a_mo_leases a_mo_arcFrom a_mo_arcTo a_mo_arcRoom a_mo_arcCost a_mo_far a_mo_by a_mo_best a_mo_tape a_mo_kept m_arcs m_tapeMany m_tokenKind m_tokenAt m_tokenEnd m_tokenValue m_fault m_seen m_isKept m_place m_numbers m_boxes m_uses) H locs → ∀ ls : Array Slot, lv_has ls 8 [(0, .ref a_mo), (1, .int v1), (2, .int v2), (3, .int v3), (4, .int v4), (5, .int v5)] → W p l e rmX7_owesOf s m args below meth c H locs 0 0 (QI G A below args s res (wX7_owesOf G a_mo a_mo_numbers a_mo_boxes a_mo_uses a_mo_words a_mo_weeks a_mo_routes a_mo_turns a_mo_leave a_mo_leases a_mo_arcFrom a_mo_arcTo a_mo_arcRoom a_mo_arcCost a_mo_far a_mo_by a_mo_best a_mo_tape a_mo_kept m_arcs m_tapeMany m_tokenKind m_tokenAt m_tokenEnd m_tokenValue m_fault m_seen m_isKept m_place m_numbers m_boxes m_uses)) (F0 m 6 ls [])) (h : fX7_owesOf_110 k_6 v4 v5 m_numbers m_uses = some res) : ∀ (H : Heap) (locs : List Loc), Wo G A s (wX7_owesOf G a_mo a_mo_numbers a_mo_boxes a_mo_uses a_mo_words a_mo_weeks a_mo_routes a_mo_turns a_mo_leave a_mo_leases a_mo_arcFrom a_mo_arcTo a_mo_arcRoom a_mo_arcCost a_mo_far a_mo_by a_mo_best a_mo_tape a_mo_kept m_arcs m_tapeMany m_tokenKind m_tokenAt m_tokenEnd m_tokenValue m_fault m_seen m_isKept m_place m_numbers m_boxes m_uses) H locs → ∀ ls : Array Slot, lv_has ls 8 [(0, .ref a_mo), (1, .int v1), (2, .int v2), (3, .int v3), (4, .int v4), (5, .int v5)] → W p l e rmX7_owesOf s m args below meth c H locs 0 0 (QI G A below args s res (wX7_owesOf G a_mo a_mo_numbers a_mo_boxes a_mo_uses a_mo_words a_mo_weeks a_mo_routes a_mo_turns a_mo_leave a_mo_leases a_mo_arcFrom a_mo_arcTo a_mo_arcRoom a_mo_arcCost a_mo_far a_mo_by a_mo_best a_mo_tape a_mo_kept m_arcs m_tapeMany m_tokenKind m_tokenAt m_tokenEnd m_tokenValue m_fault m_seen m_isKept m_place m_numbers m_boxes m_uses)) (F0 m 110 ls []) := by
  obtain ⟨hx, hb, -⟩ := id X.1
  intro H locs hW ls hl
  rw [fX7_owesOf_110] at h
  refine lv_iconst hx hb dX7_owesOf_110 qI_0 ?_
  exact tX7_owesOf_111 X v1 v2 v3 v4 v5 (0 : Int32) k_6 Hk_6 h H locs hW ls hl
set_option maxHeartbeats 4000000 in
set_option maxRecDepth 100000 in
theorem tX7_owesOf_106 (X : Bx p s m args meth c cX7_owesOf 8 wsX7_owesOf RX7 (some .int)) (v1 : Int32) (v2 : Int32) (v3 : Int32) (v4 : Int32) (v5 : Int32) (k_6 : Int32 → Int32 → Option (Int32)) (Hk_6 : ∀ (v4 : Int32) (v5 : Int32), k_6 v4 v5 = some res → ∀ (H : Heap) (locs : List Loc), Wo G A s (wX7_owesOf G a_mo a_mo_numbers a_mo_boxes a_mo_uses a_mo_words a_mo_weeks a_mo_routes a_mo_turns a_mo_leave a_mo_leases a_mo_arcFrom a_mo_arcTo a_mo_arcRoom a_mo_arcCost a_mo_far a_mo_by a_mo_best a_mo_tape a_mo_kept m_arcs m_tapeMany m_tokenKind m_tokenAt m_tokenEnd m_tokenValue m_fault m_seen m_isKept m_place m_numbers m_boxes m_uses) H locs → ∀ ls : Array Slot, lv_has ls 8 [(0, .ref a_mo), (1, .int v1), (2, .int v2), (3, .int v3), (4, .int v4), (5, .int v5)] → W p l e rmX7_owesOf s m args below meth c H locs 0 0 (QI G A below args s res (wX7_owesOf G a_mo a_mo_numbers a_mo_boxes a_mo_uses a_mo_words a_mo_weeks a_mo_routes a_mo_turns a_mo_leave a_mo_leases a_mo_arcFrom a_mo_arcTo a_mo_arcRoom a_mo_arcCost a_mo_far a_mo_by a_mo_best a_mo_tape a_mo_kept m_arcs m_tapeMany m_tokenKind m_tokenAt m_tokenEnd m_tokenValue m_fault m_seen m_isKept m_place m_numbers m_boxes m_uses)) (F0 m 6 ls [])) (h : fX7_owesOf_106 k_6 v4 v5 m_numbers m_uses = some res) : ∀ (H : Heap) (locs : List Loc), Wo G A s (wX7_owesOf G a_mo a_mo_numbers a_mo_boxes a_mo_uses a_mo_words a_mo_weeks a_mo_routes a_mo_turns a_mo_leave a_mo_leases a_mo_arcFrom a_mo_arcTo a_mo_arcRoom a_mo_arcCost a_mo_far a_mo_by a_mo_best a_mo_tape a_mo_kept m_arcs m_tapeMany m_tokenKind m_tokenAt m_tokenEnd m_tokenValue m_fault m_seen m_isKept m_place m_numbers m_boxes m_uses) H locs → ∀ ls : Array Slot, lv_has ls 8 [(0, .ref a_mo), (1, .int v1), (2, .int v2), (3, .int v3), (4, .int v4), (5, .int v5)] → W p l e rmX7_owesOf s m args below meth c H locs 0 0 (QI G A below args s res (wX7_owesOf G a_mo a_mo_numbers a_mo_boxes a_mo_uses a_mo_words a_mo_weeks a_mo_routes a_mo_turns a_mo_leave a_mo_leases a_mo_arcFrom a_mo_arcTo a_mo_arcRoom a_mo_arcCost a_mo_far a_mo_by a_mo_best a_mo_tape a_mo_kept m_arcs m_tapeMany m_tokenKind m_tokenAt m_tokenEnd m_tokenValue m_fault m_seen m_isKept m_place m_numbers m_boxes m_uses)) (F0 m 106 ls []) := by
  obtain ⟨hx, hb, -⟩ := id X.1
  intro H locs hW ls hl
  rw [fX7_owesOf_106] at h
  refine lv_iconst hx hb dX7_owesOf_106 qI_1 ?_
  refine lv_goto (tgt := 111) hx hb dX7_owesOf_107 (by decide) ?_
  exact tX7_owesOf_111 X v1 v2 v3 v4 v5 (1 : Int32) k_6 Hk_6 h H locs hW ls hl
set_option maxHeartbeats 4000000 in
set_option maxRecDepth 100000 in
theorem tX7_owesOf_72 (X : Bx p s m args meth c cX7_owesOf 8 wsX7_owesOf RX7 (some .int)) (v1 : Int32) (v2 : Int32) (v3 : Int32) (v4 : Int32) (v5 : Int32) (v6 : Int32) (t0 : Int32) (k_6 : Int32 → Int32 → Option (Int32)) (Hk_6 : ∀ (v4 : Int32) (v5 : Int32), k_6 v4 v5 = some res → ∀ (H : Heap) (locs : List Loc), Wo G A s (wX7_owesOf G a_mo a_mo_numbers a_mo_boxes a_mo_uses a_mo_words a_mo_weeks a_mo_routes a_mo_turns a_mo_leave a_mo_leases a_mo_arcFrom a_mo_arcTo a_mo_arcRoom a_mo_arcCost a_mo_far a_mo_by a_mo_best a_mo_tape a_mo_kept m_arcs m_tapeMany m_tokenKind m_tokenAt m_tokenEnd m_tokenValue m_fault m_seen m_isKept m_place m_numbers m_boxes m_uses) H locs → ∀ ls : Array Slot, lv_has ls 8 [(0, .ref a_mo), (1, .int v1), (2, .int v2), (3, .int v3), (4, .int v4), (5, .int v5)] → W p l e rmX7_owesOf s m args below meth c H locs 0 0 (QI G A below args s res (wX7_owesOf G a_mo a_mo_numbers a_mo_boxes a_mo_uses a_mo_words a_mo_weeks a_mo_routes a_mo_turns a_mo_leave a_mo_leases a_mo_arcFrom a_mo_arcTo a_mo_arcRoom a_mo_arcCost a_mo_far a_mo_by a_mo_best a_mo_tape a_mo_kept m_arcs m_tapeMany m_tokenKind m_tokenAt m_tokenEnd m_tokenValue m_fault m_seen m_isKept m_place m_numbers m_boxes m_uses)) (F0 m 6 ls [])) (h : fX7_owesOf_72 k_6 v3 v4 v5 v6 t0 m_numbers m_uses = some res) : ∀ (H : Heap) (locs : List Loc), Wo G A s (wX7_owesOf G a_mo a_mo_numbers a_mo_boxes a_mo_uses a_mo_words a_mo_weeks a_mo_routes a_mo_turns a_mo_leave a_mo_leases a_mo_arcFrom a_mo_arcTo a_mo_arcRoom a_mo_arcCost a_mo_far a_mo_by a_mo_best a_mo_tape a_mo_kept m_arcs m_tapeMany m_tokenKind m_tokenAt m_tokenEnd m_tokenValue m_fault m_seen m_isKept m_place m_numbers m_boxes m_uses) H locs → ∀ ls : Array Slot, lv_has ls 8 [(0, .ref a_mo), (1, .int v1), (2, .int v2), (3, .int v3), (4, .int v4), (5, .int v5), (6, .int v6)] → W p l e rmX7_owesOf s m args below meth c H locs 0 0 (QI G A below args s res (wX7_owesOf G a_mo a_mo_numbers a_mo_boxes a_mo_uses a_mo_words a_mo_weeks a_mo_routes a_mo_turns a_mo_leave a_mo_leases a_mo_arcFrom a_mo_arcTo a_mo_arcRoom a_mo_arcCost a_mo_far a_mo_by a_mo_best a_mo_tape a_mo_kept m_arcs m_tapeMany m_tokenKind m_tokenAt m_tokenEnd m_tokenValue m_fault m_seen m_isKept m_place m_numbers m_boxes m_uses)) (F0 m 72 ls [.int t0]) := by
  obtain ⟨hx, hb, -⟩ := id X.1
  intro H locs hW ls hl
  rw [fX7_owesOf_72] at h
  refine lv_istore (lv' := [(7, .int t0), (0, .ref a_mo), (1, .int v1), (2, .int v2), (3, .int v3), (4, .int v4), (5, .int v5), (6, .int v6)]) hx hb dX7_owesOf_72 hl (by decide) rfl (fun ls hl => ?_)
  refine lv_iload hx hb dX7_owesOf_74 (lv_at hl 0 rfl) ?_
  refine lv_if_eq (tgt := 110) hx hb dX7_owesOf_76 (by decide) (fun c19 => ?_) (fun c19 => ?_)
  · have h := (if_pos c19).symm.trans h
    exact tX7_owesOf_110 X v1 v2 v3 v4 v5 k_6 Hk_6 h H locs hW ls (lv_sub hl [1, 2, 3, 4, 5, 6] rfl)
  · have h := (if_neg c19).symm.trans h
    refine lv_aload_n hx hb dX7_owesOf_79 rfl (lv_at hl 1 rfl) ?_
    refine g_get X hW eX7_owesOf_34 0 rfl rfl dX7_owesOf_80 ?_
    refine lv_bipush hx hb dX7_owesOf_83 qB_6 ?_
    refine lv_iload hx hb dX7_owesOf_85 (lv_at hl 6 rfl) ?_
    refine lv_imul hx hb dX7_owesOf_87 ?_
    refine lv_iconst hx hb dX7_owesOf_88 qI_4 ?_
    refine lv_iadd hx hb dX7_owesOf_89 ?_
    obtain ⟨g27, h⟩ := gd_some h
    refine g_ald X hW 3 rfl g27 dX7_owesOf_90 ?_
    refine lv_iload_n hx hb dX7_owesOf_91 rfl (lv_at hl 4 rfl) ?_
    refine lv_icmp_gt (tgt := 110) hx hb dX7_owesOf_92 (by decide) (fun c29 => ?_) (fun c29 => ?_)
    · have h := (if_pos c29).symm.trans h
      exact tX7_owesOf_110 X v1 v2 v3 v4 v5 k_6 Hk_6 h H locs hW ls (lv_sub hl [1, 2, 3, 4, 5, 6] rfl)
    · have h := (if_neg c29).symm.trans h
      refine lv_iload hx hb dX7_owesOf_95 (lv_at hl 7 rfl) ?_
      refine lv_if_lt (tgt := 106) hx hb dX7_owesOf_97 (by decide) (fun c31 => ?_) (fun c31 => ?_)
      · have h := (if_pos c31).symm.trans h
        exact tX7_owesOf_106 X v1 v2 v3 v4 v5 k_6 Hk_6 h H locs hW ls (lv_sub hl [1, 2, 3, 4, 5, 6] rfl)
      · have h := (if_neg c31).symm.trans h
        refine lv_iload hx hb dX7_owesOf_100 (lv_at hl 7 rfl) ?_
        refine lv_iload_n hx hb dX7_owesOf_102 rfl (lv_at hl 4 rfl) ?_
        refine lv_icmp_le (tgt := 110) hx hb dX7_owesOf_103 (by decide) (fun c34 => ?_) (fun c34 => ?_)
        · have h := (if_pos c34).symm.trans h
          exact tX7_owesOf_110 X v1 v2 v3 v4 v5 k_6 Hk_6 h H locs hW ls (lv_sub hl [1, 2, 3, 4, 5, 6] rfl)
        · have h := (if_neg c34).symm.trans h
          exact tX7_owesOf_106 X v1 v2 v3 v4 v5 k_6 Hk_6 h H locs hW ls (lv_sub hl [1, 2, 3, 4, 5, 6] rfl)
set_option maxHeartbeats 4000000 in
set_option maxRecDepth 100000 in
theorem tX7_owesOf_71 (X : Bx p s m args meth c cX7_owesOf 8 wsX7_owesOf RX7 (some .int)) (v1 : Int32) (v2 : Int32) (v3 : Int32) (v4 : Int32) (v5 : Int32) (v6 : Int32) (k_6 : Int32 → Int32 → Option (Int32)) (Hk_6 : ∀ (v4 : Int32) (v5 : Int32), k_6 v4 v5 = some res → ∀ (H : Heap) (locs : List Loc), Wo G A s (wX7_owesOf G a_mo a_mo_numbers a_mo_boxes a_mo_uses a_mo_words a_mo_weeks a_mo_routes a_mo_turns a_mo_leave a_mo_leases a_mo_arcFrom a_mo_arcTo a_mo_arcRoom a_mo_arcCost a_mo_far a_mo_by a_mo_best a_mo_tape a_mo_kept m_arcs m_tapeMany m_tokenKind m_tokenAt m_tokenEnd m_tokenValue m_fault m_seen m_isKept m_place m_numbers m_boxes m_uses) H locs → ∀ ls : Array Slot, lv_has ls 8 [(0, .ref a_mo), (1, .int v1), (2, .int v2), (3, .int v3), (4, .int v4), (5, .int v5)] → W p l e rmX7_owesOf s m args below meth c H locs 0 0 (QI G A below args s res (wX7_owesOf G a_mo a_mo_numbers a_mo_boxes a_mo_uses a_mo_words a_mo_weeks a_mo_routes a_mo_turns a_mo_leave a_mo_leases a_mo_arcFrom a_mo_arcTo a_mo_arcRoom a_mo_arcCost a_mo_far a_mo_by a_mo_best a_mo_tape a_mo_kept m_arcs m_tapeMany m_tokenKind m_tokenAt m_tokenEnd m_tokenValue m_fault m_seen m_isKept m_place m_numbers m_boxes m_uses)) (F0 m 6 ls [])) (h : fX7_owesOf_71 k_6 v3 v4 v5 v6 m_numbers m_uses = some res) : ∀ (H : Heap) (locs : List Loc), Wo G A s (wX7_owesOf G a_mo a_mo_numbers a_mo_boxes a_mo_uses a_mo_words a_mo_weeks a_mo_routes a_mo_turns a_mo_leave a_mo_leases a_mo_arcFrom a_mo_arcTo a_mo_arcRoom a_mo_arcCost a_mo_far a_mo_by a_mo_best a_mo_tape a_mo_kept m_arcs m_tapeMany m_tokenKind m_tokenAt m_tokenEnd m_tokenValue m_fault m_seen m_isKept m_place m_numbers m_boxes m_uses) H locs → ∀ ls : Array Slot, lv_has ls 8 [(0, .ref a_mo), (1, .int v1), (2, .int v2), (3, .int v3), (4, .int v4), (5, .int v5), (6, .int v6)] → W p l e rmX7_owesOf s m args below meth c H locs 0 0 (QI G A below args s res (wX7_owesOf G a_mo a_mo_numbers a_mo_boxes a_mo_uses a_mo_words a_mo_weeks a_mo_routes a_mo_turns a_mo_leave a_mo_leases a_mo_arcFrom a_mo_arcTo a_mo_arcRoom a_mo_arcCost a_mo_far a_mo_by a_mo_best a_mo_tape a_mo_kept m_arcs m_tapeMany m_tokenKind m_tokenAt m_tokenEnd m_tokenValue m_fault m_seen m_isKept m_place m_numbers m_boxes m_uses)) (F0 m 71 ls []) := by
  obtain ⟨hx, hb, -⟩ := id X.1
  intro H locs hW ls hl
  rw [fX7_owesOf_71] at h
  refine lv_iconst hx hb dX7_owesOf_71 qI_0 ?_
  exact tX7_owesOf_72 X v1 v2 v3 v4 v5 v6 (0 : Int32) k_6 Hk_6 h H locs hW ls hl
set_option maxHeartbeats 4000000 in
set_option maxRecDepth 100000 in
theorem tX7_owesOf_6 (X : Bx p s m args meth c cX7_owesOf 8 wsX7_owesOf RX7 (some .int)) (v1 : Int32) (v2 : Int32) (v3 : Int32)   : ∀ (n : Nat) (v4 : Int32) (v5 : Int32), fX7_owesOf_6 v1 v2 v3 m_numbers m_boxes m_uses n v4 v5 = some res → ∀ (H : Heap) (locs : List Loc), Wo G A s (wX7_owesOf G a_mo a_mo_numbers a_mo_boxes a_mo_uses a_mo_words a_mo_weeks a_mo_routes a_mo_turns a_mo_leave a_mo_leases a_mo_arcFrom a_mo_arcTo a_mo_arcRoom a_mo_arcCost a_mo_far a_mo_by a_mo_best a_mo_tape a_mo_kept m_arcs m_tapeMany m_tokenKind m_tokenAt m_tokenEnd m_tokenValue m_fault m_seen m_isKept m_place m_numbers m_boxes m_uses) H locs → ∀ ls : Array Slot, lv_has ls 8 [(0, .ref a_mo), (1, .int v1), (2, .int v2), (3, .int v3), (4, .int v4), (5, .int v5)] → W p l e rmX7_owesOf s m args below meth c H locs 0 0 (QI G A below args s res (wX7_owesOf G a_mo a_mo_numbers a_mo_boxes a_mo_uses a_mo_words a_mo_weeks a_mo_routes a_mo_turns a_mo_leave a_mo_leases a_mo_arcFrom a_mo_arcTo a_mo_arcRoom a_mo_arcCost a_mo_far a_mo_by a_mo_best a_mo_tape a_mo_kept m_arcs m_tapeMany m_tokenKind m_tokenAt m_tokenEnd m_tokenValue m_fault m_seen m_isKept m_place m_numbers m_boxes m_uses)) (F0 m 6 ls []) := by
  obtain ⟨hx, hb, -⟩ := id X.1
  intro n
  induction n with
  | zero => intro v4 v5 h; rw [fX7_owesOf_6] at h; cases h
  | succ n ih =>
    intro v4 v5 h H locs hW ls hl
    rw [fX7_owesOf_6] at h
    refine lv_iload hx hb dX7_owesOf_6 (lv_at hl 5 rfl) ?_
    refine lv_aload_n hx hb dX7_owesOf_8 rfl (lv_at hl 0 rfl) ?_
    refine g_get X hW eX7_owesOf_7 0 rfl rfl dX7_owesOf_9 ?_
    refine lv_bipush hx hb dX7_owesOf_12 qB_6 ?_
    obtain ⟨g40, h⟩ := gd_some h
    refine g_ald X hW 1 rfl g40 dX7_owesOf_14 ?_
    refine lv_icmp_ge (tgt := 139) hx hb dX7_owesOf_15 (by decide) (fun c41 => ?_) (fun c41 => ?_)
    · have h := (if_pos c41).symm.trans h
      refine lv_iload hx hb dX7_owesOf_139 (lv_at hl 4 rfl) ?_
      obtain rfl := Option.some.inj h
      exact g_iret X hW dX7_owesOf_141
    · have h := (if_neg c41).symm.trans h
      refine lv_aload_n hx hb dX7_owesOf_18 rfl (lv_at hl 0 rfl) ?_
      refine g_get X hW eX7_owesOf_34 0 rfl rfl dX7_owesOf_19 ?_
      refine lv_bipush hx hb dX7_owesOf_22 qB_6 ?_
      refine lv_iload hx hb dX7_owesOf_24 (lv_at hl 5 rfl) ?_
      refine lv_imul hx hb dX7_owesOf_26 ?_
      refine lv_iconst hx hb dX7_owesOf_27 qI_5 ?_
      refine lv_iadd hx hb dX7_owesOf_28 ?_
      obtain ⟨g51, h⟩ := gd_some h
      refine g_ald X hW 3 rfl g51 dX7_owesOf_29 ?_
      refine lv_istore (lv' := [(6, .int (m_uses (((6 : Int32) * v5) + (5 : Int32)).toNatClampNeg)), (0, .ref a_mo), (1, .int v1), (2, .int v2), (3, .int v3), (4, .int v4), (5, .int v5)]) hx hb dX7_owesOf_30 hl (by decide) rfl (fun ls hl => ?_)
      refine lv_aload_n hx hb dX7_owesOf_32 rfl (lv_at hl 1 rfl) ?_
      refine g_get X hW eX7_owesOf_34 0 rfl rfl dX7_owesOf_33 ?_
      refine lv_bipush hx hb dX7_owesOf_36 qB_6 ?_
      refine lv_iload hx hb dX7_owesOf_38 (lv_at hl 6 rfl) ?_
      refine lv_imul hx hb dX7_owesOf_40 ?_
      refine lv_iconst hx hb dX7_owesOf_41 qI_1 ?_
      refine lv_iadd hx hb dX7_owesOf_42 ?_
      obtain ⟨g60, h⟩ := gd_some h
      refine g_ald X hW 3 rfl g60 dX7_owesOf_43 ?_
      refine lv_iload_n hx hb dX7_owesOf_44 rfl (lv_at hl 2 rfl) ?_
      refine lv_icmp_ne (tgt := 71) hx hb dX7_owesOf_45 (by decide) (fun c62 => ?_) (fun c62 => ?_)
      · have h := (if_neg c62).symm.trans h
        exact tX7_owesOf_71 X v1 v2 v3 v4 v5 (m_uses (((6 : Int32) * v5) + (5 : Int32)).toNatClampNeg) (fun v4 v5 => fX7_owesOf_6 v1 v2 v3 m_numbers m_boxes m_uses n v4 v5) ih h H locs hW ls (lv_sub hl [1, 2, 3, 4, 5, 6, 0] rfl)
      · have h := (if_pos c62).symm.trans h
        refine lv_aload_n hx hb dX7_owesOf_48 rfl (lv_at hl 1 rfl) ?_
        refine lv_aload_n hx hb dX7_owesOf_49 rfl (lv_at hl 1 rfl) ?_
        refine g_get X hW eX7_owesOf_34 0 rfl rfl dX7_owesOf_50 ?_
        refine lv_bipush hx hb dX7_owesOf_53 qB_6 ?_
        refine lv_iload hx hb dX7_owesOf_55 (lv_at hl 6 rfl) ?_
        refine lv_imul hx hb dX7_owesOf_57 ?_
        obtain ⟨g69, h⟩ := gd_some h
        refine g_ald X hW 3 rfl g69 dX7_owesOf_58 ?_
        refine lv_iconst hx hb dX7_owesOf_59 qI_2 ?_
        obtain ⟨r71, hq, h⟩ := bn1_some h
        refine g_cvi X hW (As := [.int (m_uses ((6 : Int32) * v5).toNatClampNeg), .int (2 : Int32)]) (ws' := (wX7_owesOf G a_mo a_mo_numbers a_mo_boxes a_mo_uses a_mo_words a_mo_weeks a_mo_routes a_mo_turns a_mo_leave a_mo_leases a_mo_arcFrom a_mo_arcTo a_mo_arcRoom a_mo_arcCost a_mo_far a_mo_by a_mo_best a_mo_tape a_mo_kept m_arcs m_tapeMany m_tokenKind m_tokenAt m_tokenEnd m_tokenValue m_fault m_seen m_isKept m_place m_numbers m_boxes m_uses)) ckX7_owesOf_X7_get_68 (kcX7_get (l := l) G a_mo a_mo_boxes a_mo_numbers a_mo_words a_mo_weeks a_mo_routes a_mo_turns a_mo_leave a_mo_leases a_mo_uses a_mo_arcFrom a_mo_arcTo a_mo_arcRoom a_mo_arcCost a_mo_far a_mo_by a_mo_best a_mo_tape a_mo_kept (m_uses ((6 : Int32) * v5).toNatClampNeg) (2 : Int32) m_arcs m_tapeMany m_tokenKind m_tokenAt m_tokenEnd m_tokenValue m_fault m_seen m_isKept m_place m_boxes hq) ⟨rfl, rfl, Nat.le_of_ble_eq_true rfl, Nat.le_of_ble_eq_true rfl⟩ [0, 2] rfl rfl rfl rfl rfl rfl rfl hl.1 (Nat.le_of_ble_eq_true rfl) ⟨Nat.zero_le _, Nat.zero_le _⟩ dX7_owesOf_60 (fun H locs hW => ?_)
        refine lv_iload_n hx hb dX7_owesOf_63 rfl (lv_at hl 3 rfl) ?_
        refine lv_icmp_ne (tgt := 71) hx hb dX7_owesOf_64 (by decide) (fun c73 => ?_) (fun c73 => ?_)
        · have h := (if_neg c73).symm.trans h
          exact tX7_owesOf_71 X v1 v2 v3 v4 v5 (m_uses (((6 : Int32) * v5) + (5 : Int32)).toNatClampNeg) (fun v4 v5 => fX7_owesOf_6 v1 v2 v3 m_numbers m_boxes m_uses n v4 v5) ih h H locs hW ls (lv_sub hl [1, 2, 3, 4, 5, 6, 0] rfl)
        · have h := (if_pos c73).symm.trans h
          refine lv_iconst hx hb dX7_owesOf_67 qI_1 ?_
          refine lv_goto (tgt := 72) hx hb dX7_owesOf_68 (by decide) ?_
          exact tX7_owesOf_72 X v1 v2 v3 v4 v5 (m_uses (((6 : Int32) * v5) + (5 : Int32)).toNatClampNeg) (1 : Int32) (fun v4 v5 => fX7_owesOf_6 v1 v2 v3 m_numbers m_boxes m_uses n v4 v5) ih h H locs hW ls (lv_sub hl [1, 2, 3, 4, 5, 6, 0] rfl)
set_option maxHeartbeats 4000000 in
set_option maxRecDepth 100000 in
theorem k0X7_owesOf {l : Launch} (G : Gt) (a_mo a_mo_numbers a_mo_boxes a_mo_uses a_mo_words a_mo_weeks a_mo_routes a_mo_turns a_mo_leave a_mo_leases a_mo_arcFrom a_mo_arcTo a_mo_arcRoom a_mo_arcCost a_mo_far a_mo_by a_mo_best a_mo_tape a_mo_kept : Nat) (v1 : Int32) (v2 : Int32) (v3 : Int32) (m_arcs : Int32) (m_tapeMany : Int32) (m_tokenKind : Int32) (m_tokenAt : Int32) (m_tokenEnd : Int32) (m_tokenValue : Int32) (m_fault : Int32) (m_seen : Int32) (m_isKept : Int32) (m_place : Int32) (m_numbers : (Nat → Int32)) (m_boxes : (Nat → Int32)) (m_uses : (Nat → Int32)) {res : Int32} (h : fX7_owesOf v1 v2 v3 m_numbers m_boxes m_uses = some res) : CtI G l yX7_owesOf wsX7_owesOf rmX7_owesOf [.ref a_mo, .int v1, .int v2, .int v3] (wX7_owesOf G a_mo a_mo_numbers a_mo_boxes a_mo_uses a_mo_words a_mo_weeks a_mo_routes a_mo_turns a_mo_leave a_mo_leases a_mo_arcFrom a_mo_arcTo a_mo_arcRoom a_mo_arcCost a_mo_far a_mo_by a_mo_best a_mo_tape a_mo_kept m_arcs m_tapeMany m_tokenKind m_tokenAt m_tokenEnd m_tokenValue m_fault m_seen m_isKept m_place m_numbers m_boxes m_uses) res (wX7_owesOf G a_mo a_mo_numbers a_mo_boxes a_mo_uses a_mo_words a_mo_weeks a_mo_routes a_mo_turns a_mo_leave a_mo_leases a_mo_arcFrom a_mo_arcTo a_mo_arcRoom a_mo_arcCost a_mo_far a_mo_by a_mo_best a_mo_tape a_mo_kept m_arcs m_tapeMany m_tokenKind m_tokenAt m_tokenEnd m_tokenValue m_fault m_seen m_isKept m_place m_numbers m_boxes m_uses) := by
  refine CtI.mk (cc := cX7_owesOf) (maxL := 8) (ret := (some .int)) (own := RX7) (by decide) rfl rfl (Nat.le_of_ble_eq_true rfl) ?_
  intro p e s m below meth c A X ls hl hW
  obtain ⟨hx, hb, -⟩ := id X.1
  have hl : lv_has ls 8 [(0, .ref a_mo), (1, .int v1), (2, .int v2), (3, .int v3)] := hl
  generalize hH : s.heap = H at hW ⊢
  generalize hLo : ([] : List Loc) = locs at hW ⊢
  rw [fX7_owesOf] at h
  refine lv_iconst hx hb dX7_owesOf_0 qI_0 ?_
  refine lv_istore (lv' := [(4, .int (0 : Int32)), (0, .ref a_mo), (1, .int v1), (2, .int v2), (3, .int v3)]) hx hb dX7_owesOf_1 hl (by decide) rfl (fun ls hl => ?_)
  refine lv_iconst hx hb dX7_owesOf_3 qI_0 ?_
  refine lv_istore (lv' := [(5, .int (0 : Int32)), (4, .int (0 : Int32)), (0, .ref a_mo), (1, .int v1), (2, .int v2), (3, .int v3)]) hx hb dX7_owesOf_4 hl (by decide) rfl (fun ls hl => ?_)
  exact tX7_owesOf_6 X v1 v2 v3 FU (0 : Int32) (0 : Int32) h H locs hW ls (lv_sub hl [2, 3, 4, 5, 1, 0] rfl)
theorem kcX7_owesOf {l : Launch} (G : Gt) (a_mo a_mo_numbers a_mo_boxes a_mo_uses a_mo_words a_mo_weeks a_mo_routes a_mo_turns a_mo_leave a_mo_leases a_mo_arcFrom a_mo_arcTo a_mo_arcRoom a_mo_arcCost a_mo_far a_mo_by a_mo_best a_mo_tape a_mo_kept : Nat) (v1 : Int32) (v2 : Int32) (v3 : Int32) (m_arcs : Int32) (m_tapeMany : Int32) (m_tokenKind : Int32) (m_tokenAt : Int32) (m_tokenEnd : Int32) (m_tokenValue : Int32) (m_fault : Int32) (m_seen : Int32) (m_isKept : Int32) (m_place : Int32) (m_numbers : (Nat → Int32)) (m_boxes : (Nat → Int32)) (m_uses : (Nat → Int32)) {r : Int32}  (h : fX7_owesOf v1 v2 v3 m_numbers m_boxes m_uses = some r) : CtI G l yX7_owesOf wsX7_owesOf rmX7_owesOf [.ref a_mo, .int v1, .int v2, .int v3] (wX7_owesOf G a_mo a_mo_numbers a_mo_boxes a_mo_uses a_mo_words a_mo_weeks a_mo_routes a_mo_turns a_mo_leave a_mo_leases a_mo_arcFrom a_mo_arcTo a_mo_arcRoom a_mo_arcCost a_mo_far a_mo_by a_mo_best a_mo_tape a_mo_kept m_arcs m_tapeMany m_tokenKind m_tokenAt m_tokenEnd m_tokenValue m_fault m_seen m_isKept m_place m_numbers m_boxes m_uses) r (wX7_owesOf G a_mo a_mo_numbers a_mo_boxes a_mo_uses a_mo_words a_mo_weeks a_mo_routes a_mo_turns a_mo_leave a_mo_leases a_mo_arcFrom a_mo_arcTo a_mo_arcRoom a_mo_arcCost a_mo_far a_mo_by a_mo_best a_mo_tape a_mo_kept m_arcs m_tapeMany m_tokenKind m_tokenAt m_tokenEnd m_tokenValue m_fault m_seen m_isKept m_place m_numbers m_boxes m_uses) := k0X7_owesOf G a_mo a_mo_numbers a_mo_boxes a_mo_uses a_mo_words a_mo_weeks a_mo_routes a_mo_turns a_mo_leave a_mo_leases a_mo_arcFrom a_mo_arcTo a_mo_arcRoom a_mo_arcCost a_mo_far a_mo_by a_mo_best a_mo_tape a_mo_kept v1 v2 v3 m_arcs m_tapeMany m_tokenKind m_tokenAt m_tokenEnd m_tokenValue m_fault m_seen m_isKept m_place m_numbers m_boxes m_uses h
end MX7_owesOf
/-! EmptyBoxesModel.net -/
section MX7_net
theorem hdX7_net : yX7_net.cls = RX7 ∧ yX7_net.cls ≠ "java/lang/invoke/MethodHandle" ∧ yX7_net.cls ≠ "java/lang/invoke/VarHandle" ∧ (parseMethodDescriptor yX7_net.desc).map (fun d => d.parameters.length) = some 2 := by decide +kernel
abbrev wX7_net (G : Gt) (a_mo a_mo_numbers a_mo_boxes a_mo_uses a_mo_words a_mo_weeks a_mo_routes a_mo_turns a_mo_leave a_mo_leases a_mo_arcFrom a_mo_arcTo a_mo_arcRoom a_mo_arcCost a_mo_far a_mo_by a_mo_best a_mo_tape a_mo_kept : Nat) (m_arcs : Int32) (m_tapeMany : Int32) (m_tokenKind : Int32) (m_tokenAt : Int32) (m_tokenEnd : Int32) (m_tokenValue : Int32) (m_fault : Int32) (m_seen : Int32) (m_isKept : Int32) (m_place : Int32) (m_numbers : (Nat → Int32)) (m_boxes : (Nat → Int32)) (m_uses : (Nat → Int32)) : va_W := [(a_mo, .inr (7, [.ref a_mo_numbers, .ref a_mo_boxes, .ref a_mo_words, .ref a_mo_weeks, .ref a_mo_routes, .ref a_mo_turns, .ref a_mo_leave, .ref a_mo_leases, .ref a_mo_uses, .ref a_mo_arcFrom, .ref a_mo_arcTo, .ref a_mo_arcRoom, .ref a_mo_arcCost, .int m_arcs, .ref a_mo_far, .ref a_mo_by, .ref a_mo_best, .ref a_mo_tape, .int m_tapeMany, .int m_tokenKind, .int m_tokenAt, .int m_tokenEnd, .int m_tokenValue, .int m_fault, .int m_seen, .int m_isKept, .ref a_mo_kept, .int m_place])), (a_mo_numbers, .inl (G.2.1, 10, .inl m_numbers)), (a_mo_boxes, .inl (G.2.1, 216, .inl m_boxes)), (a_mo_uses, .inl (G.2.1, 240, .inl m_uses))]
abbrev rmX7_net : Room := { frames := 2, cells := 0, slots := 0, locals := 49 }
theorem ckX7_net_X7_isLine_72 : CkS wsX7_net RX7 72 yX7_isLine wsX7_isLine cX7_isLine 1 (some .boolean) 1 := ⟨_, gX7_net_X7_isLine, rfl, hdX7_isLine.2⟩
theorem ckX7_net_X7_isPast_87 : CkV wsX7_net RX7 87 yX7_isPast wsX7_isPast cX7_isPast 2 (some .boolean) 1 7 := ⟨RX7, TX7, 28, _, rfl, gX7_net_X7_isPast, rfl, hdX7_isPast⟩
theorem ckX7_net_X7_owesOf_202 : CkV wsX7_net RX7 202 yX7_owesOf wsX7_owesOf cX7_owesOf 8 (some .int) 3 7 := ⟨RX7, TX7, 28, _, rfl, gX7_net_X7_owesOf, rfl, hdX7_owesOf⟩
theorem cwX7_net_117 : Cond.constant RX7 117 1000000 ∈ wsX7_net := by decide +kernel
variable {p : Program} {l : Launch} {e : Env} {s : State} {m : MethodId} {args : Array Value} {below : List Frame} {meth : Method} {c : Code} {A : Nat → Prop} {G : Gt} {a_mo a_mo_numbers a_mo_boxes a_mo_uses a_mo_words a_mo_weeks a_mo_routes a_mo_turns a_mo_leave a_mo_leases a_mo_arcFrom a_mo_arcTo a_mo_arcRoom a_mo_arcCost a_mo_far a_mo_by a_mo_best a_mo_tape a_mo_kept : Nat} {m_arcs : Int32} {m_tapeMany : Int32} {m_tokenKind : Int32} {m_tokenAt : Int32} {m_tokenEnd : Int32} {m_tokenValue : Int32} {m_fault : Int32} {m_seen : Int32} {m_isKept : Int32} {m_place : Int32} {m_numbers : (Nat → Int32)} {m_boxes : (Nat → Int32)} {m_uses : (Nat → Int32)} {res : Int32}
set_option maxHeartbeats 4000000 in
set_option maxRecDepth 100000 in
theorem tX7_net_23 (X : Bx p s m args meth c cX7_net 5 wsX7_net RX7 (some .int)) (v1 : Int32) (v2 : Int32)   : ∀ (n : Nat) (v3 : Int32) (v4 : Int32), fX7_net_23 v1 v2 m_numbers m_boxes m_uses n v3 v4 = some res → ∀ (H : Heap) (locs : List Loc), Wo G A s (wX7_net G a_mo a_mo_numbers a_mo_boxes a_mo_uses a_mo_words a_mo_weeks a_mo_routes a_mo_turns a_mo_leave a_mo_leases a_mo_arcFrom a_mo_arcTo a_mo_arcRoom a_mo_arcCost a_mo_far a_mo_by a_mo_best a_mo_tape a_mo_kept m_arcs m_tapeMany m_tokenKind m_tokenAt m_tokenEnd m_tokenValue m_fault m_seen m_isKept m_place m_numbers m_boxes m_uses) H locs → ∀ ls : Array Slot, lv_has ls 5 [(0, .ref a_mo), (1, .int v1), (2, .int v2), (3, .int v3), (4, .int v4)] → W p l e rmX7_net s m args below meth c H locs 0 0 (QI G A below args s res (wX7_net G a_mo a_mo_numbers a_mo_boxes a_mo_uses a_mo_words a_mo_weeks a_mo_routes a_mo_turns a_mo_leave a_mo_leases a_mo_arcFrom a_mo_arcTo a_mo_arcRoom a_mo_arcCost a_mo_far a_mo_by a_mo_best a_mo_tape a_mo_kept m_arcs m_tapeMany m_tokenKind m_tokenAt m_tokenEnd m_tokenValue m_fault m_seen m_isKept m_place m_numbers m_boxes m_uses)) (F0 m 23 ls []) := by
  obtain ⟨hx, hb, -⟩ := id X.1
  intro n
  induction n with
  | zero => intro v3 v4 h; rw [fX7_net_23] at h; cases h
  | succ n ih =>
    intro v3 v4 h H locs hW ls hl
    rw [fX7_net_23] at h
    refine lv_iload hx hb dX7_net_23 (lv_at hl 4 rfl) ?_
    refine lv_iconst hx hb dX7_net_25 qI_4 ?_
    refine lv_icmp_ge (tgt := 55) hx hb dX7_net_26 (by decide) (fun c3 => ?_) (fun c3 => ?_)
    · have h := (if_pos c3).symm.trans h
      refine lv_iload_n hx hb dX7_net_55 rfl (lv_at hl 3 rfl) ?_
      obtain rfl := Option.some.inj h
      exact g_iret X hW dX7_net_56
    · have h := (if_neg c3).symm.trans h
      refine lv_iload_n hx hb dX7_net_29 rfl (lv_at hl 3 rfl) ?_
      refine lv_aload_n hx hb dX7_net_30 rfl (lv_at hl 0 rfl) ?_
      refine lv_iload hx hb dX7_net_31 (lv_at hl 4 rfl) ?_
      refine lv_iload_n hx hb dX7_net_33 rfl (lv_at hl 1 rfl) ?_
      refine lv_iload_n hx hb dX7_net_34 rfl (lv_at hl 2 rfl) ?_
      obtain ⟨r11, hq, h⟩ := bn1_some h
      refine g_cvi X hW (As := [.int v4, .int v1, .int v2]) (ws' := (wX7_net G a_mo a_mo_numbers a_mo_boxes a_mo_uses a_mo_words a_mo_weeks a_mo_routes a_mo_turns a_mo_leave a_mo_leases a_mo_arcFrom a_mo_arcTo a_mo_arcRoom a_mo_arcCost a_mo_far a_mo_by a_mo_best a_mo_tape a_mo_kept m_arcs m_tapeMany m_tokenKind m_tokenAt m_tokenEnd m_tokenValue m_fault m_seen m_isKept m_place m_numbers m_boxes m_uses)) ckX7_net_X7_owesOf_202 (kcX7_owesOf (l := l) G a_mo a_mo_numbers a_mo_boxes a_mo_uses a_mo_words a_mo_weeks a_mo_routes a_mo_turns a_mo_leave a_mo_leases a_mo_arcFrom a_mo_arcTo a_mo_arcRoom a_mo_arcCost a_mo_far a_mo_by a_mo_best a_mo_tape a_mo_kept v4 v1 v2 m_arcs m_tapeMany m_tokenKind m_tokenAt m_tokenEnd m_tokenValue m_fault m_seen m_isKept m_place m_numbers m_boxes m_uses hq) ⟨rfl, rfl, Nat.le_of_ble_eq_true rfl, Nat.le_of_ble_eq_true rfl⟩ [0, 1, 2, 3] rfl rfl rfl rfl rfl rfl rfl hl.1 (Nat.le_of_ble_eq_true rfl) ⟨Nat.zero_le _, Nat.zero_le _⟩ dX7_net_35 (fun H locs hW => ?_)
      refine lv_aload_n hx hb dX7_net_38 rfl (lv_at hl 0 rfl) ?_
      refine lv_iload_n hx hb dX7_net_39 rfl (lv_at hl 1 rfl) ?_
      refine lv_iload hx hb dX7_net_40 (lv_at hl 4 rfl) ?_
      refine lv_iload_n hx hb dX7_net_42 rfl (lv_at hl 2 rfl) ?_
      obtain ⟨r16, hq, h⟩ := bn1_some h
      refine g_cvi X hW (As := [.int v1, .int v4, .int v2]) (ws' := (wX7_net G a_mo a_mo_numbers a_mo_boxes a_mo_uses a_mo_words a_mo_weeks a_mo_routes a_mo_turns a_mo_leave a_mo_leases a_mo_arcFrom a_mo_arcTo a_mo_arcRoom a_mo_arcCost a_mo_far a_mo_by a_mo_best a_mo_tape a_mo_kept m_arcs m_tapeMany m_tokenKind m_tokenAt m_tokenEnd m_tokenValue m_fault m_seen m_isKept m_place m_numbers m_boxes m_uses)) ckX7_net_X7_owesOf_202 (kcX7_owesOf (l := l) G a_mo a_mo_numbers a_mo_boxes a_mo_uses a_mo_words a_mo_weeks a_mo_routes a_mo_turns a_mo_leave a_mo_leases a_mo_arcFrom a_mo_arcTo a_mo_arcRoom a_mo_arcCost a_mo_far a_mo_by a_mo_best a_mo_tape a_mo_kept v1 v4 v2 m_arcs m_tapeMany m_tokenKind m_tokenAt m_tokenEnd m_tokenValue m_fault m_seen m_isKept m_place m_numbers m_boxes m_uses hq) ⟨rfl, rfl, Nat.le_of_ble_eq_true rfl, Nat.le_of_ble_eq_true rfl⟩ [0, 1, 2, 3] rfl rfl rfl rfl rfl rfl rfl hl.1 (Nat.le_of_ble_eq_true rfl) ⟨Nat.zero_le _, Nat.zero_le _⟩ dX7_net_43 (fun H locs hW => ?_)
      refine lv_isub hx hb dX7_net_46 ?_
      refine lv_iadd hx hb dX7_net_47 ?_
      refine lv_istore_n (lv' := [(3, .int (v3 + (r11 - r16))), (0, .ref a_mo), (1, .int v1), (2, .int v2), (4, .int v4)]) hx hb dX7_net_48 rfl hl (by decide) rfl (fun ls hl => ?_)
      refine lv_iinc (v := (v4 + (1 : Int32))) (lv' := [(4, .int (v4 + (1 : Int32))), (3, .int (v3 + (r11 - r16))), (0, .ref a_mo), (1, .int v1), (2, .int v2)]) hx hb dX7_net_49 hl (k := 4) rfl (congrArg (fun z => v4 + z) qI_1) (by decide) rfl (fun ls hl => ?_)
      refine lv_goto (tgt := 23) hx hb dX7_net_52 (by decide) ?_
      exact ih (v3 + (r11 - r16)) (v4 + (1 : Int32)) h H locs hW ls (lv_sub hl [2, 3, 4, 1, 0] rfl)
set_option maxHeartbeats 4000000 in
set_option maxRecDepth 100000 in
theorem k0X7_net {l : Launch} (G : Gt) (a_mo a_mo_numbers a_mo_boxes a_mo_uses a_mo_words a_mo_weeks a_mo_routes a_mo_turns a_mo_leave a_mo_leases a_mo_arcFrom a_mo_arcTo a_mo_arcRoom a_mo_arcCost a_mo_far a_mo_by a_mo_best a_mo_tape a_mo_kept : Nat) (v1 : Int32) (v2 : Int32) (m_arcs : Int32) (m_tapeMany : Int32) (m_tokenKind : Int32) (m_tokenAt : Int32) (m_tokenEnd : Int32) (m_tokenValue : Int32) (m_fault : Int32) (m_seen : Int32) (m_isKept : Int32) (m_place : Int32) (m_numbers : (Nat → Int32)) (m_boxes : (Nat → Int32)) (m_uses : (Nat → Int32)) {res : Int32} (h : fX7_net v1 v2 m_numbers m_boxes m_uses = some res) : CtI G l yX7_net wsX7_net rmX7_net [.ref a_mo, .int v1, .int v2] (wX7_net G a_mo a_mo_numbers a_mo_boxes a_mo_uses a_mo_words a_mo_weeks a_mo_routes a_mo_turns a_mo_leave a_mo_leases a_mo_arcFrom a_mo_arcTo a_mo_arcRoom a_mo_arcCost a_mo_far a_mo_by a_mo_best a_mo_tape a_mo_kept m_arcs m_tapeMany m_tokenKind m_tokenAt m_tokenEnd m_tokenValue m_fault m_seen m_isKept m_place m_numbers m_boxes m_uses) res (wX7_net G a_mo a_mo_numbers a_mo_boxes a_mo_uses a_mo_words a_mo_weeks a_mo_routes a_mo_turns a_mo_leave a_mo_leases a_mo_arcFrom a_mo_arcTo a_mo_arcRoom a_mo_arcCost a_mo_far a_mo_by a_mo_best a_mo_tape a_mo_kept m_arcs m_tapeMany m_tokenKind m_tokenAt m_tokenEnd m_tokenValue m_fault m_seen m_isKept m_place m_numbers m_boxes m_uses) := by
  refine CtI.mk (cc := cX7_net) (maxL := 5) (ret := (some .int)) (own := RX7) (by decide) rfl rfl (Nat.le_of_ble_eq_true rfl) ?_
  intro p e s m below meth c A X ls hl hW
  obtain ⟨hx, hb, -⟩ := id X.1
  have hl : lv_has ls 5 [(0, .ref a_mo), (1, .int v1), (2, .int v2)] := hl
  generalize hH : s.heap = H at hW ⊢
  generalize hLo : ([] : List Loc) = locs at hW ⊢
  rw [fX7_net] at h
  refine lv_iload_n hx hb dX7_net_0 rfl (lv_at hl 1 rfl) ?_
  obtain ⟨r23, hq, h⟩ := bn1_some h
  refine g_csi X hW (As := [.int v1]) (ws' := (wX7_net G a_mo a_mo_numbers a_mo_boxes a_mo_uses a_mo_words a_mo_weeks a_mo_routes a_mo_turns a_mo_leave a_mo_leases a_mo_arcFrom a_mo_arcTo a_mo_arcRoom a_mo_arcCost a_mo_far a_mo_by a_mo_best a_mo_tape a_mo_kept m_arcs m_tapeMany m_tokenKind m_tokenAt m_tokenEnd m_tokenValue m_fault m_seen m_isKept m_place m_numbers m_boxes m_uses)) ckX7_net_X7_isLine_72 (kcX7_isLine (l := l) G v1 hq) ⟨rfl, rfl, Nat.le_of_ble_eq_true rfl, Nat.le_of_ble_eq_true rfl⟩ [] rfl rfl rfl rfl rfl rfl hl.1 (Nat.le_of_ble_eq_true rfl) ⟨Nat.zero_le _, Nat.zero_le _⟩ dX7_net_1 (fun H locs hW => ?_)
  refine lv_if_eq (tgt := 15) hx hb dX7_net_4 (by decide) (fun c24 => ?_) (fun c24 => ?_)
  · have h := (if_pos c24).symm.trans h
    refine lv_iconst hx hb dX7_net_15 qI_m1 ?_
    obtain rfl := Option.some.inj h
    exact g_iret X hW dX7_net_16
  · have h := (if_neg c24).symm.trans h
    refine lv_aload_n hx hb dX7_net_7 rfl (lv_at hl 0 rfl) ?_
    refine lv_iload_n hx hb dX7_net_8 rfl (lv_at hl 2 rfl) ?_
    obtain ⟨r29, hq, h⟩ := bn1_some h
    refine g_cvi X hW (As := [.int v2]) (ws' := (wX7_net G a_mo a_mo_numbers a_mo_boxes a_mo_uses a_mo_words a_mo_weeks a_mo_routes a_mo_turns a_mo_leave a_mo_leases a_mo_arcFrom a_mo_arcTo a_mo_arcRoom a_mo_arcCost a_mo_far a_mo_by a_mo_best a_mo_tape a_mo_kept m_arcs m_tapeMany m_tokenKind m_tokenAt m_tokenEnd m_tokenValue m_fault m_seen m_isKept m_place m_numbers m_boxes m_uses)) ckX7_net_X7_isPast_87 (kcX7_isPast (l := l) G a_mo a_mo_numbers a_mo_boxes a_mo_words a_mo_weeks a_mo_routes a_mo_turns a_mo_leave a_mo_leases a_mo_uses a_mo_arcFrom a_mo_arcTo a_mo_arcRoom a_mo_arcCost a_mo_far a_mo_by a_mo_best a_mo_tape a_mo_kept v2 m_arcs m_tapeMany m_tokenKind m_tokenAt m_tokenEnd m_tokenValue m_fault m_seen m_isKept m_place m_numbers hq) ⟨rfl, rfl, Nat.le_of_ble_eq_true rfl, Nat.le_of_ble_eq_true rfl⟩ [0, 1] rfl rfl rfl rfl rfl rfl rfl hl.1 (Nat.le_of_ble_eq_true rfl) ⟨Nat.zero_le _, Nat.zero_le _⟩ dX7_net_9 (fun H locs hW => ?_)
    refine lv_if_ne (tgt := 17) hx hb dX7_net_12 (by decide) (fun c30 => ?_) (fun c30 => ?_)
    · have h := (if_neg c30).symm.trans h
      refine lv_ldc hx hb X.1.2.2.2.1 (X.1.2.2.2.2 _ cwX7_net_117) dX7_net_17 ?_
      refine lv_istore_n (lv' := [(3, .int (1000000 : Int32)), (0, .ref a_mo), (1, .int v1), (2, .int v2)]) hx hb dX7_net_19 rfl hl (by decide) rfl (fun ls hl => ?_)
      refine lv_iconst hx hb dX7_net_20 qI_0 ?_
      refine lv_istore (lv' := [(4, .int (0 : Int32)), (3, .int (1000000 : Int32)), (0, .ref a_mo), (1, .int v1), (2, .int v2)]) hx hb dX7_net_21 hl (by decide) rfl (fun ls hl => ?_)
      exact tX7_net_23 X v1 v2 FU (1000000 : Int32) (0 : Int32) h H locs hW ls (lv_sub hl [2, 3, 4, 1, 0] rfl)
    · have h := (if_pos c30).symm.trans h
      refine lv_iconst hx hb dX7_net_15 qI_m1 ?_
      obtain rfl := Option.some.inj h
      exact g_iret X hW dX7_net_16
theorem kcX7_net {l : Launch} (G : Gt) (a_mo a_mo_numbers a_mo_boxes a_mo_uses a_mo_words a_mo_weeks a_mo_routes a_mo_turns a_mo_leave a_mo_leases a_mo_arcFrom a_mo_arcTo a_mo_arcRoom a_mo_arcCost a_mo_far a_mo_by a_mo_best a_mo_tape a_mo_kept : Nat) (v1 : Int32) (v2 : Int32) (m_arcs : Int32) (m_tapeMany : Int32) (m_tokenKind : Int32) (m_tokenAt : Int32) (m_tokenEnd : Int32) (m_tokenValue : Int32) (m_fault : Int32) (m_seen : Int32) (m_isKept : Int32) (m_place : Int32) (m_numbers : (Nat → Int32)) (m_boxes : (Nat → Int32)) (m_uses : (Nat → Int32)) {r : Int32}  (h : fX7_net v1 v2 m_numbers m_boxes m_uses = some r) : CtI G l yX7_net wsX7_net rmX7_net [.ref a_mo, .int v1, .int v2] (wX7_net G a_mo a_mo_numbers a_mo_boxes a_mo_uses a_mo_words a_mo_weeks a_mo_routes a_mo_turns a_mo_leave a_mo_leases a_mo_arcFrom a_mo_arcTo a_mo_arcRoom a_mo_arcCost a_mo_far a_mo_by a_mo_best a_mo_tape a_mo_kept m_arcs m_tapeMany m_tokenKind m_tokenAt m_tokenEnd m_tokenValue m_fault m_seen m_isKept m_place m_numbers m_boxes m_uses) r (wX7_net G a_mo a_mo_numbers a_mo_boxes a_mo_uses a_mo_words a_mo_weeks a_mo_routes a_mo_turns a_mo_leave a_mo_leases a_mo_arcFrom a_mo_arcTo a_mo_arcRoom a_mo_arcCost a_mo_far a_mo_by a_mo_best a_mo_tape a_mo_kept m_arcs m_tapeMany m_tokenKind m_tokenAt m_tokenEnd m_tokenValue m_fault m_seen m_isKept m_place m_numbers m_boxes m_uses) := k0X7_net G a_mo a_mo_numbers a_mo_boxes a_mo_uses a_mo_words a_mo_weeks a_mo_routes a_mo_turns a_mo_leave a_mo_leases a_mo_arcFrom a_mo_arcTo a_mo_arcRoom a_mo_arcCost a_mo_far a_mo_by a_mo_best a_mo_tape a_mo_kept v1 v2 m_arcs m_tapeMany m_tokenKind m_tokenAt m_tokenEnd m_tokenValue m_fault m_seen m_isKept m_place m_numbers m_boxes m_uses h
end MX7_net
/-! EmptyBoxesModel.owes -/
section MX7_owes
theorem hdX7_owes : yX7_owes.cls = RX7 ∧ yX7_owes.cls ≠ "java/lang/invoke/MethodHandle" ∧ yX7_owes.cls ≠ "java/lang/invoke/VarHandle" ∧ (parseMethodDescriptor yX7_owes.desc).map (fun d => d.parameters.length) = some 3 := by decide +kernel
abbrev wX7_owes (G : Gt) (a_mo a_mo_numbers a_mo_boxes a_mo_uses a_mo_words a_mo_weeks a_mo_routes a_mo_turns a_mo_leave a_mo_leases a_mo_arcFrom a_mo_arcTo a_mo_arcRoom a_mo_arcCost a_mo_far a_mo_by a_mo_best a_mo_tape a_mo_kept : Nat) (m_arcs : Int32) (m_tapeMany : Int32) (m_tokenKind : Int32) (m_tokenAt : Int32) (m_tokenEnd : Int32) (m_tokenValue : Int32) (m_fault : Int32) (m_seen : Int32) (m_isKept : Int32) (m_place : Int32) (m_numbers : (Nat → Int32)) (m_boxes : (Nat → Int32)) (m_uses : (Nat → Int32)) : va_W := [(a_mo, .inr (7, [.ref a_mo_numbers, .ref a_mo_boxes, .ref a_mo_words, .ref a_mo_weeks, .ref a_mo_routes, .ref a_mo_turns, .ref a_mo_leave, .ref a_mo_leases, .ref a_mo_uses, .ref a_mo_arcFrom, .ref a_mo_arcTo, .ref a_mo_arcRoom, .ref a_mo_arcCost, .int m_arcs, .ref a_mo_far, .ref a_mo_by, .ref a_mo_best, .ref a_mo_tape, .int m_tapeMany, .int m_tokenKind, .int m_tokenAt, .int m_tokenEnd, .int m_tokenValue, .int m_fault, .int m_seen, .int m_isKept, .ref a_mo_kept, .int m_place])), (a_mo_numbers, .inl (G.2.1, 10, .inl m_numbers)), (a_mo_boxes, .inl (G.2.1, 216, .inl m_boxes)), (a_mo_uses, .inl (G.2.1, 240, .inl m_uses))]
abbrev rmX7_owes : Room := { frames := 2, cells := 0, slots := 0, locals := 49 }
theorem ckX7_owes_X7_isLine_72 : CkS wsX7_owes RX7 72 yX7_isLine wsX7_isLine cX7_isLine 1 (some .boolean) 1 := ⟨_, gX7_owes_X7_isLine, rfl, hdX7_isLine.2⟩
theorem ckX7_owes_X7_isPast_87 : CkV wsX7_owes RX7 87 yX7_isPast wsX7_isPast cX7_isPast 2 (some .boolean) 1 7 := ⟨RX7, TX7, 28, _, rfl, gX7_owes_X7_isPast, rfl, hdX7_isPast⟩
theorem ckX7_owes_X7_owesOf_202 : CkV wsX7_owes RX7 202 yX7_owesOf wsX7_owesOf cX7_owesOf 8 (some .int) 3 7 := ⟨RX7, TX7, 28, _, rfl, gX7_owes_X7_owesOf, rfl, hdX7_owesOf⟩
variable {p : Program} {l : Launch} {e : Env} {s : State} {m : MethodId} {args : Array Value} {below : List Frame} {meth : Method} {c : Code} {A : Nat → Prop} {G : Gt} {a_mo a_mo_numbers a_mo_boxes a_mo_uses a_mo_words a_mo_weeks a_mo_routes a_mo_turns a_mo_leave a_mo_leases a_mo_arcFrom a_mo_arcTo a_mo_arcRoom a_mo_arcCost a_mo_far a_mo_by a_mo_best a_mo_tape a_mo_kept : Nat} {m_arcs : Int32} {m_tapeMany : Int32} {m_tokenKind : Int32} {m_tokenAt : Int32} {m_tokenEnd : Int32} {m_tokenValue : Int32} {m_fault : Int32} {m_seen : Int32} {m_isKept : Int32} {m_place : Int32} {m_numbers : (Nat → Int32)} {m_boxes : (Nat → Int32)} {m_uses : (Nat → Int32)} {res : Int32}
set_option maxHeartbeats 4000000 in
set_option maxRecDepth 100000 in
theorem k0X7_owes {l : Launch} (G : Gt) (a_mo a_mo_numbers a_mo_boxes a_mo_uses a_mo_words a_mo_weeks a_mo_routes a_mo_turns a_mo_leave a_mo_leases a_mo_arcFrom a_mo_arcTo a_mo_arcRoom a_mo_arcCost a_mo_far a_mo_by a_mo_best a_mo_tape a_mo_kept : Nat) (v1 : Int32) (v2 : Int32) (v3 : Int32) (m_arcs : Int32) (m_tapeMany : Int32) (m_tokenKind : Int32) (m_tokenAt : Int32) (m_tokenEnd : Int32) (m_tokenValue : Int32) (m_fault : Int32) (m_seen : Int32) (m_isKept : Int32) (m_place : Int32) (m_numbers : (Nat → Int32)) (m_boxes : (Nat → Int32)) (m_uses : (Nat → Int32)) {res : Int32} (h : fX7_owes v1 v2 v3 m_numbers m_boxes m_uses = some res) : CtI G l yX7_owes wsX7_owes rmX7_owes [.ref a_mo, .int v1, .int v2, .int v3] (wX7_owes G a_mo a_mo_numbers a_mo_boxes a_mo_uses a_mo_words a_mo_weeks a_mo_routes a_mo_turns a_mo_leave a_mo_leases a_mo_arcFrom a_mo_arcTo a_mo_arcRoom a_mo_arcCost a_mo_far a_mo_by a_mo_best a_mo_tape a_mo_kept m_arcs m_tapeMany m_tokenKind m_tokenAt m_tokenEnd m_tokenValue m_fault m_seen m_isKept m_place m_numbers m_boxes m_uses) res (wX7_owes G a_mo a_mo_numbers a_mo_boxes a_mo_uses a_mo_words a_mo_weeks a_mo_routes a_mo_turns a_mo_leave a_mo_leases a_mo_arcFrom a_mo_arcTo a_mo_arcRoom a_mo_arcCost a_mo_far a_mo_by a_mo_best a_mo_tape a_mo_kept m_arcs m_tapeMany m_tokenKind m_tokenAt m_tokenEnd m_tokenValue m_fault m_seen m_isKept m_place m_numbers m_boxes m_uses) := by
  refine CtI.mk (cc := cX7_owes) (maxL := 4) (ret := (some .int)) (own := RX7) (by decide) rfl rfl (Nat.le_of_ble_eq_true rfl) ?_
  intro p e s m below meth c A X ls hl hW
  obtain ⟨hx, hb, -⟩ := id X.1
  have hl : lv_has ls 4 [(0, .ref a_mo), (1, .int v1), (2, .int v2), (3, .int v3)] := hl
  generalize hH : s.heap = H at hW ⊢
  generalize hLo : ([] : List Loc) = locs at hW ⊢
  rw [fX7_owes] at h
  refine lv_iload_n hx hb dX7_owes_0 rfl (lv_at hl 1 rfl) ?_
  obtain ⟨r2, hq, h⟩ := bn1_some h
  refine g_csi X hW (As := [.int v1]) (ws' := (wX7_owes G a_mo a_mo_numbers a_mo_boxes a_mo_uses a_mo_words a_mo_weeks a_mo_routes a_mo_turns a_mo_leave a_mo_leases a_mo_arcFrom a_mo_arcTo a_mo_arcRoom a_mo_arcCost a_mo_far a_mo_by a_mo_best a_mo_tape a_mo_kept m_arcs m_tapeMany m_tokenKind m_tokenAt m_tokenEnd m_tokenValue m_fault m_seen m_isKept m_place m_numbers m_boxes m_uses)) ckX7_owes_X7_isLine_72 (kcX7_isLine (l := l) G v1 hq) ⟨rfl, rfl, Nat.le_of_ble_eq_true rfl, Nat.le_of_ble_eq_true rfl⟩ [] rfl rfl rfl rfl rfl rfl hl.1 (Nat.le_of_ble_eq_true rfl) ⟨Nat.zero_le _, Nat.zero_le _⟩ dX7_owes_1 (fun H locs hW => ?_)
  refine lv_if_eq (tgt := 32) hx hb dX7_owes_4 (by decide) (fun c3 => ?_) (fun c3 => ?_)
  · have h := (if_pos c3).symm.trans h
    refine lv_iconst hx hb dX7_owes_32 qI_m1 ?_
    obtain rfl := Option.some.inj h
    exact g_iret X hW dX7_owes_33
  · have h := (if_neg c3).symm.trans h
    refine lv_iload_n hx hb dX7_owes_7 rfl (lv_at hl 2 rfl) ?_
    obtain ⟨r7, hq, h⟩ := bn1_some h
    refine g_csi X hW (As := [.int v2]) (ws' := (wX7_owes G a_mo a_mo_numbers a_mo_boxes a_mo_uses a_mo_words a_mo_weeks a_mo_routes a_mo_turns a_mo_leave a_mo_leases a_mo_arcFrom a_mo_arcTo a_mo_arcRoom a_mo_arcCost a_mo_far a_mo_by a_mo_best a_mo_tape a_mo_kept m_arcs m_tapeMany m_tokenKind m_tokenAt m_tokenEnd m_tokenValue m_fault m_seen m_isKept m_place m_numbers m_boxes m_uses)) ckX7_owes_X7_isLine_72 (kcX7_isLine (l := l) G v2 hq) ⟨rfl, rfl, Nat.le_of_ble_eq_true rfl, Nat.le_of_ble_eq_true rfl⟩ [] rfl rfl rfl rfl rfl rfl hl.1 (Nat.le_of_ble_eq_true rfl) ⟨Nat.zero_le _, Nat.zero_le _⟩ dX7_owes_8 (fun H locs hW => ?_)
    refine lv_if_eq (tgt := 32) hx hb dX7_owes_11 (by decide) (fun c8 => ?_) (fun c8 => ?_)
    · have h := (if_pos c8).symm.trans h
      refine lv_iconst hx hb dX7_owes_32 qI_m1 ?_
      obtain rfl := Option.some.inj h
      exact g_iret X hW dX7_owes_33
    · have h := (if_neg c8).symm.trans h
      refine lv_aload_n hx hb dX7_owes_14 rfl (lv_at hl 0 rfl) ?_
      refine lv_iload_n hx hb dX7_owes_15 rfl (lv_at hl 3 rfl) ?_
      obtain ⟨r13, hq, h⟩ := bn1_some h
      refine g_cvi X hW (As := [.int v3]) (ws' := (wX7_owes G a_mo a_mo_numbers a_mo_boxes a_mo_uses a_mo_words a_mo_weeks a_mo_routes a_mo_turns a_mo_leave a_mo_leases a_mo_arcFrom a_mo_arcTo a_mo_arcRoom a_mo_arcCost a_mo_far a_mo_by a_mo_best a_mo_tape a_mo_kept m_arcs m_tapeMany m_tokenKind m_tokenAt m_tokenEnd m_tokenValue m_fault m_seen m_isKept m_place m_numbers m_boxes m_uses)) ckX7_owes_X7_isPast_87 (kcX7_isPast (l := l) G a_mo a_mo_numbers a_mo_boxes a_mo_words a_mo_weeks a_mo_routes a_mo_turns a_mo_leave a_mo_leases a_mo_uses a_mo_arcFrom a_mo_arcTo a_mo_arcRoom a_mo_arcCost a_mo_far a_mo_by a_mo_best a_mo_tape a_mo_kept v3 m_arcs m_tapeMany m_tokenKind m_tokenAt m_tokenEnd m_tokenValue m_fault m_seen m_isKept m_place m_numbers hq) ⟨rfl, rfl, Nat.le_of_ble_eq_true rfl, Nat.le_of_ble_eq_true rfl⟩ [0, 1] rfl rfl rfl rfl rfl rfl rfl hl.1 (Nat.le_of_ble_eq_true rfl) ⟨Nat.zero_le _, Nat.zero_le _⟩ dX7_owes_16 (fun H locs hW => ?_)
      refine lv_if_eq (tgt := 32) hx hb dX7_owes_19 (by decide) (fun c14 => ?_) (fun c14 => ?_)
      · have h := (if_pos c14).symm.trans h
        refine lv_iconst hx hb dX7_owes_32 qI_m1 ?_
        obtain rfl := Option.some.inj h
        exact g_iret X hW dX7_owes_33
      · have h := (if_neg c14).symm.trans h
        refine lv_aload_n hx hb dX7_owes_22 rfl (lv_at hl 0 rfl) ?_
        refine lv_iload_n hx hb dX7_owes_23 rfl (lv_at hl 1 rfl) ?_
        refine lv_iload_n hx hb dX7_owes_24 rfl (lv_at hl 2 rfl) ?_
        refine lv_iload_n hx hb dX7_owes_25 rfl (lv_at hl 3 rfl) ?_
        obtain ⟨r21, hq, h⟩ := bn1_some h
        refine g_cvi X hW (As := [.int v1, .int v2, .int v3]) (ws' := (wX7_owes G a_mo a_mo_numbers a_mo_boxes a_mo_uses a_mo_words a_mo_weeks a_mo_routes a_mo_turns a_mo_leave a_mo_leases a_mo_arcFrom a_mo_arcTo a_mo_arcRoom a_mo_arcCost a_mo_far a_mo_by a_mo_best a_mo_tape a_mo_kept m_arcs m_tapeMany m_tokenKind m_tokenAt m_tokenEnd m_tokenValue m_fault m_seen m_isKept m_place m_numbers m_boxes m_uses)) ckX7_owes_X7_owesOf_202 (kcX7_owesOf (l := l) G a_mo a_mo_numbers a_mo_boxes a_mo_uses a_mo_words a_mo_weeks a_mo_routes a_mo_turns a_mo_leave a_mo_leases a_mo_arcFrom a_mo_arcTo a_mo_arcRoom a_mo_arcCost a_mo_far a_mo_by a_mo_best a_mo_tape a_mo_kept v1 v2 v3 m_arcs m_tapeMany m_tokenKind m_tokenAt m_tokenEnd m_tokenValue m_fault m_seen m_isKept m_place m_numbers m_boxes m_uses hq) ⟨rfl, rfl, Nat.le_of_ble_eq_true rfl, Nat.le_of_ble_eq_true rfl⟩ [0, 1, 2, 3] rfl rfl rfl rfl rfl rfl rfl hl.1 (Nat.le_of_ble_eq_true rfl) ⟨Nat.zero_le _, Nat.zero_le _⟩ dX7_owes_26 (fun H locs hW => ?_)
        refine lv_goto (tgt := 33) hx hb dX7_owes_29 (by decide) ?_
        obtain rfl := Option.some.inj h
        exact g_iret X hW dX7_owes_33
theorem kcX7_owes {l : Launch} (G : Gt) (a_mo a_mo_numbers a_mo_boxes a_mo_uses a_mo_words a_mo_weeks a_mo_routes a_mo_turns a_mo_leave a_mo_leases a_mo_arcFrom a_mo_arcTo a_mo_arcRoom a_mo_arcCost a_mo_far a_mo_by a_mo_best a_mo_tape a_mo_kept : Nat) (v1 : Int32) (v2 : Int32) (v3 : Int32) (m_arcs : Int32) (m_tapeMany : Int32) (m_tokenKind : Int32) (m_tokenAt : Int32) (m_tokenEnd : Int32) (m_tokenValue : Int32) (m_fault : Int32) (m_seen : Int32) (m_isKept : Int32) (m_place : Int32) (m_numbers : (Nat → Int32)) (m_boxes : (Nat → Int32)) (m_uses : (Nat → Int32)) {r : Int32}  (h : fX7_owes v1 v2 v3 m_numbers m_boxes m_uses = some r) : CtI G l yX7_owes wsX7_owes rmX7_owes [.ref a_mo, .int v1, .int v2, .int v3] (wX7_owes G a_mo a_mo_numbers a_mo_boxes a_mo_uses a_mo_words a_mo_weeks a_mo_routes a_mo_turns a_mo_leave a_mo_leases a_mo_arcFrom a_mo_arcTo a_mo_arcRoom a_mo_arcCost a_mo_far a_mo_by a_mo_best a_mo_tape a_mo_kept m_arcs m_tapeMany m_tokenKind m_tokenAt m_tokenEnd m_tokenValue m_fault m_seen m_isKept m_place m_numbers m_boxes m_uses) r (wX7_owes G a_mo a_mo_numbers a_mo_boxes a_mo_uses a_mo_words a_mo_weeks a_mo_routes a_mo_turns a_mo_leave a_mo_leases a_mo_arcFrom a_mo_arcTo a_mo_arcRoom a_mo_arcCost a_mo_far a_mo_by a_mo_best a_mo_tape a_mo_kept m_arcs m_tapeMany m_tokenKind m_tokenAt m_tokenEnd m_tokenValue m_fault m_seen m_isKept m_place m_numbers m_boxes m_uses) := k0X7_owes G a_mo a_mo_numbers a_mo_boxes a_mo_uses a_mo_words a_mo_weeks a_mo_routes a_mo_turns a_mo_leave a_mo_leases a_mo_arcFrom a_mo_arcTo a_mo_arcRoom a_mo_arcCost a_mo_far a_mo_by a_mo_best a_mo_tape a_mo_kept v1 v2 v3 m_arcs m_tapeMany m_tokenKind m_tokenAt m_tokenEnd m_tokenValue m_fault m_seen m_isKept m_place m_numbers m_boxes m_uses h
end MX7_owes
/-! EmptyBoxesModel.many -/
section MX7_many
theorem hdX7_many : yX7_many.cls = RX7 ∧ yX7_many.cls ≠ "java/lang/invoke/MethodHandle" ∧ yX7_many.cls ≠ "java/lang/invoke/VarHandle" ∧ (parseMethodDescriptor yX7_many.desc).map (fun d => d.parameters.length) = some 1 := by decide +kernel
abbrev wX7_many (G : Gt) (a_mo a_mo_numbers a_mo_boxes a_mo_leases a_mo_words a_mo_weeks a_mo_routes a_mo_turns a_mo_leave a_mo_uses a_mo_arcFrom a_mo_arcTo a_mo_arcRoom a_mo_arcCost a_mo_far a_mo_by a_mo_best a_mo_tape a_mo_kept : Nat) (m_arcs : Int32) (m_tapeMany : Int32) (m_tokenKind : Int32) (m_tokenAt : Int32) (m_tokenEnd : Int32) (m_tokenValue : Int32) (m_fault : Int32) (m_seen : Int32) (m_isKept : Int32) (m_place : Int32) (m_numbers : (Nat → Int32)) (m_boxes : (Nat → Int32)) (m_leases : (Nat → Int32)) : va_W := [(a_mo, .inr (7, [.ref a_mo_numbers, .ref a_mo_boxes, .ref a_mo_words, .ref a_mo_weeks, .ref a_mo_routes, .ref a_mo_turns, .ref a_mo_leave, .ref a_mo_leases, .ref a_mo_uses, .ref a_mo_arcFrom, .ref a_mo_arcTo, .ref a_mo_arcRoom, .ref a_mo_arcCost, .int m_arcs, .ref a_mo_far, .ref a_mo_by, .ref a_mo_best, .ref a_mo_tape, .int m_tapeMany, .int m_tokenKind, .int m_tokenAt, .int m_tokenEnd, .int m_tokenValue, .int m_fault, .int m_seen, .int m_isKept, .ref a_mo_kept, .int m_place])), (a_mo_numbers, .inl (G.2.1, 10, .inl m_numbers)), (a_mo_boxes, .inl (G.2.1, 216, .inl m_boxes)), (a_mo_leases, .inl (G.2.1, 68, .inl m_leases))]
abbrev rmX7_many : Room := { frames := 1, cells := 0, slots := 0, locals := 22 }
theorem iX7_many_X7 : ∀ w ∈ wsX70, w ∈ wsX7_many := by decide +kernel
theorem eX7_many_145 : Fk wsX7_many RX7 145 7 18 := ⟨RX7, TX7, 28, rfl, iX7_many_X7, by decide, by decide +kernel⟩
theorem eX7_many_31 : Fk wsX7_many RX7 31 7 7 := ⟨RX7, TX7, 28, rfl, iX7_many_X7, by decide, by decide +kernel⟩
theorem eX7_many_7 : Fk wsX7_many RX7 7 7 0 := ⟨RX7, TX7, 28, rfl, iX7_many_X7, by decide, by decide +kernel⟩
theorem ckX7_many_X7_get_68 : CkV wsX7_many RX7 68 yX7_get wsX7_get cX7_get 3 (some .int) 2 7 := ⟨RX7, TX7, 28, _, rfl, gX7_many_X7_get, rfl, hdX7_get⟩
variable {p : Program} {l : Launch} {e : Env} {s : State} {m : MethodId} {args : Array Value} {below : List Frame} {meth : Method} {c : Code} {A : Nat → Prop} {G : Gt} {a_mo a_mo_numbers a_mo_boxes a_mo_leases a_mo_words a_mo_weeks a_mo_routes a_mo_turns a_mo_leave a_mo_uses a_mo_arcFrom a_mo_arcTo a_mo_arcRoom a_mo_arcCost a_mo_far a_mo_by a_mo_best a_mo_tape a_mo_kept : Nat} {m_arcs : Int32} {m_tapeMany : Int32} {m_tokenKind : Int32} {m_tokenAt : Int32} {m_tokenEnd : Int32} {m_tokenValue : Int32} {m_fault : Int32} {m_seen : Int32} {m_isKept : Int32} {m_place : Int32} {m_numbers : (Nat → Int32)} {m_boxes : (Nat → Int32)} {m_leases : (Nat → Int32)} {res : Int32}
set_option maxHeartbeats 4000000 in
set_option maxRecDepth 100000 in
theorem tX7_many_101 (X : Bx p s m args meth c cX7_many 4 wsX7_many RX7 (some .int))    : ∀ (n : Nat) (v2 : Int32) (v3 : Int32), fX7_many_101 m_leases n v2 v3 = some res → ∀ (H : Heap) (locs : List Loc), Wo G A s (wX7_many G a_mo a_mo_numbers a_mo_boxes a_mo_leases a_mo_words a_mo_weeks a_mo_routes a_mo_turns a_mo_leave a_mo_uses a_mo_arcFrom a_mo_arcTo a_mo_arcRoom a_mo_arcCost a_mo_far a_mo_by a_mo_best a_mo_tape a_mo_kept m_arcs m_tapeMany m_tokenKind m_tokenAt m_tokenEnd m_tokenValue m_fault m_seen m_isKept m_place m_numbers m_boxes m_leases) H locs → ∀ ls : Array Slot, lv_has ls 4 [(0, .ref a_mo), (2, .int v2), (3, .int v3)] → W p l e rmX7_many s m args below meth c H locs 0 0 (QI G A below args s res (wX7_many G a_mo a_mo_numbers a_mo_boxes a_mo_leases a_mo_words a_mo_weeks a_mo_routes a_mo_turns a_mo_leave a_mo_uses a_mo_arcFrom a_mo_arcTo a_mo_arcRoom a_mo_arcCost a_mo_far a_mo_by a_mo_best a_mo_tape a_mo_kept m_arcs m_tapeMany m_tokenKind m_tokenAt m_tokenEnd m_tokenValue m_fault m_seen m_isKept m_place m_numbers m_boxes m_leases)) (F0 m 101 ls []) := by
  obtain ⟨hx, hb, -⟩ := id X.1
  intro n
  induction n with
  | zero => intro v2 v3 h; rw [fX7_many_101] at h; cases h
  | succ n ih =>
    intro v2 v3 h H locs hW ls hl
    rw [fX7_many_101] at h
    refine lv_iload_n hx hb dX7_many_101 rfl (lv_at hl 2 rfl) ?_
    refine lv_iconst hx hb dX7_many_102 qI_3 ?_
    refine lv_icmp_ge (tgt := 127) hx hb dX7_many_103 (by decide) (fun c3 => ?_) (fun c3 => ?_)
    · have h := (if_pos c3).symm.trans h
      refine lv_iload_n hx hb dX7_many_127 rfl (lv_at hl 1 rfl) ?_
      obtain rfl := Option.some.inj h
      exact g_iret X hW dX7_many_128
    · have h := (if_neg c3).symm.trans h
      refine lv_iload_n hx hb dX7_many_106 rfl (lv_at hl 1 rfl) ?_
      refine lv_aload_n hx hb dX7_many_107 rfl (lv_at hl 0 rfl) ?_
      refine g_get X hW eX7_many_31 0 rfl rfl dX7_many_108 ?_
      refine lv_bipush hx hb dX7_many_111 qB_17 ?_
      refine lv_iload_n hx hb dX7_many_113 rfl (lv_at hl 2 rfl) ?_
      refine lv_imul hx hb dX7_many_114 ?_
      refine lv_bipush hx hb dX7_many_115 qB_16 ?_
      refine lv_iadd hx hb dX7_many_117 ?_
      obtain ⟨g14, h⟩ := gd_some h
      refine g_ald X hW 3 rfl g14 dX7_many_118 ?_
      refine lv_iadd hx hb dX7_many_119 ?_
      refine lv_istore_n (lv' := [(2, .int (v2 + (m_leases (((17 : Int32) * v3) + (16 : Int32)).toNatClampNeg))), (0, .ref a_mo), (3, .int v3)]) hx hb dX7_many_120 rfl hl (by decide) rfl (fun ls hl => ?_)
      refine lv_iinc (v := (v3 + (1 : Int32))) (lv' := [(3, .int (v3 + (1 : Int32))), (2, .int (v2 + (m_leases (((17 : Int32) * v3) + (16 : Int32)).toNatClampNeg))), (0, .ref a_mo)]) hx hb dX7_many_121 hl (k := 2) rfl (congrArg (fun z => v3 + z) qI_1) (by decide) rfl (fun ls hl => ?_)
      refine lv_goto (tgt := 101) hx hb dX7_many_124 (by decide) ?_
      exact ih (v2 + (m_leases (((17 : Int32) * v3) + (16 : Int32)).toNatClampNeg)) (v3 + (1 : Int32)) h H locs hW ls (lv_sub hl [2, 1, 0] rfl)
set_option maxHeartbeats 4000000 in
set_option maxRecDepth 100000 in
theorem tX7_many_180 (X : Bx p s m args meth c cX7_many 4 wsX7_many RX7 (some .int)) (v1 : Int32) (v3 : Int32) (t0 : Int32) (t1 : Int32) (k_151 : Int32 → Int32 → Option (Int32)) (Hk_151 : ∀ (v2 : Int32) (v3 : Int32), k_151 v2 v3 = some res → ∀ (H : Heap) (locs : List Loc), Wo G A s (wX7_many G a_mo a_mo_numbers a_mo_boxes a_mo_leases a_mo_words a_mo_weeks a_mo_routes a_mo_turns a_mo_leave a_mo_uses a_mo_arcFrom a_mo_arcTo a_mo_arcRoom a_mo_arcCost a_mo_far a_mo_by a_mo_best a_mo_tape a_mo_kept m_arcs m_tapeMany m_tokenKind m_tokenAt m_tokenEnd m_tokenValue m_fault m_seen m_isKept m_place m_numbers m_boxes m_leases) H locs → ∀ ls : Array Slot, lv_has ls 4 [(0, .ref a_mo), (1, .int v1), (2, .int v2), (3, .int v3)] → W p l e rmX7_many s m args below meth c H locs 0 0 (QI G A below args s res (wX7_many G a_mo a_mo_numbers a_mo_boxes a_mo_leases a_mo_words a_mo_weeks a_mo_routes a_mo_turns a_mo_leave a_mo_uses a_mo_arcFrom a_mo_arcTo a_mo_arcRoom a_mo_arcCost a_mo_far a_mo_by a_mo_best a_mo_tape a_mo_kept m_arcs m_tapeMany m_tokenKind m_tokenAt m_tokenEnd m_tokenValue m_fault m_seen m_isKept m_place m_numbers m_boxes m_leases)) (F0 m 151 ls [])) (h : fX7_many_180 k_151 v3 t0 t1 = some res) : ∀ (H : Heap) (locs : List Loc), Wo G A s (wX7_many G a_mo a_mo_numbers a_mo_boxes a_mo_leases a_mo_words a_mo_weeks a_mo_routes a_mo_turns a_mo_leave a_mo_uses a_mo_arcFrom a_mo_arcTo a_mo_arcRoom a_mo_arcCost a_mo_far a_mo_by a_mo_best a_mo_tape a_mo_kept m_arcs m_tapeMany m_tokenKind m_tokenAt m_tokenEnd m_tokenValue m_fault m_seen m_isKept m_place m_numbers m_boxes m_leases) H locs → ∀ ls : Array Slot, lv_has ls 4 [(0, .ref a_mo), (1, .int v1), (3, .int v3)] → W p l e rmX7_many s m args below meth c H locs 0 0 (QI G A below args s res (wX7_many G a_mo a_mo_numbers a_mo_boxes a_mo_leases a_mo_words a_mo_weeks a_mo_routes a_mo_turns a_mo_leave a_mo_uses a_mo_arcFrom a_mo_arcTo a_mo_arcRoom a_mo_arcCost a_mo_far a_mo_by a_mo_best a_mo_tape a_mo_kept m_arcs m_tapeMany m_tokenKind m_tokenAt m_tokenEnd m_tokenValue m_fault m_seen m_isKept m_place m_numbers m_boxes m_leases)) (F0 m 180 ls [.int t1, .int t0]) := by
  obtain ⟨hx, hb, -⟩ := id X.1
  intro H locs hW ls hl
  rw [fX7_many_180] at h
  refine lv_iadd hx hb dX7_many_180 ?_
  refine lv_istore_n (lv' := [(2, .int (t0 + t1)), (0, .ref a_mo), (1, .int v1), (3, .int v3)]) hx hb dX7_many_181 rfl hl (by decide) rfl (fun ls hl => ?_)
  refine lv_iinc (v := (v3 + (1 : Int32))) (lv' := [(3, .int (v3 + (1 : Int32))), (2, .int (t0 + t1)), (0, .ref a_mo), (1, .int v1)]) hx hb dX7_many_182 hl (k := 3) rfl (congrArg (fun z => v3 + z) qI_1) (by decide) rfl (fun ls hl => ?_)
  refine lv_goto (tgt := 151) hx hb dX7_many_185 (by decide) ?_
  exact Hk_151 (t0 + t1) (v3 + (1 : Int32)) h H locs hW ls (lv_sub hl [2, 3, 1, 0] rfl)
set_option maxHeartbeats 4000000 in
set_option maxRecDepth 100000 in
theorem tX7_many_151 (X : Bx p s m args meth c cX7_many 4 wsX7_many RX7 (some .int)) (v1 : Int32)   : ∀ (n : Nat) (v2 : Int32) (v3 : Int32), fX7_many_151 v1 m_numbers m_boxes n v2 v3 = some res → ∀ (H : Heap) (locs : List Loc), Wo G A s (wX7_many G a_mo a_mo_numbers a_mo_boxes a_mo_leases a_mo_words a_mo_weeks a_mo_routes a_mo_turns a_mo_leave a_mo_uses a_mo_arcFrom a_mo_arcTo a_mo_arcRoom a_mo_arcCost a_mo_far a_mo_by a_mo_best a_mo_tape a_mo_kept m_arcs m_tapeMany m_tokenKind m_tokenAt m_tokenEnd m_tokenValue m_fault m_seen m_isKept m_place m_numbers m_boxes m_leases) H locs → ∀ ls : Array Slot, lv_has ls 4 [(0, .ref a_mo), (1, .int v1), (2, .int v2), (3, .int v3)] → W p l e rmX7_many s m args below meth c H locs 0 0 (QI G A below args s res (wX7_many G a_mo a_mo_numbers a_mo_boxes a_mo_leases a_mo_words a_mo_weeks a_mo_routes a_mo_turns a_mo_leave a_mo_uses a_mo_arcFrom a_mo_arcTo a_mo_arcRoom a_mo_arcCost a_mo_far a_mo_by a_mo_best a_mo_tape a_mo_kept m_arcs m_tapeMany m_tokenKind m_tokenAt m_tokenEnd m_tokenValue m_fault m_seen m_isKept m_place m_numbers m_boxes m_leases)) (F0 m 151 ls []) := by
  obtain ⟨hx, hb, -⟩ := id X.1
  intro n
  induction n with
  | zero => intro v2 v3 h; rw [fX7_many_151] at h; cases h
  | succ n ih =>
    intro v2 v3 h H locs hW ls hl
    rw [fX7_many_151] at h
    refine lv_iload_n hx hb dX7_many_151 rfl (lv_at hl 3 rfl) ?_
    refine lv_aload_n hx hb dX7_many_152 rfl (lv_at hl 0 rfl) ?_
    refine g_get X hW eX7_many_7 0 rfl rfl dX7_many_153 ?_
    refine lv_iconst hx hb dX7_many_156 qI_1 ?_
    obtain ⟨g27, h⟩ := gd_some h
    refine g_ald X hW 1 rfl g27 dX7_many_157 ?_
    refine lv_icmp_ge (tgt := 188) hx hb dX7_many_158 (by decide) (fun c28 => ?_) (fun c28 => ?_)
    · have h := (if_pos c28).symm.trans h
      refine lv_iload_n hx hb dX7_many_188 rfl (lv_at hl 2 rfl) ?_
      obtain rfl := Option.some.inj h
      exact g_iret X hW dX7_many_189
    · have h := (if_neg c28).symm.trans h
      refine lv_iload_n hx hb dX7_many_161 rfl (lv_at hl 2 rfl) ?_
      refine lv_aload_n hx hb dX7_many_162 rfl (lv_at hl 0 rfl) ?_
      refine lv_iload_n hx hb dX7_many_163 rfl (lv_at hl 3 rfl) ?_
      refine lv_iconst hx hb dX7_many_164 qI_5 ?_
      obtain ⟨r35, hq, h⟩ := bn1_some h
      refine g_cvi X hW (As := [.int v3, .int (5 : Int32)]) (ws' := (wX7_many G a_mo a_mo_numbers a_mo_boxes a_mo_leases a_mo_words a_mo_weeks a_mo_routes a_mo_turns a_mo_leave a_mo_uses a_mo_arcFrom a_mo_arcTo a_mo_arcRoom a_mo_arcCost a_mo_far a_mo_by a_mo_best a_mo_tape a_mo_kept m_arcs m_tapeMany m_tokenKind m_tokenAt m_tokenEnd m_tokenValue m_fault m_seen m_isKept m_place m_numbers m_boxes m_leases)) ckX7_many_X7_get_68 (kcX7_get (l := l) G a_mo a_mo_boxes a_mo_numbers a_mo_words a_mo_weeks a_mo_routes a_mo_turns a_mo_leave a_mo_leases a_mo_uses a_mo_arcFrom a_mo_arcTo a_mo_arcRoom a_mo_arcCost a_mo_far a_mo_by a_mo_best a_mo_tape a_mo_kept v3 (5 : Int32) m_arcs m_tapeMany m_tokenKind m_tokenAt m_tokenEnd m_tokenValue m_fault m_seen m_isKept m_place m_boxes hq) ⟨rfl, rfl, Nat.le_of_ble_eq_true rfl, Nat.le_of_ble_eq_true rfl⟩ [0, 2] rfl rfl rfl rfl rfl rfl rfl hl.1 (Nat.le_of_ble_eq_true rfl) ⟨Nat.zero_le _, Nat.zero_le _⟩ dX7_many_165 (fun H locs hW => ?_)
      refine lv_iload_n hx hb dX7_many_168 rfl (lv_at hl 1 rfl) ?_
      refine lv_bipush hx hb dX7_many_169 qB_8 ?_
      refine lv_isub hx hb dX7_many_171 ?_
      refine lv_icmp_ne (tgt := 179) hx hb dX7_many_172 (by decide) (fun c39 => ?_) (fun c39 => ?_)
      · have h := (if_neg c39).symm.trans h
        refine lv_iconst hx hb dX7_many_179 qI_0 ?_
        exact tX7_many_180 X v1 v3 v2 (0 : Int32) (fun v2 v3 => fX7_many_151 v1 m_numbers m_boxes n v2 v3) ih h H locs hW ls (lv_sub hl [0, 1, 3] rfl)
      · have h := (if_pos c39).symm.trans h
        refine lv_iconst hx hb dX7_many_175 qI_1 ?_
        refine lv_goto (tgt := 180) hx hb dX7_many_176 (by decide) ?_
        exact tX7_many_180 X v1 v3 v2 (1 : Int32) (fun v2 v3 => fX7_many_151 v1 m_numbers m_boxes n v2 v3) ih h H locs hW ls (lv_sub hl [0, 1, 3] rfl)
set_option maxHeartbeats 4000000 in
set_option maxRecDepth 100000 in
theorem tX7_many_224 (X : Bx p s m args meth c cX7_many 4 wsX7_many RX7 (some .int)) (v3 : Int32) (t0 : Int32) (t1 : Int32) (k_192 : Int32 → Int32 → Option (Int32)) (Hk_192 : ∀ (v2 : Int32) (v3 : Int32), k_192 v2 v3 = some res → ∀ (H : Heap) (locs : List Loc), Wo G A s (wX7_many G a_mo a_mo_numbers a_mo_boxes a_mo_leases a_mo_words a_mo_weeks a_mo_routes a_mo_turns a_mo_leave a_mo_uses a_mo_arcFrom a_mo_arcTo a_mo_arcRoom a_mo_arcCost a_mo_far a_mo_by a_mo_best a_mo_tape a_mo_kept m_arcs m_tapeMany m_tokenKind m_tokenAt m_tokenEnd m_tokenValue m_fault m_seen m_isKept m_place m_numbers m_boxes m_leases) H locs → ∀ ls : Array Slot, lv_has ls 4 [(0, .ref a_mo), (2, .int v2), (3, .int v3)] → W p l e rmX7_many s m args below meth c H locs 0 0 (QI G A below args s res (wX7_many G a_mo a_mo_numbers a_mo_boxes a_mo_leases a_mo_words a_mo_weeks a_mo_routes a_mo_turns a_mo_leave a_mo_uses a_mo_arcFrom a_mo_arcTo a_mo_arcRoom a_mo_arcCost a_mo_far a_mo_by a_mo_best a_mo_tape a_mo_kept m_arcs m_tapeMany m_tokenKind m_tokenAt m_tokenEnd m_tokenValue m_fault m_seen m_isKept m_place m_numbers m_boxes m_leases)) (F0 m 192 ls [])) (h : fX7_many_224 k_192 v3 t0 t1 = some res) : ∀ (H : Heap) (locs : List Loc), Wo G A s (wX7_many G a_mo a_mo_numbers a_mo_boxes a_mo_leases a_mo_words a_mo_weeks a_mo_routes a_mo_turns a_mo_leave a_mo_uses a_mo_arcFrom a_mo_arcTo a_mo_arcRoom a_mo_arcCost a_mo_far a_mo_by a_mo_best a_mo_tape a_mo_kept m_arcs m_tapeMany m_tokenKind m_tokenAt m_tokenEnd m_tokenValue m_fault m_seen m_isKept m_place m_numbers m_boxes m_leases) H locs → ∀ ls : Array Slot, lv_has ls 4 [(0, .ref a_mo), (3, .int v3)] → W p l e rmX7_many s m args below meth c H locs 0 0 (QI G A below args s res (wX7_many G a_mo a_mo_numbers a_mo_boxes a_mo_leases a_mo_words a_mo_weeks a_mo_routes a_mo_turns a_mo_leave a_mo_uses a_mo_arcFrom a_mo_arcTo a_mo_arcRoom a_mo_arcCost a_mo_far a_mo_by a_mo_best a_mo_tape a_mo_kept m_arcs m_tapeMany m_tokenKind m_tokenAt m_tokenEnd m_tokenValue m_fault m_seen m_isKept m_place m_numbers m_boxes m_leases)) (F0 m 224 ls [.int t1, .int t0]) := by
  obtain ⟨hx, hb, -⟩ := id X.1
  intro H locs hW ls hl
  rw [fX7_many_224] at h
  refine lv_iadd hx hb dX7_many_224 ?_
  refine lv_istore_n (lv' := [(2, .int (t0 + t1)), (0, .ref a_mo), (3, .int v3)]) hx hb dX7_many_225 rfl hl (by decide) rfl (fun ls hl => ?_)
  refine lv_iinc (v := (v3 + (1 : Int32))) (lv' := [(3, .int (v3 + (1 : Int32))), (2, .int (t0 + t1)), (0, .ref a_mo)]) hx hb dX7_many_226 hl (k := 2) rfl (congrArg (fun z => v3 + z) qI_1) (by decide) rfl (fun ls hl => ?_)
  refine lv_goto (tgt := 192) hx hb dX7_many_229 (by decide) ?_
  exact Hk_192 (t0 + t1) (v3 + (1 : Int32)) h H locs hW ls (lv_sub hl [2, 1, 0] rfl)
set_option maxHeartbeats 4000000 in
set_option maxRecDepth 100000 in
theorem tX7_many_192 (X : Bx p s m args meth c cX7_many 4 wsX7_many RX7 (some .int))    : ∀ (n : Nat) (v2 : Int32) (v3 : Int32), fX7_many_192 m_numbers m_boxes n v2 v3 = some res → ∀ (H : Heap) (locs : List Loc), Wo G A s (wX7_many G a_mo a_mo_numbers a_mo_boxes a_mo_leases a_mo_words a_mo_weeks a_mo_routes a_mo_turns a_mo_leave a_mo_uses a_mo_arcFrom a_mo_arcTo a_mo_arcRoom a_mo_arcCost a_mo_far a_mo_by a_mo_best a_mo_tape a_mo_kept m_arcs m_tapeMany m_tokenKind m_tokenAt m_tokenEnd m_tokenValue m_fault m_seen m_isKept m_place m_numbers m_boxes m_leases) H locs → ∀ ls : Array Slot, lv_has ls 4 [(0, .ref a_mo), (2, .int v2), (3, .int v3)] → W p l e rmX7_many s m args below meth c H locs 0 0 (QI G A below args s res (wX7_many G a_mo a_mo_numbers a_mo_boxes a_mo_leases a_mo_words a_mo_weeks a_mo_routes a_mo_turns a_mo_leave a_mo_uses a_mo_arcFrom a_mo_arcTo a_mo_arcRoom a_mo_arcCost a_mo_far a_mo_by a_mo_best a_mo_tape a_mo_kept m_arcs m_tapeMany m_tokenKind m_tokenAt m_tokenEnd m_tokenValue m_fault m_seen m_isKept m_place m_numbers m_boxes m_leases)) (F0 m 192 ls []) := by
  obtain ⟨hx, hb, -⟩ := id X.1
  intro n
  induction n with
  | zero => intro v2 v3 h; rw [fX7_many_192] at h; cases h
  | succ n ih =>
    intro v2 v3 h H locs hW ls hl
    rw [fX7_many_192] at h
    refine lv_iload_n hx hb dX7_many_192 rfl (lv_at hl 2 rfl) ?_
    refine lv_aload_n hx hb dX7_many_193 rfl (lv_at hl 0 rfl) ?_
    refine g_get X hW eX7_many_7 0 rfl rfl dX7_many_194 ?_
    refine lv_iconst hx hb dX7_many_197 qI_1 ?_
    obtain ⟨g51, h⟩ := gd_some h
    refine g_ald X hW 1 rfl g51 dX7_many_198 ?_
    refine lv_icmp_ge (tgt := 232) hx hb dX7_many_199 (by decide) (fun c52 => ?_) (fun c52 => ?_)
    · have h := (if_pos c52).symm.trans h
      refine lv_iload_n hx hb dX7_many_232 rfl (lv_at hl 1 rfl) ?_
      obtain rfl := Option.some.inj h
      exact g_iret X hW dX7_many_233
    · have h := (if_neg c52).symm.trans h
      refine lv_iload_n hx hb dX7_many_202 rfl (lv_at hl 1 rfl) ?_
      refine lv_aload_n hx hb dX7_many_203 rfl (lv_at hl 0 rfl) ?_
      refine lv_iload_n hx hb dX7_many_204 rfl (lv_at hl 2 rfl) ?_
      refine lv_bipush hx hb dX7_many_205 qB_6 ?_
      obtain ⟨r59, hq, h⟩ := bn1_some h
      refine g_cvi X hW (As := [.int v3, .int (6 : Int32)]) (ws' := (wX7_many G a_mo a_mo_numbers a_mo_boxes a_mo_leases a_mo_words a_mo_weeks a_mo_routes a_mo_turns a_mo_leave a_mo_uses a_mo_arcFrom a_mo_arcTo a_mo_arcRoom a_mo_arcCost a_mo_far a_mo_by a_mo_best a_mo_tape a_mo_kept m_arcs m_tapeMany m_tokenKind m_tokenAt m_tokenEnd m_tokenValue m_fault m_seen m_isKept m_place m_numbers m_boxes m_leases)) ckX7_many_X7_get_68 (kcX7_get (l := l) G a_mo a_mo_boxes a_mo_numbers a_mo_words a_mo_weeks a_mo_routes a_mo_turns a_mo_leave a_mo_leases a_mo_uses a_mo_arcFrom a_mo_arcTo a_mo_arcRoom a_mo_arcCost a_mo_far a_mo_by a_mo_best a_mo_tape a_mo_kept v3 (6 : Int32) m_arcs m_tapeMany m_tokenKind m_tokenAt m_tokenEnd m_tokenValue m_fault m_seen m_isKept m_place m_boxes hq) ⟨rfl, rfl, Nat.le_of_ble_eq_true rfl, Nat.le_of_ble_eq_true rfl⟩ [0, 2] rfl rfl rfl rfl rfl rfl rfl hl.1 (Nat.le_of_ble_eq_true rfl) ⟨Nat.zero_le _, Nat.zero_le _⟩ dX7_many_207 (fun H locs hW => ?_)
      refine lv_if_ge (tgt := 217) hx hb dX7_many_210 (by decide) (fun c60 => ?_) (fun c60 => ?_)
      · have h := (if_pos c60).symm.trans h
        refine lv_aload_n hx hb dX7_many_217 rfl (lv_at hl 0 rfl) ?_
        refine lv_iload_n hx hb dX7_many_218 rfl (lv_at hl 2 rfl) ?_
        refine lv_bipush hx hb dX7_many_219 qB_6 ?_
        obtain ⟨r64, hq, h⟩ := bn1_some h
        refine g_cvi X hW (As := [.int v3, .int (6 : Int32)]) (ws' := (wX7_many G a_mo a_mo_numbers a_mo_boxes a_mo_leases a_mo_words a_mo_weeks a_mo_routes a_mo_turns a_mo_leave a_mo_uses a_mo_arcFrom a_mo_arcTo a_mo_arcRoom a_mo_arcCost a_mo_far a_mo_by a_mo_best a_mo_tape a_mo_kept m_arcs m_tapeMany m_tokenKind m_tokenAt m_tokenEnd m_tokenValue m_fault m_seen m_isKept m_place m_numbers m_boxes m_leases)) ckX7_many_X7_get_68 (kcX7_get (l := l) G a_mo a_mo_boxes a_mo_numbers a_mo_words a_mo_weeks a_mo_routes a_mo_turns a_mo_leave a_mo_leases a_mo_uses a_mo_arcFrom a_mo_arcTo a_mo_arcRoom a_mo_arcCost a_mo_far a_mo_by a_mo_best a_mo_tape a_mo_kept v3 (6 : Int32) m_arcs m_tapeMany m_tokenKind m_tokenAt m_tokenEnd m_tokenValue m_fault m_seen m_isKept m_place m_boxes hq) ⟨rfl, rfl, Nat.le_of_ble_eq_true rfl, Nat.le_of_ble_eq_true rfl⟩ [0, 2] rfl rfl rfl rfl rfl rfl rfl hl.1 (Nat.le_of_ble_eq_true rfl) ⟨Nat.zero_le _, Nat.zero_le _⟩ dX7_many_221 (fun H locs hW => ?_)
        exact tX7_many_224 X v3 v2 r64 (fun v2 v3 => fX7_many_192 m_numbers m_boxes n v2 v3) ih h H locs hW ls (lv_sub hl [0, 2] rfl)
      · have h := (if_neg c60).symm.trans h
        refine lv_iconst hx hb dX7_many_213 qI_0 ?_
        refine lv_goto (tgt := 224) hx hb dX7_many_214 (by decide) ?_
        exact tX7_many_224 X v3 v2 (0 : Int32) (fun v2 v3 => fX7_many_192 m_numbers m_boxes n v2 v3) ih h H locs hW ls (lv_sub hl [0, 2] rfl)
set_option maxHeartbeats 4000000 in
set_option maxRecDepth 100000 in
theorem k0X7_many {l : Launch} (G : Gt) (a_mo a_mo_numbers a_mo_boxes a_mo_leases a_mo_words a_mo_weeks a_mo_routes a_mo_turns a_mo_leave a_mo_uses a_mo_arcFrom a_mo_arcTo a_mo_arcRoom a_mo_arcCost a_mo_far a_mo_by a_mo_best a_mo_tape a_mo_kept : Nat) (v1 : Int32) (m_arcs : Int32) (m_tapeMany : Int32) (m_tokenKind : Int32) (m_tokenAt : Int32) (m_tokenEnd : Int32) (m_tokenValue : Int32) (m_fault : Int32) (m_seen : Int32) (m_isKept : Int32) (m_place : Int32) (m_numbers : (Nat → Int32)) (m_boxes : (Nat → Int32)) (m_leases : (Nat → Int32)) {res : Int32} (h : fX7_many v1 m_tapeMany m_numbers m_boxes m_leases = some res) : CtI G l yX7_many wsX7_many rmX7_many [.ref a_mo, .int v1] (wX7_many G a_mo a_mo_numbers a_mo_boxes a_mo_leases a_mo_words a_mo_weeks a_mo_routes a_mo_turns a_mo_leave a_mo_uses a_mo_arcFrom a_mo_arcTo a_mo_arcRoom a_mo_arcCost a_mo_far a_mo_by a_mo_best a_mo_tape a_mo_kept m_arcs m_tapeMany m_tokenKind m_tokenAt m_tokenEnd m_tokenValue m_fault m_seen m_isKept m_place m_numbers m_boxes m_leases) res (wX7_many G a_mo a_mo_numbers a_mo_boxes a_mo_leases a_mo_words a_mo_weeks a_mo_routes a_mo_turns a_mo_leave a_mo_uses a_mo_arcFrom a_mo_arcTo a_mo_arcRoom a_mo_arcCost a_mo_far a_mo_by a_mo_best a_mo_tape a_mo_kept m_arcs m_tapeMany m_tokenKind m_tokenAt m_tokenEnd m_tokenValue m_fault m_seen m_isKept m_place m_numbers m_boxes m_leases) := by
  refine CtI.mk (cc := cX7_many) (maxL := 4) (ret := (some .int)) (own := RX7) (by decide) rfl rfl (Nat.le_of_ble_eq_true rfl) ?_
  intro p e s m below meth c A X ls hl hW
  obtain ⟨hx, hb, -⟩ := id X.1
  have hl : lv_has ls 4 [(0, .ref a_mo), (1, .int v1)] := hl
  generalize hH : s.heap = H at hW ⊢
  generalize hLo : ([] : List Loc) = locs at hW ⊢
  rw [fX7_many] at h
  refine lv_iconst hx hb dX7_many_0 qI_0 ?_
  refine lv_istore_n (lv' := [(2, .int (0 : Int32)), (0, .ref a_mo), (1, .int v1)]) hx hb dX7_many_1 rfl hl (by decide) rfl (fun ls hl => ?_)
  refine lv_iload_n hx hb dX7_many_2 rfl (lv_at hl 2 rfl) ?_
  by_cases c71 : v1 = (0 : Int32)
  · have h := (if_pos c71).symm.trans h
    refine lv_tableIn (tgt := 64) hx hb dX7_many_3 (by rw [c71]; decide) (by rw [c71]; decide) (by rw [c71]; rfl) (by decide) ?_
    refine lv_aload_n hx hb dX7_many_64 rfl (lv_at hl 1 rfl) ?_
    refine g_get X hW eX7_many_7 0 rfl rfl dX7_many_65 ?_
    refine lv_iconst hx hb dX7_many_68 qI_1 ?_
    obtain ⟨g75, h⟩ := gd_some h
    refine g_ald X hW 1 rfl g75 dX7_many_69 ?_
    obtain rfl := Option.some.inj h
    exact g_iret X hW dX7_many_70
  replace h := (if_neg c71).symm.trans h
  by_cases c77 : v1 = (1 : Int32)
  · have h := (if_pos c77).symm.trans h
    refine lv_tableIn (tgt := 71) hx hb dX7_many_3 (by rw [c77]; decide) (by rw [c77]; decide) (by rw [c77]; rfl) (by decide) ?_
    refine lv_aload_n hx hb dX7_many_71 rfl (lv_at hl 1 rfl) ?_
    refine g_get X hW eX7_many_7 0 rfl rfl dX7_many_72 ?_
    refine lv_iconst hx hb dX7_many_75 qI_2 ?_
    obtain ⟨g81, h⟩ := gd_some h
    refine g_ald X hW 1 rfl g81 dX7_many_76 ?_
    obtain rfl := Option.some.inj h
    exact g_iret X hW dX7_many_77
  replace h := (if_neg c77).symm.trans h
  by_cases c83 : v1 = (2 : Int32)
  · have h := (if_pos c83).symm.trans h
    refine lv_tableIn (tgt := 78) hx hb dX7_many_3 (by rw [c83]; decide) (by rw [c83]; decide) (by rw [c83]; rfl) (by decide) ?_
    refine lv_aload_n hx hb dX7_many_78 rfl (lv_at hl 1 rfl) ?_
    refine g_get X hW eX7_many_7 0 rfl rfl dX7_many_79 ?_
    refine lv_iconst hx hb dX7_many_82 qI_3 ?_
    obtain ⟨g87, h⟩ := gd_some h
    refine g_ald X hW 1 rfl g87 dX7_many_83 ?_
    obtain rfl := Option.some.inj h
    exact g_iret X hW dX7_many_84
  replace h := (if_neg c83).symm.trans h
  by_cases c89 : v1 = (3 : Int32)
  · have h := (if_pos c89).symm.trans h
    refine lv_tableIn (tgt := 85) hx hb dX7_many_3 (by rw [c89]; decide) (by rw [c89]; decide) (by rw [c89]; rfl) (by decide) ?_
    refine lv_aload_n hx hb dX7_many_85 rfl (lv_at hl 1 rfl) ?_
    refine g_get X hW eX7_many_7 0 rfl rfl dX7_many_86 ?_
    refine lv_iconst hx hb dX7_many_89 qI_4 ?_
    obtain ⟨g93, h⟩ := gd_some h
    refine g_ald X hW 1 rfl g93 dX7_many_90 ?_
    obtain rfl := Option.some.inj h
    exact g_iret X hW dX7_many_91
  replace h := (if_neg c89).symm.trans h
  by_cases c95 : v1 = (4 : Int32)
  · have h := (if_pos c95).symm.trans h
    refine lv_tableIn (tgt := 92) hx hb dX7_many_3 (by rw [c95]; decide) (by rw [c95]; decide) (by rw [c95]; rfl) (by decide) ?_
    refine lv_aload_n hx hb dX7_many_92 rfl (lv_at hl 1 rfl) ?_
    refine g_get X hW eX7_many_7 0 rfl rfl dX7_many_93 ?_
    refine lv_iconst hx hb dX7_many_96 qI_5 ?_
    obtain ⟨g99, h⟩ := gd_some h
    refine g_ald X hW 1 rfl g99 dX7_many_97 ?_
    obtain rfl := Option.some.inj h
    exact g_iret X hW dX7_many_98
  replace h := (if_neg c95).symm.trans h
  by_cases c101 : v1 = (5 : Int32)
  · have h := (if_pos c101).symm.trans h
    refine lv_tableIn (tgt := 99) hx hb dX7_many_3 (by rw [c101]; decide) (by rw [c101]; decide) (by rw [c101]; rfl) (by decide) ?_
    refine lv_iconst hx hb dX7_many_99 qI_0 ?_
    refine lv_istore_n (lv' := [(3, .int (0 : Int32)), (2, .int (0 : Int32)), (0, .ref a_mo), (1, .int v1)]) hx hb dX7_many_100 rfl hl (by decide) rfl (fun ls hl => ?_)
    exact tX7_many_101 X  FU (0 : Int32) (0 : Int32) h H locs hW ls (lv_sub hl [2, 1, 0] rfl)
  replace h := (if_neg c101).symm.trans h
  by_cases c104 : v1 = (6 : Int32)
  · have h := (if_pos c104).symm.trans h
    refine lv_tableIn (tgt := 129) hx hb dX7_many_3 (by rw [c104]; decide) (by rw [c104]; decide) (by rw [c104]; rfl) (by decide) ?_
    refine lv_aload_n hx hb dX7_many_129 rfl (lv_at hl 1 rfl) ?_
    refine g_get X hW eX7_many_7 0 rfl rfl dX7_many_130 ?_
    refine lv_bipush hx hb dX7_many_133 qB_6 ?_
    obtain ⟨g108, h⟩ := gd_some h
    refine g_ald X hW 1 rfl g108 dX7_many_135 ?_
    obtain rfl := Option.some.inj h
    exact g_iret X hW dX7_many_136
  replace h := (if_neg c104).symm.trans h
  by_cases c110 : v1 = (7 : Int32)
  · have h := (if_pos c110).symm.trans h
    refine lv_tableIn (tgt := 137) hx hb dX7_many_3 (by rw [c110]; decide) (by rw [c110]; decide) (by rw [c110]; rfl) (by decide) ?_
    refine lv_aload_n hx hb dX7_many_137 rfl (lv_at hl 1 rfl) ?_
    refine g_get X hW eX7_many_145 0 rfl rfl dX7_many_138 ?_
    obtain rfl := Option.some.inj h
    exact g_iret X hW dX7_many_141
  replace h := (if_neg c110).symm.trans h
  by_cases c114 : v1 = (8 : Int32)
  · have h := (if_pos c114).symm.trans h
    refine lv_tableIn (tgt := 142) hx hb dX7_many_3 (by rw [c114]; decide) (by rw [c114]; decide) (by rw [c114]; rfl) (by decide) ?_
    refine lv_aload_n hx hb dX7_many_142 rfl (lv_at hl 1 rfl) ?_
    refine g_get X hW eX7_many_7 0 rfl rfl dX7_many_143 ?_
    refine lv_iconst hx hb dX7_many_146 qI_0 ?_
    obtain ⟨g118, h⟩ := gd_some h
    refine g_ald X hW 1 rfl g118 dX7_many_147 ?_
    obtain rfl := Option.some.inj h
    exact g_iret X hW dX7_many_148
  replace h := (if_neg c114).symm.trans h
  by_cases c120 : v1 = (9 : Int32)
  · have h := (if_pos c120).symm.trans h
    refine lv_tableIn (tgt := 149) hx hb dX7_many_3 (by rw [c120]; decide) (by rw [c120]; decide) (by rw [c120]; rfl) (by decide) ?_
    refine lv_iconst hx hb dX7_many_149 qI_0 ?_
    refine lv_istore_n (lv' := [(3, .int (0 : Int32)), (2, .int (0 : Int32)), (0, .ref a_mo), (1, .int v1)]) hx hb dX7_many_150 rfl hl (by decide) rfl (fun ls hl => ?_)
    exact tX7_many_151 X v1 FU (0 : Int32) (0 : Int32) h H locs hW ls (lv_sub hl [2, 3, 1, 0] rfl)
  replace h := (if_neg c120).symm.trans h
  by_cases c123 : v1 = (10 : Int32)
  · have h := (if_pos c123).symm.trans h
    refine lv_tableIn (tgt := 149) hx hb dX7_many_3 (by rw [c123]; decide) (by rw [c123]; decide) (by rw [c123]; rfl) (by decide) ?_
    refine lv_iconst hx hb dX7_many_149 qI_0 ?_
    refine lv_istore_n (lv' := [(3, .int (0 : Int32)), (2, .int (0 : Int32)), (0, .ref a_mo), (1, .int v1)]) hx hb dX7_many_150 rfl hl (by decide) rfl (fun ls hl => ?_)
    exact tX7_many_151 X v1 FU (0 : Int32) (0 : Int32) h H locs hW ls (lv_sub hl [2, 3, 1, 0] rfl)
  replace h := (if_neg c123).symm.trans h
  by_cases c126 : v1 = (11 : Int32)
  · have h := (if_pos c126).symm.trans h
    refine lv_tableIn (tgt := 190) hx hb dX7_many_3 (by rw [c126]; decide) (by rw [c126]; decide) (by rw [c126]; rfl) (by decide) ?_
    refine lv_iconst hx hb dX7_many_190 qI_0 ?_
    refine lv_istore_n (lv' := [(3, .int (0 : Int32)), (2, .int (0 : Int32)), (0, .ref a_mo), (1, .int v1)]) hx hb dX7_many_191 rfl hl (by decide) rfl (fun ls hl => ?_)
    exact tX7_many_192 X  FU (0 : Int32) (0 : Int32) h H locs hW ls (lv_sub hl [2, 1, 0] rfl)
  replace h := (if_neg c126).symm.trans h
  have c71 := lv_neT (a := 0) c71 (by decide)
  have c77 := lv_neT (a := 1) c77 (by decide)
  have c83 := lv_neT (a := 2) c83 (by decide)
  have c89 := lv_neT (a := 3) c89 (by decide)
  have c95 := lv_neT (a := 4) c95 (by decide)
  have c101 := lv_neT (a := 5) c101 (by decide)
  have c104 := lv_neT (a := 6) c104 (by decide)
  have c110 := lv_neT (a := 7) c110 (by decide)
  have c114 := lv_neT (a := 8) c114 (by decide)
  have c120 := lv_neT (a := 9) c120 (by decide)
  have c123 := lv_neT (a := 10) c123 (by decide)
  have c126 := lv_neT (a := 11) c126 (by decide)
  refine lv_tableOut (tgt := 234) hx hb dX7_many_3 (by omega) (by decide) ?_
  refine lv_iconst hx hb dX7_many_234 qI_m1 ?_
  obtain rfl := Option.some.inj h
  exact g_iret X hW dX7_many_235
theorem kcX7_many {l : Launch} (G : Gt) (a_mo a_mo_numbers a_mo_boxes a_mo_leases a_mo_words a_mo_weeks a_mo_routes a_mo_turns a_mo_leave a_mo_uses a_mo_arcFrom a_mo_arcTo a_mo_arcRoom a_mo_arcCost a_mo_far a_mo_by a_mo_best a_mo_tape a_mo_kept : Nat) (v1 : Int32) (m_arcs : Int32) (m_tapeMany : Int32) (m_tokenKind : Int32) (m_tokenAt : Int32) (m_tokenEnd : Int32) (m_tokenValue : Int32) (m_fault : Int32) (m_seen : Int32) (m_isKept : Int32) (m_place : Int32) (m_numbers : (Nat → Int32)) (m_boxes : (Nat → Int32)) (m_leases : (Nat → Int32)) {r : Int32}  (h : fX7_many v1 m_tapeMany m_numbers m_boxes m_leases = some r) : CtI G l yX7_many wsX7_many rmX7_many [.ref a_mo, .int v1] (wX7_many G a_mo a_mo_numbers a_mo_boxes a_mo_leases a_mo_words a_mo_weeks a_mo_routes a_mo_turns a_mo_leave a_mo_uses a_mo_arcFrom a_mo_arcTo a_mo_arcRoom a_mo_arcCost a_mo_far a_mo_by a_mo_best a_mo_tape a_mo_kept m_arcs m_tapeMany m_tokenKind m_tokenAt m_tokenEnd m_tokenValue m_fault m_seen m_isKept m_place m_numbers m_boxes m_leases) r (wX7_many G a_mo a_mo_numbers a_mo_boxes a_mo_leases a_mo_words a_mo_weeks a_mo_routes a_mo_turns a_mo_leave a_mo_uses a_mo_arcFrom a_mo_arcTo a_mo_arcRoom a_mo_arcCost a_mo_far a_mo_by a_mo_best a_mo_tape a_mo_kept m_arcs m_tapeMany m_tokenKind m_tokenAt m_tokenEnd m_tokenValue m_fault m_seen m_isKept m_place m_numbers m_boxes m_leases) := k0X7_many G a_mo a_mo_numbers a_mo_boxes a_mo_leases a_mo_words a_mo_weeks a_mo_routes a_mo_turns a_mo_leave a_mo_uses a_mo_arcFrom a_mo_arcTo a_mo_arcRoom a_mo_arcCost a_mo_far a_mo_by a_mo_best a_mo_tape a_mo_kept v1 m_arcs m_tapeMany m_tokenKind m_tokenAt m_tokenEnd m_tokenValue m_fault m_seen m_isKept m_place m_numbers m_boxes m_leases h
end MX7_many
/-! EmptyBoxesModel.move -/
section MX7_move
theorem hdX7_move : yX7_move.cls = RX7 ∧ yX7_move.cls ≠ "java/lang/invoke/MethodHandle" ∧ yX7_move.cls ≠ "java/lang/invoke/VarHandle" ∧ (parseMethodDescriptor yX7_move.desc).map (fun d => d.parameters.length) = some 3 := by decide +kernel
abbrev wX7_move (G : Gt) (a_mo a_mo_kept a_row a_mo_numbers a_mo_boxes a_mo_words a_mo_weeks a_mo_routes a_mo_turns a_mo_leave a_mo_leases a_mo_uses a_mo_arcFrom a_mo_arcTo a_mo_arcRoom a_mo_arcCost a_mo_far a_mo_by a_mo_best a_mo_tape : Nat) (m_arcs : Int32) (m_tapeMany : Int32) (m_tokenKind : Int32) (m_tokenAt : Int32) (m_tokenEnd : Int32) (m_tokenValue : Int32) (m_fault : Int32) (m_seen : Int32) (m_isKept : Int32) (m_place : Int32) (m_kept : (Nat → Int32)) (rw_n : Nat) (rw_f : (Nat → Int32)) : va_W := [(a_mo, .inr (7, [.ref a_mo_numbers, .ref a_mo_boxes, .ref a_mo_words, .ref a_mo_weeks, .ref a_mo_routes, .ref a_mo_turns, .ref a_mo_leave, .ref a_mo_leases, .ref a_mo_uses, .ref a_mo_arcFrom, .ref a_mo_arcTo, .ref a_mo_arcRoom, .ref a_mo_arcCost, .int m_arcs, .ref a_mo_far, .ref a_mo_by, .ref a_mo_best, .ref a_mo_tape, .int m_tapeMany, .int m_tokenKind, .int m_tokenAt, .int m_tokenEnd, .int m_tokenValue, .int m_fault, .int m_seen, .int m_isKept, .ref a_mo_kept, .int m_place])), (a_mo_kept, .inl (G.2.1, 1030, .inl m_kept)), (a_row, .inl (G.2.1, rw_n, .inl rw_f))]
abbrev rmX7_move : Room := { frames := 0, cells := 0, slots := 0, locals := 0 }
theorem iX7_move_X7 : ∀ w ∈ wsX70, w ∈ wsX7_move := by decide +kernel
theorem eX7_move_205 : Fk wsX7_move RX7 205 7 27 := ⟨RX7, TX7, 28, rfl, iX7_move_X7, by decide, by decide +kernel⟩
theorem eX7_move_61 : Fk wsX7_move RX7 61 7 26 := ⟨RX7, TX7, 28, rfl, iX7_move_X7, by decide, by decide +kernel⟩
theorem pX7_move_205 : Fp wsX7_move RX7 205 7 27 .int := ⟨RX7, TX7, 28, tyX7, rfl, iX7_move_X7, by decide, by decide +kernel, tyX7_ok, nmX7, rfl, by decide +kernel⟩
variable {p : Program} {l : Launch} {e : Env} {s : State} {m : MethodId} {args : Array Value} {below : List Frame} {meth : Method} {c : Code} {A : Nat → Prop} {G : Gt} {a_mo a_mo_kept a_row a_mo_numbers a_mo_boxes a_mo_words a_mo_weeks a_mo_routes a_mo_turns a_mo_leave a_mo_leases a_mo_uses a_mo_arcFrom a_mo_arcTo a_mo_arcRoom a_mo_arcCost a_mo_far a_mo_by a_mo_best a_mo_tape : Nat} {m_arcs : Int32} {m_tapeMany : Int32} {m_tokenKind : Int32} {m_tokenAt : Int32} {m_tokenEnd : Int32} {m_tokenValue : Int32} {m_fault : Int32} {m_seen : Int32} {m_isKept : Int32} {rw_n : Nat} {res : Int32 × (Nat → Int32) × (Nat → Int32)}
set_option maxHeartbeats 4000000 in
set_option maxRecDepth 100000 in
theorem tX7_move_42 (X : Bx p s m args meth c cX7_move 5 wsX7_move RX7 none) (v2 : Int32) (v3 : Int32) (v4 : Int32) (m_place : Int32) (m_kept : (Nat → Int32)) (rw_f : (Nat → Int32)) (k_3 : Int32 → Int32 → (Nat → Int32) → (Nat → Int32) → Option (Int32 × (Nat → Int32) × (Nat → Int32))) (Hk_3 : ∀ (v4 : Int32) (m_place : Int32) (m_kept : (Nat → Int32)) (rw_f : (Nat → Int32)), k_3 v4 m_place m_kept rw_f = some res → ∀ (H : Heap) (locs : List Loc), Wo G A s (wX7_move G a_mo a_mo_kept a_row a_mo_numbers a_mo_boxes a_mo_words a_mo_weeks a_mo_routes a_mo_turns a_mo_leave a_mo_leases a_mo_uses a_mo_arcFrom a_mo_arcTo a_mo_arcRoom a_mo_arcCost a_mo_far a_mo_by a_mo_best a_mo_tape m_arcs m_tapeMany m_tokenKind m_tokenAt m_tokenEnd m_tokenValue m_fault m_seen m_isKept m_place m_kept rw_n rw_f) H locs → ∀ ls : Array Slot, lv_has ls 5 [(0, .ref a_mo), (1, .ref a_row), (2, .int v2), (3, .int v3), (4, .int v4)] → W p l e rmX7_move s m args below meth c H locs 0 0 (QV G A below args s (wX7_move G a_mo a_mo_kept a_row a_mo_numbers a_mo_boxes a_mo_words a_mo_weeks a_mo_routes a_mo_turns a_mo_leave a_mo_leases a_mo_uses a_mo_arcFrom a_mo_arcTo a_mo_arcRoom a_mo_arcCost a_mo_far a_mo_by a_mo_best a_mo_tape m_arcs m_tapeMany m_tokenKind m_tokenAt m_tokenEnd m_tokenValue m_fault m_seen m_isKept res.1 res.2.1 rw_n res.2.2)) (F0 m 3 ls [])) (h : fX7_move_42 k_3 v4 m_place m_kept rw_f = some res) : ∀ (H : Heap) (locs : List Loc), Wo G A s (wX7_move G a_mo a_mo_kept a_row a_mo_numbers a_mo_boxes a_mo_words a_mo_weeks a_mo_routes a_mo_turns a_mo_leave a_mo_leases a_mo_uses a_mo_arcFrom a_mo_arcTo a_mo_arcRoom a_mo_arcCost a_mo_far a_mo_by a_mo_best a_mo_tape m_arcs m_tapeMany m_tokenKind m_tokenAt m_tokenEnd m_tokenValue m_fault m_seen m_isKept m_place m_kept rw_n rw_f) H locs → ∀ ls : Array Slot, lv_has ls 5 [(0, .ref a_mo), (1, .ref a_row), (2, .int v2), (3, .int v3), (4, .int v4)] → W p l e rmX7_move s m args below meth c H locs 0 0 (QV G A below args s (wX7_move G a_mo a_mo_kept a_row a_mo_numbers a_mo_boxes a_mo_words a_mo_weeks a_mo_routes a_mo_turns a_mo_leave a_mo_leases a_mo_uses a_mo_arcFrom a_mo_arcTo a_mo_arcRoom a_mo_arcCost a_mo_far a_mo_by a_mo_best a_mo_tape m_arcs m_tapeMany m_tokenKind m_tokenAt m_tokenEnd m_tokenValue m_fault m_seen m_isKept res.1 res.2.1 rw_n res.2.2)) (F0 m 42 ls []) := by
  obtain ⟨hx, hb, -⟩ := id X.1
  intro H locs hW ls hl
  rw [fX7_move_42] at h
  refine lv_aload_n hx hb dX7_move_42 rfl (lv_at hl 0 rfl) ?_
  refine lv_dup hx hb dX7_move_43 rfl ?_
  refine g_get X hW eX7_move_205 0 rfl rfl dX7_move_44 ?_
  refine lv_iconst hx hb dX7_move_47 qI_1 ?_
  refine lv_iadd hx hb dX7_move_48 ?_
  refine g_put X hW (ws' := (wX7_move G a_mo a_mo_kept a_row a_mo_numbers a_mo_boxes a_mo_words a_mo_weeks a_mo_routes a_mo_turns a_mo_leave a_mo_leases a_mo_uses a_mo_arcFrom a_mo_arcTo a_mo_arcRoom a_mo_arcCost a_mo_far a_mo_by a_mo_best a_mo_tape m_arcs m_tapeMany m_tokenKind m_tokenAt m_tokenEnd m_tokenValue m_fault m_seen m_isKept (m_place + (1 : Int32)) m_kept rw_n rw_f)) pX7_move_205 0 rfl (Nat.le_of_ble_eq_true rfl) rfl rfl rfl dX7_move_49 (fun H locs hW => ?_)
  refine lv_iinc (v := (v4 + (1 : Int32))) (lv' := [(4, .int (v4 + (1 : Int32))), (0, .ref a_mo), (1, .ref a_row), (2, .int v2), (3, .int v3)]) hx hb dX7_move_52 hl (k := 4) rfl (congrArg (fun z => v4 + z) qI_1) (by decide) rfl (fun ls hl => ?_)
  refine lv_goto (tgt := 3) hx hb dX7_move_55 (by decide) ?_
  exact Hk_3 (v4 + (1 : Int32)) (m_place + (1 : Int32)) m_kept rw_f h H locs hW ls (lv_sub hl [1, 2, 3, 4, 0] rfl)
set_option maxHeartbeats 4000000 in
set_option maxRecDepth 100000 in
theorem tX7_move_3 (X : Bx p s m args meth c cX7_move 5 wsX7_move RX7 none) (v2 : Int32) (v3 : Int32)   : ∀ (n : Nat) (v4 : Int32) (m_place : Int32) (m_kept : (Nat → Int32)) (rw_f : (Nat → Int32)), fX7_move_3 v2 v3 rw_n n v4 m_place m_kept rw_f = some res → ∀ (H : Heap) (locs : List Loc), Wo G A s (wX7_move G a_mo a_mo_kept a_row a_mo_numbers a_mo_boxes a_mo_words a_mo_weeks a_mo_routes a_mo_turns a_mo_leave a_mo_leases a_mo_uses a_mo_arcFrom a_mo_arcTo a_mo_arcRoom a_mo_arcCost a_mo_far a_mo_by a_mo_best a_mo_tape m_arcs m_tapeMany m_tokenKind m_tokenAt m_tokenEnd m_tokenValue m_fault m_seen m_isKept m_place m_kept rw_n rw_f) H locs → ∀ ls : Array Slot, lv_has ls 5 [(0, .ref a_mo), (1, .ref a_row), (2, .int v2), (3, .int v3), (4, .int v4)] → W p l e rmX7_move s m args below meth c H locs 0 0 (QV G A below args s (wX7_move G a_mo a_mo_kept a_row a_mo_numbers a_mo_boxes a_mo_words a_mo_weeks a_mo_routes a_mo_turns a_mo_leave a_mo_leases a_mo_uses a_mo_arcFrom a_mo_arcTo a_mo_arcRoom a_mo_arcCost a_mo_far a_mo_by a_mo_best a_mo_tape m_arcs m_tapeMany m_tokenKind m_tokenAt m_tokenEnd m_tokenValue m_fault m_seen m_isKept res.1 res.2.1 rw_n res.2.2)) (F0 m 3 ls []) := by
  obtain ⟨hx, hb, -⟩ := id X.1
  intro n
  induction n with
  | zero => intro v4 m_place m_kept rw_f h; rw [fX7_move_3] at h; cases h
  | succ n ih =>
    intro v4 m_place m_kept rw_f h H locs hW ls hl
    rw [fX7_move_3] at h
    refine lv_iload hx hb dX7_move_3 (lv_at hl 4 rfl) ?_
    refine lv_iload_n hx hb dX7_move_5 rfl (lv_at hl 2 rfl) ?_
    refine lv_icmp_ge (tgt := 58) hx hb dX7_move_6 (by decide) (fun c11 => ?_) (fun c11 => ?_)
    · have h := (if_pos c11).symm.trans h
      obtain rfl := Option.some.inj h
      exact g_vret X hW dX7_move_58
    · have h := (if_neg c11).symm.trans h
      refine lv_iload_n hx hb dX7_move_9 rfl (lv_at hl 3 rfl) ?_
      refine lv_if_eq (tgt := 29) hx hb dX7_move_10 (by decide) (fun c14 => ?_) (fun c14 => ?_)
      · have h := (if_pos c14).symm.trans h
        refine lv_aload_n hx hb dX7_move_29 rfl (lv_at hl 1 rfl) ?_
        refine lv_iload hx hb dX7_move_30 (lv_at hl 4 rfl) ?_
        refine lv_aload_n hx hb dX7_move_32 rfl (lv_at hl 0 rfl) ?_
        refine g_get X hW eX7_move_61 0 rfl rfl dX7_move_33 ?_
        refine lv_aload_n hx hb dX7_move_36 rfl (lv_at hl 0 rfl) ?_
        refine g_get X hW eX7_move_205 0 rfl rfl dX7_move_37 ?_
        obtain ⟨g21, h⟩ := gd_some h
        refine g_ald X hW 1 rfl g21 dX7_move_40 ?_
        obtain ⟨g22, h⟩ := gd_some h
        refine g_ast X hW (ws' := (wX7_move G a_mo a_mo_kept a_row a_mo_numbers a_mo_boxes a_mo_words a_mo_weeks a_mo_routes a_mo_turns a_mo_leave a_mo_leases a_mo_uses a_mo_arcFrom a_mo_arcTo a_mo_arcRoom a_mo_arcCost a_mo_far a_mo_by a_mo_best a_mo_tape m_arcs m_tapeMany m_tokenKind m_tokenAt m_tokenEnd m_tokenValue m_fault m_seen m_isKept m_place m_kept rw_n (upd rw_f v4.toNatClampNeg (m_kept m_place.toNatClampNeg)))) 2 rfl g22 rfl dX7_move_41 (fun H locs hW => ?_)
        exact tX7_move_42 X v2 v3 v4 m_place m_kept (upd rw_f v4.toNatClampNeg (m_kept m_place.toNatClampNeg)) (fun v4 m_place m_kept rw_f => fX7_move_3 v2 v3 rw_n n v4 m_place m_kept rw_f) ih h H locs hW ls hl
      · have h := (if_neg c14).symm.trans h
        refine lv_aload_n hx hb dX7_move_13 rfl (lv_at hl 0 rfl) ?_
        refine g_get X hW eX7_move_61 0 rfl rfl dX7_move_14 ?_
        refine lv_aload_n hx hb dX7_move_17 rfl (lv_at hl 0 rfl) ?_
        refine g_get X hW eX7_move_205 0 rfl rfl dX7_move_18 ?_
        refine lv_aload_n hx hb dX7_move_21 rfl (lv_at hl 1 rfl) ?_
        refine lv_iload hx hb dX7_move_22 (lv_at hl 4 rfl) ?_
        obtain ⟨g29, h⟩ := gd_some h
        refine g_ald X hW 2 rfl g29 dX7_move_24 ?_
        obtain ⟨g30, h⟩ := gd_some h
        refine g_ast X hW (ws' := (wX7_move G a_mo a_mo_kept a_row a_mo_numbers a_mo_boxes a_mo_words a_mo_weeks a_mo_routes a_mo_turns a_mo_leave a_mo_leases a_mo_uses a_mo_arcFrom a_mo_arcTo a_mo_arcRoom a_mo_arcCost a_mo_far a_mo_by a_mo_best a_mo_tape m_arcs m_tapeMany m_tokenKind m_tokenAt m_tokenEnd m_tokenValue m_fault m_seen m_isKept m_place (upd m_kept m_place.toNatClampNeg (rw_f v4.toNatClampNeg)) rw_n rw_f)) 1 rfl g30 rfl dX7_move_25 (fun H locs hW => ?_)
        refine lv_goto (tgt := 42) hx hb dX7_move_26 (by decide) ?_
        exact tX7_move_42 X v2 v3 v4 m_place (upd m_kept m_place.toNatClampNeg (rw_f v4.toNatClampNeg)) rw_f (fun v4 m_place m_kept rw_f => fX7_move_3 v2 v3 rw_n n v4 m_place m_kept rw_f) ih h H locs hW ls hl
set_option maxHeartbeats 4000000 in
set_option maxRecDepth 100000 in
theorem k0X7_move {l : Launch} (G : Gt) (a_mo a_mo_kept a_row a_mo_numbers a_mo_boxes a_mo_words a_mo_weeks a_mo_routes a_mo_turns a_mo_leave a_mo_leases a_mo_uses a_mo_arcFrom a_mo_arcTo a_mo_arcRoom a_mo_arcCost a_mo_far a_mo_by a_mo_best a_mo_tape : Nat) (v2 : Int32) (v3 : Int32) (m_arcs : Int32) (m_tapeMany : Int32) (m_tokenKind : Int32) (m_tokenAt : Int32) (m_tokenEnd : Int32) (m_tokenValue : Int32) (m_fault : Int32) (m_seen : Int32) (m_isKept : Int32) (m_place : Int32) (m_kept : (Nat → Int32)) (rw_n : Nat) (rw_f : (Nat → Int32)) {res : Int32 × (Nat → Int32) × (Nat → Int32)} (h : fX7_move v2 v3 m_place m_kept rw_n rw_f = some res) : CtV G l yX7_move wsX7_move rmX7_move [.ref a_mo, .ref a_row, .int v2, .int v3] (wX7_move G a_mo a_mo_kept a_row a_mo_numbers a_mo_boxes a_mo_words a_mo_weeks a_mo_routes a_mo_turns a_mo_leave a_mo_leases a_mo_uses a_mo_arcFrom a_mo_arcTo a_mo_arcRoom a_mo_arcCost a_mo_far a_mo_by a_mo_best a_mo_tape m_arcs m_tapeMany m_tokenKind m_tokenAt m_tokenEnd m_tokenValue m_fault m_seen m_isKept m_place m_kept rw_n rw_f) (wX7_move G a_mo a_mo_kept a_row a_mo_numbers a_mo_boxes a_mo_words a_mo_weeks a_mo_routes a_mo_turns a_mo_leave a_mo_leases a_mo_uses a_mo_arcFrom a_mo_arcTo a_mo_arcRoom a_mo_arcCost a_mo_far a_mo_by a_mo_best a_mo_tape m_arcs m_tapeMany m_tokenKind m_tokenAt m_tokenEnd m_tokenValue m_fault m_seen m_isKept res.1 res.2.1 rw_n res.2.2) := by
  refine CtV.mk (cc := cX7_move) (maxL := 5) (ret := none) (own := RX7) (by decide) rfl rfl (Nat.le_of_ble_eq_true rfl) ?_
  intro p e s m below meth c A X ls hl hW
  obtain ⟨hx, hb, -⟩ := id X.1
  have hl : lv_has ls 5 [(0, .ref a_mo), (1, .ref a_row), (2, .int v2), (3, .int v3)] := hl
  generalize hH : s.heap = H at hW ⊢
  generalize hLo : ([] : List Loc) = locs at hW ⊢
  rw [fX7_move] at h
  refine lv_iconst hx hb dX7_move_0 qI_0 ?_
  refine lv_istore (lv' := [(4, .int (0 : Int32)), (0, .ref a_mo), (1, .ref a_row), (2, .int v2), (3, .int v3)]) hx hb dX7_move_1 hl (by decide) rfl (fun ls hl => ?_)
  exact tX7_move_3 X v2 v3 FU (0 : Int32) m_place m_kept rw_f h H locs hW ls (lv_sub hl [1, 2, 3, 4, 0] rfl)
theorem kcX7_move {l : Launch} (G : Gt) (a_mo a_mo_kept a_row a_mo_numbers a_mo_boxes a_mo_words a_mo_weeks a_mo_routes a_mo_turns a_mo_leave a_mo_leases a_mo_uses a_mo_arcFrom a_mo_arcTo a_mo_arcRoom a_mo_arcCost a_mo_far a_mo_by a_mo_best a_mo_tape : Nat) (v2 : Int32) (v3 : Int32) (m_arcs : Int32) (m_tapeMany : Int32) (m_tokenKind : Int32) (m_tokenAt : Int32) (m_tokenEnd : Int32) (m_tokenValue : Int32) (m_fault : Int32) (m_seen : Int32) (m_isKept : Int32) (m_place : Int32) (m_kept : (Nat → Int32)) (rw_n : Nat) (rw_f : (Nat → Int32))  {z_m_place : Int32} {z_m_kept : (Nat → Int32)} {z_rw_f : (Nat → Int32)} (h : fX7_move v2 v3 m_place m_kept rw_n rw_f = some (z_m_place, z_m_kept, z_rw_f)) : CtV G l yX7_move wsX7_move rmX7_move [.ref a_mo, .ref a_row, .int v2, .int v3] (wX7_move G a_mo a_mo_kept a_row a_mo_numbers a_mo_boxes a_mo_words a_mo_weeks a_mo_routes a_mo_turns a_mo_leave a_mo_leases a_mo_uses a_mo_arcFrom a_mo_arcTo a_mo_arcRoom a_mo_arcCost a_mo_far a_mo_by a_mo_best a_mo_tape m_arcs m_tapeMany m_tokenKind m_tokenAt m_tokenEnd m_tokenValue m_fault m_seen m_isKept m_place m_kept rw_n rw_f) (wX7_move G a_mo a_mo_kept a_row a_mo_numbers a_mo_boxes a_mo_words a_mo_weeks a_mo_routes a_mo_turns a_mo_leave a_mo_leases a_mo_uses a_mo_arcFrom a_mo_arcTo a_mo_arcRoom a_mo_arcCost a_mo_far a_mo_by a_mo_best a_mo_tape m_arcs m_tapeMany m_tokenKind m_tokenAt m_tokenEnd m_tokenValue m_fault m_seen m_isKept z_m_place z_m_kept rw_n z_rw_f) := k0X7_move G a_mo a_mo_kept a_row a_mo_numbers a_mo_boxes a_mo_words a_mo_weeks a_mo_routes a_mo_turns a_mo_leave a_mo_leases a_mo_uses a_mo_arcFrom a_mo_arcTo a_mo_arcRoom a_mo_arcCost a_mo_far a_mo_by a_mo_best a_mo_tape v2 v3 m_arcs m_tapeMany m_tokenKind m_tokenAt m_tokenEnd m_tokenValue m_fault m_seen m_isKept m_place m_kept rw_n rw_f h
end MX7_move
/-! EmptyBoxesModel.moveAll -/
section MX7_moveAll
theorem hdX7_moveAll : yX7_moveAll.cls = RX7 ∧ yX7_moveAll.cls ≠ "java/lang/invoke/MethodHandle" ∧ yX7_moveAll.cls ≠ "java/lang/invoke/VarHandle" ∧ (parseMethodDescriptor yX7_moveAll.desc).map (fun d => d.parameters.length) = some 1 := by decide +kernel
abbrev wX7_moveAll (G : Gt) (a_mo a_mo_numbers a_mo_boxes a_mo_words a_mo_weeks a_mo_routes a_mo_turns a_mo_leave a_mo_leases a_mo_uses a_mo_kept a_mo_arcFrom a_mo_arcTo a_mo_arcRoom a_mo_arcCost a_mo_far a_mo_by a_mo_best a_mo_tape : Nat) (m_arcs : Int32) (m_tapeMany : Int32) (m_tokenKind : Int32) (m_tokenAt : Int32) (m_tokenEnd : Int32) (m_tokenValue : Int32) (m_fault : Int32) (m_seen : Int32) (m_isKept : Int32) (m_place : Int32) (m_numbers : (Nat → Int32)) (m_boxes : (Nat → Int32)) (m_words : (Nat → Int32)) (m_weeks : (Nat → Int32)) (m_routes : (Nat → Int32)) (m_turns : (Nat → Int32)) (m_leave : (Nat → Int32)) (m_leases : (Nat → Int32)) (m_uses : (Nat → Int32)) (m_kept : (Nat → Int32)) : va_W := [(a_mo, .inr (7, [.ref a_mo_numbers, .ref a_mo_boxes, .ref a_mo_words, .ref a_mo_weeks, .ref a_mo_routes, .ref a_mo_turns, .ref a_mo_leave, .ref a_mo_leases, .ref a_mo_uses, .ref a_mo_arcFrom, .ref a_mo_arcTo, .ref a_mo_arcRoom, .ref a_mo_arcCost, .int m_arcs, .ref a_mo_far, .ref a_mo_by, .ref a_mo_best, .ref a_mo_tape, .int m_tapeMany, .int m_tokenKind, .int m_tokenAt, .int m_tokenEnd, .int m_tokenValue, .int m_fault, .int m_seen, .int m_isKept, .ref a_mo_kept, .int m_place])), (a_mo_numbers, .inl (G.2.1, 10, .inl m_numbers)), (a_mo_boxes, .inl (G.2.1, 216, .inl m_boxes)), (a_mo_words, .inl (G.2.1, 300, .inl m_words)), (a_mo_weeks, .inl (G.2.1, 60, .inl m_weeks)), (a_mo_routes, .inl (G.2.1, 50, .inl m_routes)), (a_mo_turns, .inl (G.2.1, 70, .inl m_turns)), (a_mo_leave, .inl (G.2.1, 16, .inl m_leave)), (a_mo_leases, .inl (G.2.1, 68, .inl m_leases)), (a_mo_uses, .inl (G.2.1, 240, .inl m_uses)), (a_mo_kept, .inl (G.2.1, 1030, .inl m_kept))]
abbrev rmX7_moveAll : Room := { frames := 1, cells := 0, slots := 0, locals := 24 }
theorem iX7_moveAll_X7 : ∀ w ∈ wsX70, w ∈ wsX7_moveAll := by decide +kernel
theorem eX7_moveAll_13 : Fk wsX7_moveAll RX7 13 7 1 := ⟨RX7, TX7, 28, rfl, iX7_moveAll_X7, by decide, by decide +kernel⟩
theorem eX7_moveAll_16 : Fk wsX7_moveAll RX7 16 7 2 := ⟨RX7, TX7, 28, rfl, iX7_moveAll_X7, by decide, by decide +kernel⟩
theorem eX7_moveAll_19 : Fk wsX7_moveAll RX7 19 7 3 := ⟨RX7, TX7, 28, rfl, iX7_moveAll_X7, by decide, by decide +kernel⟩
theorem eX7_moveAll_22 : Fk wsX7_moveAll RX7 22 7 4 := ⟨RX7, TX7, 28, rfl, iX7_moveAll_X7, by decide, by decide +kernel⟩
theorem eX7_moveAll_25 : Fk wsX7_moveAll RX7 25 7 5 := ⟨RX7, TX7, 28, rfl, iX7_moveAll_X7, by decide, by decide +kernel⟩
theorem eX7_moveAll_28 : Fk wsX7_moveAll RX7 28 7 6 := ⟨RX7, TX7, 28, rfl, iX7_moveAll_X7, by decide, by decide +kernel⟩
theorem eX7_moveAll_31 : Fk wsX7_moveAll RX7 31 7 7 := ⟨RX7, TX7, 28, rfl, iX7_moveAll_X7, by decide, by decide +kernel⟩
theorem eX7_moveAll_34 : Fk wsX7_moveAll RX7 34 7 8 := ⟨RX7, TX7, 28, rfl, iX7_moveAll_X7, by decide, by decide +kernel⟩
theorem eX7_moveAll_7 : Fk wsX7_moveAll RX7 7 7 0 := ⟨RX7, TX7, 28, rfl, iX7_moveAll_X7, by decide, by decide +kernel⟩
theorem pX7_moveAll_205 : Fp wsX7_moveAll RX7 205 7 27 .int := ⟨RX7, TX7, 28, tyX7, rfl, iX7_moveAll_X7, by decide, by decide +kernel, tyX7_ok, nmX7, rfl, by decide +kernel⟩
theorem ckX7_moveAll_X7_move_208 : CkV wsX7_moveAll RX7 208 yX7_move wsX7_move cX7_move 5 none 3 7 := ⟨RX7, TX7, 28, _, rfl, gX7_moveAll_X7_move, rfl, hdX7_move⟩
variable {p : Program} {l : Launch} {e : Env} {s : State} {m : MethodId} {args : Array Value} {below : List Frame} {meth : Method} {c : Code} {A : Nat → Prop} {G : Gt} {a_mo a_mo_numbers a_mo_boxes a_mo_words a_mo_weeks a_mo_routes a_mo_turns a_mo_leave a_mo_leases a_mo_uses a_mo_kept a_mo_arcFrom a_mo_arcTo a_mo_arcRoom a_mo_arcCost a_mo_far a_mo_by a_mo_best a_mo_tape : Nat} {m_arcs : Int32} {m_tapeMany : Int32} {m_tokenKind : Int32} {m_tokenAt : Int32} {m_tokenEnd : Int32} {m_tokenValue : Int32} {m_fault : Int32} {m_seen : Int32} {m_isKept : Int32} {res : Int32 × (Nat → Int32) × (Nat → Int32) × (Nat → Int32) × (Nat → Int32) × (Nat → Int32) × (Nat → Int32) × (Nat → Int32) × (Nat → Int32) × (Nat → Int32) × (Nat → Int32)}
set_option maxHeartbeats 4000000 in
set_option maxRecDepth 100000 in
theorem k0X7_moveAll {l : Launch} (G : Gt) (a_mo a_mo_numbers a_mo_boxes a_mo_words a_mo_weeks a_mo_routes a_mo_turns a_mo_leave a_mo_leases a_mo_uses a_mo_kept a_mo_arcFrom a_mo_arcTo a_mo_arcRoom a_mo_arcCost a_mo_far a_mo_by a_mo_best a_mo_tape : Nat) (v1 : Int32) (m_arcs : Int32) (m_tapeMany : Int32) (m_tokenKind : Int32) (m_tokenAt : Int32) (m_tokenEnd : Int32) (m_tokenValue : Int32) (m_fault : Int32) (m_seen : Int32) (m_isKept : Int32) (m_place : Int32) (m_numbers : (Nat → Int32)) (m_boxes : (Nat → Int32)) (m_words : (Nat → Int32)) (m_weeks : (Nat → Int32)) (m_routes : (Nat → Int32)) (m_turns : (Nat → Int32)) (m_leave : (Nat → Int32)) (m_leases : (Nat → Int32)) (m_uses : (Nat → Int32)) (m_kept : (Nat → Int32)) {res : Int32 × (Nat → Int32) × (Nat → Int32) × (Nat → Int32) × (Nat → Int32) × (Nat → Int32) × (Nat → Int32) × (Nat → Int32) × (Nat → Int32) × (Nat → Int32) × (Nat → Int32)} (h : fX7_moveAll v1 m_place m_numbers m_boxes m_words m_weeks m_routes m_turns m_leave m_leases m_uses m_kept = some res) : CtV G l yX7_moveAll wsX7_moveAll rmX7_moveAll [.ref a_mo, .int v1] (wX7_moveAll G a_mo a_mo_numbers a_mo_boxes a_mo_words a_mo_weeks a_mo_routes a_mo_turns a_mo_leave a_mo_leases a_mo_uses a_mo_kept a_mo_arcFrom a_mo_arcTo a_mo_arcRoom a_mo_arcCost a_mo_far a_mo_by a_mo_best a_mo_tape m_arcs m_tapeMany m_tokenKind m_tokenAt m_tokenEnd m_tokenValue m_fault m_seen m_isKept m_place m_numbers m_boxes m_words m_weeks m_routes m_turns m_leave m_leases m_uses m_kept) (wX7_moveAll G a_mo a_mo_numbers a_mo_boxes a_mo_words a_mo_weeks a_mo_routes a_mo_turns a_mo_leave a_mo_leases a_mo_uses a_mo_kept a_mo_arcFrom a_mo_arcTo a_mo_arcRoom a_mo_arcCost a_mo_far a_mo_by a_mo_best a_mo_tape m_arcs m_tapeMany m_tokenKind m_tokenAt m_tokenEnd m_tokenValue m_fault m_seen m_isKept res.1 res.2.1 res.2.2.1 res.2.2.2.1 res.2.2.2.2.1 res.2.2.2.2.2.1 res.2.2.2.2.2.2.1 res.2.2.2.2.2.2.2.1 res.2.2.2.2.2.2.2.2.1 res.2.2.2.2.2.2.2.2.2.1 res.2.2.2.2.2.2.2.2.2.2) := by
  refine CtV.mk (cc := cX7_moveAll) (maxL := 2) (ret := none) (own := RX7) (by decide) rfl rfl (Nat.le_of_ble_eq_true rfl) ?_
  intro p e s m below meth c A X ls hl hW
  obtain ⟨hx, hb, -⟩ := id X.1
  have hl : lv_has ls 2 [(0, .ref a_mo), (1, .int v1)] := hl
  generalize hH : s.heap = H at hW ⊢
  generalize hLo : ([] : List Loc) = locs at hW ⊢
  rw [fX7_moveAll] at h
  refine lv_aload_n hx hb dX7_moveAll_0 rfl (lv_at hl 0 rfl) ?_
  refine lv_iconst hx hb dX7_moveAll_1 qI_0 ?_
  refine g_put X hW (ws' := (wX7_moveAll G a_mo a_mo_numbers a_mo_boxes a_mo_words a_mo_weeks a_mo_routes a_mo_turns a_mo_leave a_mo_leases a_mo_uses a_mo_kept a_mo_arcFrom a_mo_arcTo a_mo_arcRoom a_mo_arcCost a_mo_far a_mo_by a_mo_best a_mo_tape m_arcs m_tapeMany m_tokenKind m_tokenAt m_tokenEnd m_tokenValue m_fault m_seen m_isKept (0 : Int32) m_numbers m_boxes m_words m_weeks m_routes m_turns m_leave m_leases m_uses m_kept)) pX7_moveAll_205 0 rfl (Nat.le_of_ble_eq_true rfl) rfl rfl rfl dX7_moveAll_2 (fun H locs hW => ?_)
  refine lv_aload_n hx hb dX7_moveAll_5 rfl (lv_at hl 0 rfl) ?_
  refine lv_aload_n hx hb dX7_moveAll_6 rfl (lv_at hl 0 rfl) ?_
  refine g_get X hW eX7_moveAll_7 0 rfl rfl dX7_moveAll_7 ?_
  refine lv_bipush hx hb dX7_moveAll_10 qB_10 ?_
  refine lv_iload_n hx hb dX7_moveAll_12 rfl (lv_at hl 1 rfl) ?_
  obtain ⟨o9_m_place, o9_m_kept, o9_rw_f, hq, h⟩ := bn3_some h
  refine g_cvv X hW (As := [.ref a_mo_numbers, .int (10 : Int32), .int v1]) (ws' := (wX7_moveAll G a_mo a_mo_numbers a_mo_boxes a_mo_words a_mo_weeks a_mo_routes a_mo_turns a_mo_leave a_mo_leases a_mo_uses a_mo_kept a_mo_arcFrom a_mo_arcTo a_mo_arcRoom a_mo_arcCost a_mo_far a_mo_by a_mo_best a_mo_tape m_arcs m_tapeMany m_tokenKind m_tokenAt m_tokenEnd m_tokenValue m_fault m_seen m_isKept o9_m_place o9_rw_f m_boxes m_words m_weeks m_routes m_turns m_leave m_leases m_uses o9_m_kept)) ckX7_moveAll_X7_move_208 (kcX7_move (l := l) G a_mo a_mo_kept a_mo_numbers a_mo_numbers a_mo_boxes a_mo_words a_mo_weeks a_mo_routes a_mo_turns a_mo_leave a_mo_leases a_mo_uses a_mo_arcFrom a_mo_arcTo a_mo_arcRoom a_mo_arcCost a_mo_far a_mo_by a_mo_best a_mo_tape (10 : Int32) v1 m_arcs m_tapeMany m_tokenKind m_tokenAt m_tokenEnd m_tokenValue m_fault m_seen m_isKept (0 : Int32) m_kept 10 m_numbers hq) ⟨rfl, rfl, Nat.le_of_ble_eq_true rfl, Nat.le_of_ble_eq_true rfl⟩ [0, 10, 1] rfl rfl rfl rfl rfl rfl rfl hl.1 (Nat.le_of_ble_eq_true rfl) ⟨Nat.zero_le _, Nat.zero_le _⟩ dX7_moveAll_13 (fun H locs hW => ?_)
  refine lv_aload_n hx hb dX7_moveAll_16 rfl (lv_at hl 0 rfl) ?_
  refine lv_aload_n hx hb dX7_moveAll_17 rfl (lv_at hl 0 rfl) ?_
  refine g_get X hW eX7_moveAll_13 0 rfl rfl dX7_moveAll_18 ?_
  refine lv_sipush hx hb dX7_moveAll_21 qS_216 ?_
  refine lv_iload_n hx hb dX7_moveAll_24 rfl (lv_at hl 1 rfl) ?_
  obtain ⟨o15_m_place, o15_m_kept, o15_rw_f, hq, h⟩ := bn3_some h
  refine g_cvv X hW (As := [.ref a_mo_boxes, .int (216 : Int32), .int v1]) (ws' := (wX7_moveAll G a_mo a_mo_numbers a_mo_boxes a_mo_words a_mo_weeks a_mo_routes a_mo_turns a_mo_leave a_mo_leases a_mo_uses a_mo_kept a_mo_arcFrom a_mo_arcTo a_mo_arcRoom a_mo_arcCost a_mo_far a_mo_by a_mo_best a_mo_tape m_arcs m_tapeMany m_tokenKind m_tokenAt m_tokenEnd m_tokenValue m_fault m_seen m_isKept o15_m_place o9_rw_f o15_rw_f m_words m_weeks m_routes m_turns m_leave m_leases m_uses o15_m_kept)) ckX7_moveAll_X7_move_208 (kcX7_move (l := l) G a_mo a_mo_kept a_mo_boxes a_mo_numbers a_mo_boxes a_mo_words a_mo_weeks a_mo_routes a_mo_turns a_mo_leave a_mo_leases a_mo_uses a_mo_arcFrom a_mo_arcTo a_mo_arcRoom a_mo_arcCost a_mo_far a_mo_by a_mo_best a_mo_tape (216 : Int32) v1 m_arcs m_tapeMany m_tokenKind m_tokenAt m_tokenEnd m_tokenValue m_fault m_seen m_isKept o9_m_place o9_m_kept 216 m_boxes hq) ⟨rfl, rfl, Nat.le_of_ble_eq_true rfl, Nat.le_of_ble_eq_true rfl⟩ [0, 10, 2] rfl rfl rfl rfl rfl rfl rfl hl.1 (Nat.le_of_ble_eq_true rfl) ⟨Nat.zero_le _, Nat.zero_le _⟩ dX7_moveAll_25 (fun H locs hW => ?_)
  refine lv_aload_n hx hb dX7_moveAll_28 rfl (lv_at hl 0 rfl) ?_
  refine lv_aload_n hx hb dX7_moveAll_29 rfl (lv_at hl 0 rfl) ?_
  refine g_get X hW eX7_moveAll_16 0 rfl rfl dX7_moveAll_30 ?_
  refine lv_sipush hx hb dX7_moveAll_33 qS_300 ?_
  refine lv_iload_n hx hb dX7_moveAll_36 rfl (lv_at hl 1 rfl) ?_
  obtain ⟨o21_m_place, o21_m_kept, o21_rw_f, hq, h⟩ := bn3_some h
  refine g_cvv X hW (As := [.ref a_mo_words, .int (300 : Int32), .int v1]) (ws' := (wX7_moveAll G a_mo a_mo_numbers a_mo_boxes a_mo_words a_mo_weeks a_mo_routes a_mo_turns a_mo_leave a_mo_leases a_mo_uses a_mo_kept a_mo_arcFrom a_mo_arcTo a_mo_arcRoom a_mo_arcCost a_mo_far a_mo_by a_mo_best a_mo_tape m_arcs m_tapeMany m_tokenKind m_tokenAt m_tokenEnd m_tokenValue m_fault m_seen m_isKept o21_m_place o9_rw_f o15_rw_f o21_rw_f m_weeks m_routes m_turns m_leave m_leases m_uses o21_m_kept)) ckX7_moveAll_X7_move_208 (kcX7_move (l := l) G a_mo a_mo_kept a_mo_words a_mo_numbers a_mo_boxes a_mo_words a_mo_weeks a_mo_routes a_mo_turns a_mo_leave a_mo_leases a_mo_uses a_mo_arcFrom a_mo_arcTo a_mo_arcRoom a_mo_arcCost a_mo_far a_mo_by a_mo_best a_mo_tape (300 : Int32) v1 m_arcs m_tapeMany m_tokenKind m_tokenAt m_tokenEnd m_tokenValue m_fault m_seen m_isKept o15_m_place o15_m_kept 300 m_words hq) ⟨rfl, rfl, Nat.le_of_ble_eq_true rfl, Nat.le_of_ble_eq_true rfl⟩ [0, 10, 3] rfl rfl rfl rfl rfl rfl rfl hl.1 (Nat.le_of_ble_eq_true rfl) ⟨Nat.zero_le _, Nat.zero_le _⟩ dX7_moveAll_37 (fun H locs hW => ?_)
  refine lv_aload_n hx hb dX7_moveAll_40 rfl (lv_at hl 0 rfl) ?_
  refine lv_aload_n hx hb dX7_moveAll_41 rfl (lv_at hl 0 rfl) ?_
  refine g_get X hW eX7_moveAll_19 0 rfl rfl dX7_moveAll_42 ?_
  refine lv_bipush hx hb dX7_moveAll_45 qB_60 ?_
  refine lv_iload_n hx hb dX7_moveAll_47 rfl (lv_at hl 1 rfl) ?_
  obtain ⟨o27_m_place, o27_m_kept, o27_rw_f, hq, h⟩ := bn3_some h
  refine g_cvv X hW (As := [.ref a_mo_weeks, .int (60 : Int32), .int v1]) (ws' := (wX7_moveAll G a_mo a_mo_numbers a_mo_boxes a_mo_words a_mo_weeks a_mo_routes a_mo_turns a_mo_leave a_mo_leases a_mo_uses a_mo_kept a_mo_arcFrom a_mo_arcTo a_mo_arcRoom a_mo_arcCost a_mo_far a_mo_by a_mo_best a_mo_tape m_arcs m_tapeMany m_tokenKind m_tokenAt m_tokenEnd m_tokenValue m_fault m_seen m_isKept o27_m_place o9_rw_f o15_rw_f o21_rw_f o27_rw_f m_routes m_turns m_leave m_leases m_uses o27_m_kept)) ckX7_moveAll_X7_move_208 (kcX7_move (l := l) G a_mo a_mo_kept a_mo_weeks a_mo_numbers a_mo_boxes a_mo_words a_mo_weeks a_mo_routes a_mo_turns a_mo_leave a_mo_leases a_mo_uses a_mo_arcFrom a_mo_arcTo a_mo_arcRoom a_mo_arcCost a_mo_far a_mo_by a_mo_best a_mo_tape (60 : Int32) v1 m_arcs m_tapeMany m_tokenKind m_tokenAt m_tokenEnd m_tokenValue m_fault m_seen m_isKept o21_m_place o21_m_kept 60 m_weeks hq) ⟨rfl, rfl, Nat.le_of_ble_eq_true rfl, Nat.le_of_ble_eq_true rfl⟩ [0, 10, 4] rfl rfl rfl rfl rfl rfl rfl hl.1 (Nat.le_of_ble_eq_true rfl) ⟨Nat.zero_le _, Nat.zero_le _⟩ dX7_moveAll_48 (fun H locs hW => ?_)
  refine lv_aload_n hx hb dX7_moveAll_51 rfl (lv_at hl 0 rfl) ?_
  refine lv_aload_n hx hb dX7_moveAll_52 rfl (lv_at hl 0 rfl) ?_
  refine g_get X hW eX7_moveAll_22 0 rfl rfl dX7_moveAll_53 ?_
  refine lv_bipush hx hb dX7_moveAll_56 qB_50 ?_
  refine lv_iload_n hx hb dX7_moveAll_58 rfl (lv_at hl 1 rfl) ?_
  obtain ⟨o33_m_place, o33_m_kept, o33_rw_f, hq, h⟩ := bn3_some h
  refine g_cvv X hW (As := [.ref a_mo_routes, .int (50 : Int32), .int v1]) (ws' := (wX7_moveAll G a_mo a_mo_numbers a_mo_boxes a_mo_words a_mo_weeks a_mo_routes a_mo_turns a_mo_leave a_mo_leases a_mo_uses a_mo_kept a_mo_arcFrom a_mo_arcTo a_mo_arcRoom a_mo_arcCost a_mo_far a_mo_by a_mo_best a_mo_tape m_arcs m_tapeMany m_tokenKind m_tokenAt m_tokenEnd m_tokenValue m_fault m_seen m_isKept o33_m_place o9_rw_f o15_rw_f o21_rw_f o27_rw_f o33_rw_f m_turns m_leave m_leases m_uses o33_m_kept)) ckX7_moveAll_X7_move_208 (kcX7_move (l := l) G a_mo a_mo_kept a_mo_routes a_mo_numbers a_mo_boxes a_mo_words a_mo_weeks a_mo_routes a_mo_turns a_mo_leave a_mo_leases a_mo_uses a_mo_arcFrom a_mo_arcTo a_mo_arcRoom a_mo_arcCost a_mo_far a_mo_by a_mo_best a_mo_tape (50 : Int32) v1 m_arcs m_tapeMany m_tokenKind m_tokenAt m_tokenEnd m_tokenValue m_fault m_seen m_isKept o27_m_place o27_m_kept 50 m_routes hq) ⟨rfl, rfl, Nat.le_of_ble_eq_true rfl, Nat.le_of_ble_eq_true rfl⟩ [0, 10, 5] rfl rfl rfl rfl rfl rfl rfl hl.1 (Nat.le_of_ble_eq_true rfl) ⟨Nat.zero_le _, Nat.zero_le _⟩ dX7_moveAll_59 (fun H locs hW => ?_)
  refine lv_aload_n hx hb dX7_moveAll_62 rfl (lv_at hl 0 rfl) ?_
  refine lv_aload_n hx hb dX7_moveAll_63 rfl (lv_at hl 0 rfl) ?_
  refine g_get X hW eX7_moveAll_25 0 rfl rfl dX7_moveAll_64 ?_
  refine lv_bipush hx hb dX7_moveAll_67 qB_70 ?_
  refine lv_iload_n hx hb dX7_moveAll_69 rfl (lv_at hl 1 rfl) ?_
  obtain ⟨o39_m_place, o39_m_kept, o39_rw_f, hq, h⟩ := bn3_some h
  refine g_cvv X hW (As := [.ref a_mo_turns, .int (70 : Int32), .int v1]) (ws' := (wX7_moveAll G a_mo a_mo_numbers a_mo_boxes a_mo_words a_mo_weeks a_mo_routes a_mo_turns a_mo_leave a_mo_leases a_mo_uses a_mo_kept a_mo_arcFrom a_mo_arcTo a_mo_arcRoom a_mo_arcCost a_mo_far a_mo_by a_mo_best a_mo_tape m_arcs m_tapeMany m_tokenKind m_tokenAt m_tokenEnd m_tokenValue m_fault m_seen m_isKept o39_m_place o9_rw_f o15_rw_f o21_rw_f o27_rw_f o33_rw_f o39_rw_f m_leave m_leases m_uses o39_m_kept)) ckX7_moveAll_X7_move_208 (kcX7_move (l := l) G a_mo a_mo_kept a_mo_turns a_mo_numbers a_mo_boxes a_mo_words a_mo_weeks a_mo_routes a_mo_turns a_mo_leave a_mo_leases a_mo_uses a_mo_arcFrom a_mo_arcTo a_mo_arcRoom a_mo_arcCost a_mo_far a_mo_by a_mo_best a_mo_tape (70 : Int32) v1 m_arcs m_tapeMany m_tokenKind m_tokenAt m_tokenEnd m_tokenValue m_fault m_seen m_isKept o33_m_place o33_m_kept 70 m_turns hq) ⟨rfl, rfl, Nat.le_of_ble_eq_true rfl, Nat.le_of_ble_eq_true rfl⟩ [0, 10, 6] rfl rfl rfl rfl rfl rfl rfl hl.1 (Nat.le_of_ble_eq_true rfl) ⟨Nat.zero_le _, Nat.zero_le _⟩ dX7_moveAll_70 (fun H locs hW => ?_)
  refine lv_aload_n hx hb dX7_moveAll_73 rfl (lv_at hl 0 rfl) ?_
  refine lv_aload_n hx hb dX7_moveAll_74 rfl (lv_at hl 0 rfl) ?_
  refine g_get X hW eX7_moveAll_28 0 rfl rfl dX7_moveAll_75 ?_
  refine lv_bipush hx hb dX7_moveAll_78 qB_16 ?_
  refine lv_iload_n hx hb dX7_moveAll_80 rfl (lv_at hl 1 rfl) ?_
  obtain ⟨o45_m_place, o45_m_kept, o45_rw_f, hq, h⟩ := bn3_some h
  refine g_cvv X hW (As := [.ref a_mo_leave, .int (16 : Int32), .int v1]) (ws' := (wX7_moveAll G a_mo a_mo_numbers a_mo_boxes a_mo_words a_mo_weeks a_mo_routes a_mo_turns a_mo_leave a_mo_leases a_mo_uses a_mo_kept a_mo_arcFrom a_mo_arcTo a_mo_arcRoom a_mo_arcCost a_mo_far a_mo_by a_mo_best a_mo_tape m_arcs m_tapeMany m_tokenKind m_tokenAt m_tokenEnd m_tokenValue m_fault m_seen m_isKept o45_m_place o9_rw_f o15_rw_f o21_rw_f o27_rw_f o33_rw_f o39_rw_f o45_rw_f m_leases m_uses o45_m_kept)) ckX7_moveAll_X7_move_208 (kcX7_move (l := l) G a_mo a_mo_kept a_mo_leave a_mo_numbers a_mo_boxes a_mo_words a_mo_weeks a_mo_routes a_mo_turns a_mo_leave a_mo_leases a_mo_uses a_mo_arcFrom a_mo_arcTo a_mo_arcRoom a_mo_arcCost a_mo_far a_mo_by a_mo_best a_mo_tape (16 : Int32) v1 m_arcs m_tapeMany m_tokenKind m_tokenAt m_tokenEnd m_tokenValue m_fault m_seen m_isKept o39_m_place o39_m_kept 16 m_leave hq) ⟨rfl, rfl, Nat.le_of_ble_eq_true rfl, Nat.le_of_ble_eq_true rfl⟩ [0, 10, 7] rfl rfl rfl rfl rfl rfl rfl hl.1 (Nat.le_of_ble_eq_true rfl) ⟨Nat.zero_le _, Nat.zero_le _⟩ dX7_moveAll_81 (fun H locs hW => ?_)
  refine lv_aload_n hx hb dX7_moveAll_84 rfl (lv_at hl 0 rfl) ?_
  refine lv_aload_n hx hb dX7_moveAll_85 rfl (lv_at hl 0 rfl) ?_
  refine g_get X hW eX7_moveAll_31 0 rfl rfl dX7_moveAll_86 ?_
  refine lv_bipush hx hb dX7_moveAll_89 qB_68 ?_
  refine lv_iload_n hx hb dX7_moveAll_91 rfl (lv_at hl 1 rfl) ?_
  obtain ⟨o51_m_place, o51_m_kept, o51_rw_f, hq, h⟩ := bn3_some h
  refine g_cvv X hW (As := [.ref a_mo_leases, .int (68 : Int32), .int v1]) (ws' := (wX7_moveAll G a_mo a_mo_numbers a_mo_boxes a_mo_words a_mo_weeks a_mo_routes a_mo_turns a_mo_leave a_mo_leases a_mo_uses a_mo_kept a_mo_arcFrom a_mo_arcTo a_mo_arcRoom a_mo_arcCost a_mo_far a_mo_by a_mo_best a_mo_tape m_arcs m_tapeMany m_tokenKind m_tokenAt m_tokenEnd m_tokenValue m_fault m_seen m_isKept o51_m_place o9_rw_f o15_rw_f o21_rw_f o27_rw_f o33_rw_f o39_rw_f o45_rw_f o51_rw_f m_uses o51_m_kept)) ckX7_moveAll_X7_move_208 (kcX7_move (l := l) G a_mo a_mo_kept a_mo_leases a_mo_numbers a_mo_boxes a_mo_words a_mo_weeks a_mo_routes a_mo_turns a_mo_leave a_mo_leases a_mo_uses a_mo_arcFrom a_mo_arcTo a_mo_arcRoom a_mo_arcCost a_mo_far a_mo_by a_mo_best a_mo_tape (68 : Int32) v1 m_arcs m_tapeMany m_tokenKind m_tokenAt m_tokenEnd m_tokenValue m_fault m_seen m_isKept o45_m_place o45_m_kept 68 m_leases hq) ⟨rfl, rfl, Nat.le_of_ble_eq_true rfl, Nat.le_of_ble_eq_true rfl⟩ [0, 10, 8] rfl rfl rfl rfl rfl rfl rfl hl.1 (Nat.le_of_ble_eq_true rfl) ⟨Nat.zero_le _, Nat.zero_le _⟩ dX7_moveAll_92 (fun H locs hW => ?_)
  refine lv_aload_n hx hb dX7_moveAll_95 rfl (lv_at hl 0 rfl) ?_
  refine lv_aload_n hx hb dX7_moveAll_96 rfl (lv_at hl 0 rfl) ?_
  refine g_get X hW eX7_moveAll_34 0 rfl rfl dX7_moveAll_97 ?_
  refine lv_sipush hx hb dX7_moveAll_100 qS_240 ?_
  refine lv_iload_n hx hb dX7_moveAll_103 rfl (lv_at hl 1 rfl) ?_
  obtain ⟨o57_m_place, o57_m_kept, o57_rw_f, hq, h⟩ := bn3_some h
  refine g_cvv X hW (As := [.ref a_mo_uses, .int (240 : Int32), .int v1]) (ws' := (wX7_moveAll G a_mo a_mo_numbers a_mo_boxes a_mo_words a_mo_weeks a_mo_routes a_mo_turns a_mo_leave a_mo_leases a_mo_uses a_mo_kept a_mo_arcFrom a_mo_arcTo a_mo_arcRoom a_mo_arcCost a_mo_far a_mo_by a_mo_best a_mo_tape m_arcs m_tapeMany m_tokenKind m_tokenAt m_tokenEnd m_tokenValue m_fault m_seen m_isKept o57_m_place o9_rw_f o15_rw_f o21_rw_f o27_rw_f o33_rw_f o39_rw_f o45_rw_f o51_rw_f o57_rw_f o57_m_kept)) ckX7_moveAll_X7_move_208 (kcX7_move (l := l) G a_mo a_mo_kept a_mo_uses a_mo_numbers a_mo_boxes a_mo_words a_mo_weeks a_mo_routes a_mo_turns a_mo_leave a_mo_leases a_mo_uses a_mo_arcFrom a_mo_arcTo a_mo_arcRoom a_mo_arcCost a_mo_far a_mo_by a_mo_best a_mo_tape (240 : Int32) v1 m_arcs m_tapeMany m_tokenKind m_tokenAt m_tokenEnd m_tokenValue m_fault m_seen m_isKept o51_m_place o51_m_kept 240 m_uses hq) ⟨rfl, rfl, Nat.le_of_ble_eq_true rfl, Nat.le_of_ble_eq_true rfl⟩ [0, 10, 9] rfl rfl rfl rfl rfl rfl rfl hl.1 (Nat.le_of_ble_eq_true rfl) ⟨Nat.zero_le _, Nat.zero_le _⟩ dX7_moveAll_104 (fun H locs hW => ?_)
  obtain rfl := Option.some.inj h
  exact g_vret X hW dX7_moveAll_107
theorem kcX7_moveAll {l : Launch} (G : Gt) (a_mo a_mo_numbers a_mo_boxes a_mo_words a_mo_weeks a_mo_routes a_mo_turns a_mo_leave a_mo_leases a_mo_uses a_mo_kept a_mo_arcFrom a_mo_arcTo a_mo_arcRoom a_mo_arcCost a_mo_far a_mo_by a_mo_best a_mo_tape : Nat) (v1 : Int32) (m_arcs : Int32) (m_tapeMany : Int32) (m_tokenKind : Int32) (m_tokenAt : Int32) (m_tokenEnd : Int32) (m_tokenValue : Int32) (m_fault : Int32) (m_seen : Int32) (m_isKept : Int32) (m_place : Int32) (m_numbers : (Nat → Int32)) (m_boxes : (Nat → Int32)) (m_words : (Nat → Int32)) (m_weeks : (Nat → Int32)) (m_routes : (Nat → Int32)) (m_turns : (Nat → Int32)) (m_leave : (Nat → Int32)) (m_leases : (Nat → Int32)) (m_uses : (Nat → Int32)) (m_kept : (Nat → Int32))  {z_m_place : Int32} {z_m_numbers : (Nat → Int32)} {z_m_boxes : (Nat → Int32)} {z_m_words : (Nat → Int32)} {z_m_weeks : (Nat → Int32)} {z_m_routes : (Nat → Int32)} {z_m_turns : (Nat → Int32)} {z_m_leave : (Nat → Int32)} {z_m_leases : (Nat → Int32)} {z_m_uses : (Nat → Int32)} {z_m_kept : (Nat → Int32)} (h : fX7_moveAll v1 m_place m_numbers m_boxes m_words m_weeks m_routes m_turns m_leave m_leases m_uses m_kept = some (z_m_place, z_m_numbers, z_m_boxes, z_m_words, z_m_weeks, z_m_routes, z_m_turns, z_m_leave, z_m_leases, z_m_uses, z_m_kept)) : CtV G l yX7_moveAll wsX7_moveAll rmX7_moveAll [.ref a_mo, .int v1] (wX7_moveAll G a_mo a_mo_numbers a_mo_boxes a_mo_words a_mo_weeks a_mo_routes a_mo_turns a_mo_leave a_mo_leases a_mo_uses a_mo_kept a_mo_arcFrom a_mo_arcTo a_mo_arcRoom a_mo_arcCost a_mo_far a_mo_by a_mo_best a_mo_tape m_arcs m_tapeMany m_tokenKind m_tokenAt m_tokenEnd m_tokenValue m_fault m_seen m_isKept m_place m_numbers m_boxes m_words m_weeks m_routes m_turns m_leave m_leases m_uses m_kept) (wX7_moveAll G a_mo a_mo_numbers a_mo_boxes a_mo_words a_mo_weeks a_mo_routes a_mo_turns a_mo_leave a_mo_leases a_mo_uses a_mo_kept a_mo_arcFrom a_mo_arcTo a_mo_arcRoom a_mo_arcCost a_mo_far a_mo_by a_mo_best a_mo_tape m_arcs m_tapeMany m_tokenKind m_tokenAt m_tokenEnd m_tokenValue m_fault m_seen m_isKept z_m_place z_m_numbers z_m_boxes z_m_words z_m_weeks z_m_routes z_m_turns z_m_leave z_m_leases z_m_uses z_m_kept) := k0X7_moveAll G a_mo a_mo_numbers a_mo_boxes a_mo_words a_mo_weeks a_mo_routes a_mo_turns a_mo_leave a_mo_leases a_mo_uses a_mo_kept a_mo_arcFrom a_mo_arcTo a_mo_arcRoom a_mo_arcCost a_mo_far a_mo_by a_mo_best a_mo_tape v1 m_arcs m_tapeMany m_tokenKind m_tokenAt m_tokenEnd m_tokenValue m_fault m_seen m_isKept m_place m_numbers m_boxes m_words m_weeks m_routes m_turns m_leave m_leases m_uses m_kept h
end MX7_moveAll
/-! EmptyBoxesModel.keep -/
section MX7_keep
theorem hdX7_keep : yX7_keep.cls = RX7 ∧ yX7_keep.cls ≠ "java/lang/invoke/MethodHandle" ∧ yX7_keep.cls ≠ "java/lang/invoke/VarHandle" ∧ (parseMethodDescriptor yX7_keep.desc).map (fun d => d.parameters.length) = some 0 := by decide +kernel
abbrev wX7_keep (G : Gt) (a_mo a_mo_numbers a_mo_boxes a_mo_words a_mo_weeks a_mo_routes a_mo_turns a_mo_leave a_mo_leases a_mo_uses a_mo_kept a_mo_arcFrom a_mo_arcTo a_mo_arcRoom a_mo_arcCost a_mo_far a_mo_by a_mo_best a_mo_tape : Nat) (m_arcs : Int32) (m_tapeMany : Int32) (m_tokenKind : Int32) (m_tokenAt : Int32) (m_tokenEnd : Int32) (m_tokenValue : Int32) (m_fault : Int32) (m_seen : Int32) (m_isKept : Int32) (m_place : Int32) (m_numbers : (Nat → Int32)) (m_boxes : (Nat → Int32)) (m_words : (Nat → Int32)) (m_weeks : (Nat → Int32)) (m_routes : (Nat → Int32)) (m_turns : (Nat → Int32)) (m_leave : (Nat → Int32)) (m_leases : (Nat → Int32)) (m_uses : (Nat → Int32)) (m_kept : (Nat → Int32)) : va_W := [(a_mo, .inr (7, [.ref a_mo_numbers, .ref a_mo_boxes, .ref a_mo_words, .ref a_mo_weeks, .ref a_mo_routes, .ref a_mo_turns, .ref a_mo_leave, .ref a_mo_leases, .ref a_mo_uses, .ref a_mo_arcFrom, .ref a_mo_arcTo, .ref a_mo_arcRoom, .ref a_mo_arcCost, .int m_arcs, .ref a_mo_far, .ref a_mo_by, .ref a_mo_best, .ref a_mo_tape, .int m_tapeMany, .int m_tokenKind, .int m_tokenAt, .int m_tokenEnd, .int m_tokenValue, .int m_fault, .int m_seen, .int m_isKept, .ref a_mo_kept, .int m_place])), (a_mo_numbers, .inl (G.2.1, 10, .inl m_numbers)), (a_mo_boxes, .inl (G.2.1, 216, .inl m_boxes)), (a_mo_words, .inl (G.2.1, 300, .inl m_words)), (a_mo_weeks, .inl (G.2.1, 60, .inl m_weeks)), (a_mo_routes, .inl (G.2.1, 50, .inl m_routes)), (a_mo_turns, .inl (G.2.1, 70, .inl m_turns)), (a_mo_leave, .inl (G.2.1, 16, .inl m_leave)), (a_mo_leases, .inl (G.2.1, 68, .inl m_leases)), (a_mo_uses, .inl (G.2.1, 240, .inl m_uses)), (a_mo_kept, .inl (G.2.1, 1030, .inl m_kept))]
abbrev rmX7_keep : Room := { frames := 2, cells := 0, slots := 0, locals := 45 }
theorem iX7_keep_X7 : ∀ w ∈ wsX70, w ∈ wsX7_keep := by decide +kernel
theorem pX7_keep_216 : Fp wsX7_keep RX7 216 7 25 .boolean := ⟨RX7, TX7, 28, tyX7, rfl, iX7_keep_X7, by decide, by decide +kernel, tyX7_ok, nmX7, rfl, by decide +kernel⟩
theorem ckX7_keep_X7_moveAll_212 : CkV wsX7_keep RX7 212 yX7_moveAll wsX7_moveAll cX7_moveAll 2 none 1 7 := ⟨RX7, TX7, 28, _, rfl, gX7_keep_X7_moveAll, rfl, hdX7_moveAll⟩
variable {p : Program} {l : Launch} {e : Env} {s : State} {m : MethodId} {args : Array Value} {below : List Frame} {meth : Method} {c : Code} {A : Nat → Prop} {G : Gt} {a_mo a_mo_numbers a_mo_boxes a_mo_words a_mo_weeks a_mo_routes a_mo_turns a_mo_leave a_mo_leases a_mo_uses a_mo_kept a_mo_arcFrom a_mo_arcTo a_mo_arcRoom a_mo_arcCost a_mo_far a_mo_by a_mo_best a_mo_tape : Nat} {m_arcs : Int32} {m_tapeMany : Int32} {m_tokenKind : Int32} {m_tokenAt : Int32} {m_tokenEnd : Int32} {m_tokenValue : Int32} {m_fault : Int32} {m_seen : Int32} {res : Int32 × Int32 × Int32 × (Nat → Int32) × (Nat → Int32) × (Nat → Int32) × (Nat → Int32) × (Nat → Int32) × (Nat → Int32) × (Nat → Int32) × (Nat → Int32) × (Nat → Int32) × (Nat → Int32)}
set_option maxHeartbeats 4000000 in
set_option maxRecDepth 100000 in
theorem k0X7_keep {l : Launch} (G : Gt) (a_mo a_mo_numbers a_mo_boxes a_mo_words a_mo_weeks a_mo_routes a_mo_turns a_mo_leave a_mo_leases a_mo_uses a_mo_kept a_mo_arcFrom a_mo_arcTo a_mo_arcRoom a_mo_arcCost a_mo_far a_mo_by a_mo_best a_mo_tape : Nat)  (m_arcs : Int32) (m_tapeMany : Int32) (m_tokenKind : Int32) (m_tokenAt : Int32) (m_tokenEnd : Int32) (m_tokenValue : Int32) (m_fault : Int32) (m_seen : Int32) (m_isKept : Int32) (m_place : Int32) (m_numbers : (Nat → Int32)) (m_boxes : (Nat → Int32)) (m_words : (Nat → Int32)) (m_weeks : (Nat → Int32)) (m_routes : (Nat → Int32)) (m_turns : (Nat → Int32)) (m_leave : (Nat → Int32)) (m_leases : (Nat → Int32)) (m_uses : (Nat → Int32)) (m_kept : (Nat → Int32)) {res : Int32 × Int32 × Int32 × (Nat → Int32) × (Nat → Int32) × (Nat → Int32) × (Nat → Int32) × (Nat → Int32) × (Nat → Int32) × (Nat → Int32) × (Nat → Int32) × (Nat → Int32) × (Nat → Int32)} (h : fX7_keep m_isKept m_place m_numbers m_boxes m_words m_weeks m_routes m_turns m_leave m_leases m_uses m_kept = some res) : CtI G l yX7_keep wsX7_keep rmX7_keep [.ref a_mo] (wX7_keep G a_mo a_mo_numbers a_mo_boxes a_mo_words a_mo_weeks a_mo_routes a_mo_turns a_mo_leave a_mo_leases a_mo_uses a_mo_kept a_mo_arcFrom a_mo_arcTo a_mo_arcRoom a_mo_arcCost a_mo_far a_mo_by a_mo_best a_mo_tape m_arcs m_tapeMany m_tokenKind m_tokenAt m_tokenEnd m_tokenValue m_fault m_seen m_isKept m_place m_numbers m_boxes m_words m_weeks m_routes m_turns m_leave m_leases m_uses m_kept) res.1 (wX7_keep G a_mo a_mo_numbers a_mo_boxes a_mo_words a_mo_weeks a_mo_routes a_mo_turns a_mo_leave a_mo_leases a_mo_uses a_mo_kept a_mo_arcFrom a_mo_arcTo a_mo_arcRoom a_mo_arcCost a_mo_far a_mo_by a_mo_best a_mo_tape m_arcs m_tapeMany m_tokenKind m_tokenAt m_tokenEnd m_tokenValue m_fault m_seen res.2.1 res.2.2.1 res.2.2.2.1 res.2.2.2.2.1 res.2.2.2.2.2.1 res.2.2.2.2.2.2.1 res.2.2.2.2.2.2.2.1 res.2.2.2.2.2.2.2.2.1 res.2.2.2.2.2.2.2.2.2.1 res.2.2.2.2.2.2.2.2.2.2.1 res.2.2.2.2.2.2.2.2.2.2.2.1 res.2.2.2.2.2.2.2.2.2.2.2.2) := by
  refine CtI.mk (cc := cX7_keep) (maxL := 1) (ret := (some .int)) (own := RX7) (by decide) rfl rfl (Nat.le_of_ble_eq_true rfl) ?_
  intro p e s m below meth c A X ls hl hW
  obtain ⟨hx, hb, -⟩ := id X.1
  have hl : lv_has ls 1 [(0, .ref a_mo)] := hl
  generalize hH : s.heap = H at hW ⊢
  generalize hLo : ([] : List Loc) = locs at hW ⊢
  rw [fX7_keep] at h
  refine lv_aload_n hx hb dX7_keep_0 rfl (lv_at hl 0 rfl) ?_
  refine lv_iconst hx hb dX7_keep_1 qI_1 ?_
  obtain ⟨o3_m_place, o3_m_numbers, o3_m_boxes, o3_m_words, o3_m_weeks, o3_m_routes, o3_m_turns, o3_m_leave, o3_m_leases, o3_m_uses, o3_m_kept, hq, h⟩ := bn11_some h
  refine g_cvv X hW (As := [.int (1 : Int32)]) (ws' := (wX7_keep G a_mo a_mo_numbers a_mo_boxes a_mo_words a_mo_weeks a_mo_routes a_mo_turns a_mo_leave a_mo_leases a_mo_uses a_mo_kept a_mo_arcFrom a_mo_arcTo a_mo_arcRoom a_mo_arcCost a_mo_far a_mo_by a_mo_best a_mo_tape m_arcs m_tapeMany m_tokenKind m_tokenAt m_tokenEnd m_tokenValue m_fault m_seen m_isKept o3_m_place o3_m_numbers o3_m_boxes o3_m_words o3_m_weeks o3_m_routes o3_m_turns o3_m_leave o3_m_leases o3_m_uses o3_m_kept)) ckX7_keep_X7_moveAll_212 (kcX7_moveAll (l := l) G a_mo a_mo_numbers a_mo_boxes a_mo_words a_mo_weeks a_mo_routes a_mo_turns a_mo_leave a_mo_leases a_mo_uses a_mo_kept a_mo_arcFrom a_mo_arcTo a_mo_arcRoom a_mo_arcCost a_mo_far a_mo_by a_mo_best a_mo_tape (1 : Int32) m_arcs m_tapeMany m_tokenKind m_tokenAt m_tokenEnd m_tokenValue m_fault m_seen m_isKept m_place m_numbers m_boxes m_words m_weeks m_routes m_turns m_leave m_leases m_uses m_kept hq) ⟨rfl, rfl, Nat.le_of_ble_eq_true rfl, Nat.le_of_ble_eq_true rfl⟩ [0, 1, 2, 3, 4, 5, 6, 7, 8, 9, 10] rfl rfl rfl rfl rfl rfl rfl hl.1 (Nat.le_of_ble_eq_true rfl) ⟨Nat.zero_le _, Nat.zero_le _⟩ dX7_keep_2 (fun H locs hW => ?_)
  refine lv_aload_n hx hb dX7_keep_5 rfl (lv_at hl 0 rfl) ?_
  refine lv_iconst hx hb dX7_keep_6 qI_1 ?_
  refine g_put X hW (ws' := (wX7_keep G a_mo a_mo_numbers a_mo_boxes a_mo_words a_mo_weeks a_mo_routes a_mo_turns a_mo_leave a_mo_leases a_mo_uses a_mo_kept a_mo_arcFrom a_mo_arcTo a_mo_arcRoom a_mo_arcCost a_mo_far a_mo_by a_mo_best a_mo_tape m_arcs m_tapeMany m_tokenKind m_tokenAt m_tokenEnd m_tokenValue m_fault m_seen (1 : Int32) o3_m_place o3_m_numbers o3_m_boxes o3_m_words o3_m_weeks o3_m_routes o3_m_turns o3_m_leave o3_m_leases o3_m_uses o3_m_kept)) pX7_keep_216 0 rfl (Nat.le_of_ble_eq_true rfl) (zb_n (v := (1 : Int32)) rfl) (zb_f (v := (1 : Int32)) rfl) rfl dX7_keep_7 (fun H locs hW => ?_)
  refine lv_iconst hx hb dX7_keep_10 qI_1 ?_
  obtain rfl := Option.some.inj h
  exact g_iret X hW dX7_keep_11
theorem kcX7_keep {l : Launch} (G : Gt) (a_mo a_mo_numbers a_mo_boxes a_mo_words a_mo_weeks a_mo_routes a_mo_turns a_mo_leave a_mo_leases a_mo_uses a_mo_kept a_mo_arcFrom a_mo_arcTo a_mo_arcRoom a_mo_arcCost a_mo_far a_mo_by a_mo_best a_mo_tape : Nat)  (m_arcs : Int32) (m_tapeMany : Int32) (m_tokenKind : Int32) (m_tokenAt : Int32) (m_tokenEnd : Int32) (m_tokenValue : Int32) (m_fault : Int32) (m_seen : Int32) (m_isKept : Int32) (m_place : Int32) (m_numbers : (Nat → Int32)) (m_boxes : (Nat → Int32)) (m_words : (Nat → Int32)) (m_weeks : (Nat → Int32)) (m_routes : (Nat → Int32)) (m_turns : (Nat → Int32)) (m_leave : (Nat → Int32)) (m_leases : (Nat → Int32)) (m_uses : (Nat → Int32)) (m_kept : (Nat → Int32)) {r : Int32} {z_m_isKept : Int32} {z_m_place : Int32} {z_m_numbers : (Nat → Int32)} {z_m_boxes : (Nat → Int32)} {z_m_words : (Nat → Int32)} {z_m_weeks : (Nat → Int32)} {z_m_routes : (Nat → Int32)} {z_m_turns : (Nat → Int32)} {z_m_leave : (Nat → Int32)} {z_m_leases : (Nat → Int32)} {z_m_uses : (Nat → Int32)} {z_m_kept : (Nat → Int32)} (h : fX7_keep m_isKept m_place m_numbers m_boxes m_words m_weeks m_routes m_turns m_leave m_leases m_uses m_kept = some (r, z_m_isKept, z_m_place, z_m_numbers, z_m_boxes, z_m_words, z_m_weeks, z_m_routes, z_m_turns, z_m_leave, z_m_leases, z_m_uses, z_m_kept)) : CtI G l yX7_keep wsX7_keep rmX7_keep [.ref a_mo] (wX7_keep G a_mo a_mo_numbers a_mo_boxes a_mo_words a_mo_weeks a_mo_routes a_mo_turns a_mo_leave a_mo_leases a_mo_uses a_mo_kept a_mo_arcFrom a_mo_arcTo a_mo_arcRoom a_mo_arcCost a_mo_far a_mo_by a_mo_best a_mo_tape m_arcs m_tapeMany m_tokenKind m_tokenAt m_tokenEnd m_tokenValue m_fault m_seen m_isKept m_place m_numbers m_boxes m_words m_weeks m_routes m_turns m_leave m_leases m_uses m_kept) r (wX7_keep G a_mo a_mo_numbers a_mo_boxes a_mo_words a_mo_weeks a_mo_routes a_mo_turns a_mo_leave a_mo_leases a_mo_uses a_mo_kept a_mo_arcFrom a_mo_arcTo a_mo_arcRoom a_mo_arcCost a_mo_far a_mo_by a_mo_best a_mo_tape m_arcs m_tapeMany m_tokenKind m_tokenAt m_tokenEnd m_tokenValue m_fault m_seen z_m_isKept z_m_place z_m_numbers z_m_boxes z_m_words z_m_weeks z_m_routes z_m_turns z_m_leave z_m_leases z_m_uses z_m_kept) := k0X7_keep G a_mo a_mo_numbers a_mo_boxes a_mo_words a_mo_weeks a_mo_routes a_mo_turns a_mo_leave a_mo_leases a_mo_uses a_mo_kept a_mo_arcFrom a_mo_arcTo a_mo_arcRoom a_mo_arcCost a_mo_far a_mo_by a_mo_best a_mo_tape m_arcs m_tapeMany m_tokenKind m_tokenAt m_tokenEnd m_tokenValue m_fault m_seen m_isKept m_place m_numbers m_boxes m_words m_weeks m_routes m_turns m_leave m_leases m_uses m_kept h
end MX7_keep
/-! EmptyBoxesModel.back -/
section MX7_back
theorem hdX7_back : yX7_back.cls = RX7 ∧ yX7_back.cls ≠ "java/lang/invoke/MethodHandle" ∧ yX7_back.cls ≠ "java/lang/invoke/VarHandle" ∧ (parseMethodDescriptor yX7_back.desc).map (fun d => d.parameters.length) = some 0 := by decide +kernel
abbrev wX7_back (G : Gt) (a_mo a_mo_numbers a_mo_boxes a_mo_words a_mo_weeks a_mo_routes a_mo_turns a_mo_leave a_mo_leases a_mo_uses a_mo_kept a_mo_arcFrom a_mo_arcTo a_mo_arcRoom a_mo_arcCost a_mo_far a_mo_by a_mo_best a_mo_tape : Nat) (m_arcs : Int32) (m_tapeMany : Int32) (m_tokenKind : Int32) (m_tokenAt : Int32) (m_tokenEnd : Int32) (m_tokenValue : Int32) (m_fault : Int32) (m_seen : Int32) (m_isKept : Int32) (m_place : Int32) (m_numbers : (Nat → Int32)) (m_boxes : (Nat → Int32)) (m_words : (Nat → Int32)) (m_weeks : (Nat → Int32)) (m_routes : (Nat → Int32)) (m_turns : (Nat → Int32)) (m_leave : (Nat → Int32)) (m_leases : (Nat → Int32)) (m_uses : (Nat → Int32)) (m_kept : (Nat → Int32)) : va_W := [(a_mo, .inr (7, [.ref a_mo_numbers, .ref a_mo_boxes, .ref a_mo_words, .ref a_mo_weeks, .ref a_mo_routes, .ref a_mo_turns, .ref a_mo_leave, .ref a_mo_leases, .ref a_mo_uses, .ref a_mo_arcFrom, .ref a_mo_arcTo, .ref a_mo_arcRoom, .ref a_mo_arcCost, .int m_arcs, .ref a_mo_far, .ref a_mo_by, .ref a_mo_best, .ref a_mo_tape, .int m_tapeMany, .int m_tokenKind, .int m_tokenAt, .int m_tokenEnd, .int m_tokenValue, .int m_fault, .int m_seen, .int m_isKept, .ref a_mo_kept, .int m_place])), (a_mo_numbers, .inl (G.2.1, 10, .inl m_numbers)), (a_mo_boxes, .inl (G.2.1, 216, .inl m_boxes)), (a_mo_words, .inl (G.2.1, 300, .inl m_words)), (a_mo_weeks, .inl (G.2.1, 60, .inl m_weeks)), (a_mo_routes, .inl (G.2.1, 50, .inl m_routes)), (a_mo_turns, .inl (G.2.1, 70, .inl m_turns)), (a_mo_leave, .inl (G.2.1, 16, .inl m_leave)), (a_mo_leases, .inl (G.2.1, 68, .inl m_leases)), (a_mo_uses, .inl (G.2.1, 240, .inl m_uses)), (a_mo_kept, .inl (G.2.1, 1030, .inl m_kept))]
abbrev rmX7_back : Room := { frames := 2, cells := 0, slots := 0, locals := 45 }
theorem iX7_back_X7 : ∀ w ∈ wsX70, w ∈ wsX7_back := by decide +kernel
theorem eX7_back_216 : Fk wsX7_back RX7 216 7 25 := ⟨RX7, TX7, 28, rfl, iX7_back_X7, by decide, by decide +kernel⟩
theorem ckX7_back_X7_moveAll_212 : CkV wsX7_back RX7 212 yX7_moveAll wsX7_moveAll cX7_moveAll 2 none 1 7 := ⟨RX7, TX7, 28, _, rfl, gX7_back_X7_moveAll, rfl, hdX7_moveAll⟩
variable {p : Program} {l : Launch} {e : Env} {s : State} {m : MethodId} {args : Array Value} {below : List Frame} {meth : Method} {c : Code} {A : Nat → Prop} {G : Gt} {a_mo a_mo_numbers a_mo_boxes a_mo_words a_mo_weeks a_mo_routes a_mo_turns a_mo_leave a_mo_leases a_mo_uses a_mo_kept a_mo_arcFrom a_mo_arcTo a_mo_arcRoom a_mo_arcCost a_mo_far a_mo_by a_mo_best a_mo_tape : Nat} {m_arcs : Int32} {m_tapeMany : Int32} {m_tokenKind : Int32} {m_tokenAt : Int32} {m_tokenEnd : Int32} {m_tokenValue : Int32} {m_fault : Int32} {m_seen : Int32} {m_isKept : Int32} {res : Int32 × Int32 × (Nat → Int32) × (Nat → Int32) × (Nat → Int32) × (Nat → Int32) × (Nat → Int32) × (Nat → Int32) × (Nat → Int32) × (Nat → Int32) × (Nat → Int32) × (Nat → Int32)}
set_option maxHeartbeats 4000000 in
set_option maxRecDepth 100000 in
theorem k0X7_back {l : Launch} (G : Gt) (a_mo a_mo_numbers a_mo_boxes a_mo_words a_mo_weeks a_mo_routes a_mo_turns a_mo_leave a_mo_leases a_mo_uses a_mo_kept a_mo_arcFrom a_mo_arcTo a_mo_arcRoom a_mo_arcCost a_mo_far a_mo_by a_mo_best a_mo_tape : Nat)  (m_arcs : Int32) (m_tapeMany : Int32) (m_tokenKind : Int32) (m_tokenAt : Int32) (m_tokenEnd : Int32) (m_tokenValue : Int32) (m_fault : Int32) (m_seen : Int32) (m_isKept : Int32) (m_place : Int32) (m_numbers : (Nat → Int32)) (m_boxes : (Nat → Int32)) (m_words : (Nat → Int32)) (m_weeks : (Nat → Int32)) (m_routes : (Nat → Int32)) (m_turns : (Nat → Int32)) (m_leave : (Nat → Int32)) (m_leases : (Nat → Int32)) (m_uses : (Nat → Int32)) (m_kept : (Nat → Int32)) {res : Int32 × Int32 × (Nat → Int32) × (Nat → Int32) × (Nat → Int32) × (Nat → Int32) × (Nat → Int32) × (Nat → Int32) × (Nat → Int32) × (Nat → Int32) × (Nat → Int32) × (Nat → Int32)} (h : fX7_back m_isKept m_place m_numbers m_boxes m_words m_weeks m_routes m_turns m_leave m_leases m_uses m_kept = some res) : CtI G l yX7_back wsX7_back rmX7_back [.ref a_mo] (wX7_back G a_mo a_mo_numbers a_mo_boxes a_mo_words a_mo_weeks a_mo_routes a_mo_turns a_mo_leave a_mo_leases a_mo_uses a_mo_kept a_mo_arcFrom a_mo_arcTo a_mo_arcRoom a_mo_arcCost a_mo_far a_mo_by a_mo_best a_mo_tape m_arcs m_tapeMany m_tokenKind m_tokenAt m_tokenEnd m_tokenValue m_fault m_seen m_isKept m_place m_numbers m_boxes m_words m_weeks m_routes m_turns m_leave m_leases m_uses m_kept) res.1 (wX7_back G a_mo a_mo_numbers a_mo_boxes a_mo_words a_mo_weeks a_mo_routes a_mo_turns a_mo_leave a_mo_leases a_mo_uses a_mo_kept a_mo_arcFrom a_mo_arcTo a_mo_arcRoom a_mo_arcCost a_mo_far a_mo_by a_mo_best a_mo_tape m_arcs m_tapeMany m_tokenKind m_tokenAt m_tokenEnd m_tokenValue m_fault m_seen m_isKept res.2.1 res.2.2.1 res.2.2.2.1 res.2.2.2.2.1 res.2.2.2.2.2.1 res.2.2.2.2.2.2.1 res.2.2.2.2.2.2.2.1 res.2.2.2.2.2.2.2.2.1 res.2.2.2.2.2.2.2.2.2.1 res.2.2.2.2.2.2.2.2.2.2.1 res.2.2.2.2.2.2.2.2.2.2.2) := by
  refine CtI.mk (cc := cX7_back) (maxL := 1) (ret := (some .int)) (own := RX7) (by decide) rfl rfl (Nat.le_of_ble_eq_true rfl) ?_
  intro p e s m below meth c A X ls hl hW
  obtain ⟨hx, hb, -⟩ := id X.1
  have hl : lv_has ls 1 [(0, .ref a_mo)] := hl
  generalize hH : s.heap = H at hW ⊢
  generalize hLo : ([] : List Loc) = locs at hW ⊢
  rw [fX7_back] at h
  refine lv_aload_n hx hb dX7_back_0 rfl (lv_at hl 0 rfl) ?_
  refine g_get X hW eX7_back_216 0 rfl rfl dX7_back_1 ?_
  refine lv_if_ne (tgt := 10) hx hb dX7_back_4 (by decide) (fun c3 => ?_) (fun c3 => ?_)
  · have h := (if_neg c3).symm.trans h
    refine lv_aload_n hx hb dX7_back_10 rfl (lv_at hl 0 rfl) ?_
    refine lv_iconst hx hb dX7_back_11 qI_0 ?_
    obtain ⟨o6_m_place, o6_m_numbers, o6_m_boxes, o6_m_words, o6_m_weeks, o6_m_routes, o6_m_turns, o6_m_leave, o6_m_leases, o6_m_uses, o6_m_kept, hq, h⟩ := bn11_some h
    refine g_cvv X hW (As := [.int (0 : Int32)]) (ws' := (wX7_back G a_mo a_mo_numbers a_mo_boxes a_mo_words a_mo_weeks a_mo_routes a_mo_turns a_mo_leave a_mo_leases a_mo_uses a_mo_kept a_mo_arcFrom a_mo_arcTo a_mo_arcRoom a_mo_arcCost a_mo_far a_mo_by a_mo_best a_mo_tape m_arcs m_tapeMany m_tokenKind m_tokenAt m_tokenEnd m_tokenValue m_fault m_seen m_isKept o6_m_place o6_m_numbers o6_m_boxes o6_m_words o6_m_weeks o6_m_routes o6_m_turns o6_m_leave o6_m_leases o6_m_uses o6_m_kept)) ckX7_back_X7_moveAll_212 (kcX7_moveAll (l := l) G a_mo a_mo_numbers a_mo_boxes a_mo_words a_mo_weeks a_mo_routes a_mo_turns a_mo_leave a_mo_leases a_mo_uses a_mo_kept a_mo_arcFrom a_mo_arcTo a_mo_arcRoom a_mo_arcCost a_mo_far a_mo_by a_mo_best a_mo_tape (0 : Int32) m_arcs m_tapeMany m_tokenKind m_tokenAt m_tokenEnd m_tokenValue m_fault m_seen m_isKept m_place m_numbers m_boxes m_words m_weeks m_routes m_turns m_leave m_leases m_uses m_kept hq) ⟨rfl, rfl, Nat.le_of_ble_eq_true rfl, Nat.le_of_ble_eq_true rfl⟩ [0, 1, 2, 3, 4, 5, 6, 7, 8, 9, 10] rfl rfl rfl rfl rfl rfl rfl hl.1 (Nat.le_of_ble_eq_true rfl) ⟨Nat.zero_le _, Nat.zero_le _⟩ dX7_back_12 (fun H locs hW => ?_)
    refine lv_iconst hx hb dX7_back_15 qI_1 ?_
    obtain rfl := Option.some.inj h
    exact g_iret X hW dX7_back_16
  · have h := (if_pos c3).symm.trans h
    refine lv_bipush hx hb dX7_back_7 qB_m3 ?_
    obtain rfl := Option.some.inj h
    exact g_iret X hW dX7_back_9
theorem kcX7_back {l : Launch} (G : Gt) (a_mo a_mo_numbers a_mo_boxes a_mo_words a_mo_weeks a_mo_routes a_mo_turns a_mo_leave a_mo_leases a_mo_uses a_mo_kept a_mo_arcFrom a_mo_arcTo a_mo_arcRoom a_mo_arcCost a_mo_far a_mo_by a_mo_best a_mo_tape : Nat)  (m_arcs : Int32) (m_tapeMany : Int32) (m_tokenKind : Int32) (m_tokenAt : Int32) (m_tokenEnd : Int32) (m_tokenValue : Int32) (m_fault : Int32) (m_seen : Int32) (m_isKept : Int32) (m_place : Int32) (m_numbers : (Nat → Int32)) (m_boxes : (Nat → Int32)) (m_words : (Nat → Int32)) (m_weeks : (Nat → Int32)) (m_routes : (Nat → Int32)) (m_turns : (Nat → Int32)) (m_leave : (Nat → Int32)) (m_leases : (Nat → Int32)) (m_uses : (Nat → Int32)) (m_kept : (Nat → Int32)) {r : Int32} {z_m_place : Int32} {z_m_numbers : (Nat → Int32)} {z_m_boxes : (Nat → Int32)} {z_m_words : (Nat → Int32)} {z_m_weeks : (Nat → Int32)} {z_m_routes : (Nat → Int32)} {z_m_turns : (Nat → Int32)} {z_m_leave : (Nat → Int32)} {z_m_leases : (Nat → Int32)} {z_m_uses : (Nat → Int32)} {z_m_kept : (Nat → Int32)} (h : fX7_back m_isKept m_place m_numbers m_boxes m_words m_weeks m_routes m_turns m_leave m_leases m_uses m_kept = some (r, z_m_place, z_m_numbers, z_m_boxes, z_m_words, z_m_weeks, z_m_routes, z_m_turns, z_m_leave, z_m_leases, z_m_uses, z_m_kept)) : CtI G l yX7_back wsX7_back rmX7_back [.ref a_mo] (wX7_back G a_mo a_mo_numbers a_mo_boxes a_mo_words a_mo_weeks a_mo_routes a_mo_turns a_mo_leave a_mo_leases a_mo_uses a_mo_kept a_mo_arcFrom a_mo_arcTo a_mo_arcRoom a_mo_arcCost a_mo_far a_mo_by a_mo_best a_mo_tape m_arcs m_tapeMany m_tokenKind m_tokenAt m_tokenEnd m_tokenValue m_fault m_seen m_isKept m_place m_numbers m_boxes m_words m_weeks m_routes m_turns m_leave m_leases m_uses m_kept) r (wX7_back G a_mo a_mo_numbers a_mo_boxes a_mo_words a_mo_weeks a_mo_routes a_mo_turns a_mo_leave a_mo_leases a_mo_uses a_mo_kept a_mo_arcFrom a_mo_arcTo a_mo_arcRoom a_mo_arcCost a_mo_far a_mo_by a_mo_best a_mo_tape m_arcs m_tapeMany m_tokenKind m_tokenAt m_tokenEnd m_tokenValue m_fault m_seen m_isKept z_m_place z_m_numbers z_m_boxes z_m_words z_m_weeks z_m_routes z_m_turns z_m_leave z_m_leases z_m_uses z_m_kept) := k0X7_back G a_mo a_mo_numbers a_mo_boxes a_mo_words a_mo_weeks a_mo_routes a_mo_turns a_mo_leave a_mo_leases a_mo_uses a_mo_kept a_mo_arcFrom a_mo_arcTo a_mo_arcRoom a_mo_arcCost a_mo_far a_mo_by a_mo_best a_mo_tape m_arcs m_tapeMany m_tokenKind m_tokenAt m_tokenEnd m_tokenValue m_fault m_seen m_isKept m_place m_numbers m_boxes m_words m_weeks m_routes m_turns m_leave m_leases m_uses m_kept h
end MX7_back
