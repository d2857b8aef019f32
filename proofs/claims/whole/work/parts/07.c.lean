/-! EmptyBoxes.days -/
section MX6_days
theorem hdX6_days : yX6_days.cls = RX6 ∧ yX6_days.cls ≠ "java/lang/invoke/MethodHandle" ∧ yX6_days.cls ≠ "java/lang/invoke/VarHandle" ∧ (parseMethodDescriptor yX6_days.desc).map (fun d => d.parameters.length) = some 1 := by decide +kernel
abbrev wX6_days (G : Gt) (a_eb a_desk a_kept a_tape a_text a_plan a_mat a_desk_boxes a_desk_words a_desk_weeks a_desk_routes a_desk_offers a_desk_wants a_desk_leaves a_desk_leases a_desk_uses : Nat) (isKept : Int32) (planStands : Int32) (today : Int32) (lack : Int32) (rate : Int32) (free : Int32) : va_W := [(a_eb, .inr (6, [.ref a_desk, .ref a_kept, .ref a_tape, .ref a_text, .ref a_plan, .ref a_mat, .int isKept, .int planStands])), (a_desk, .inr (0, [.ref a_desk_boxes, .ref a_desk_words, .ref a_desk_weeks, .ref a_desk_routes, .ref a_desk_offers, .ref a_desk_wants, .ref a_desk_leaves, .ref a_desk_leases, .ref a_desk_uses, .int today, .int lack, .int rate, .int free]))]
abbrev rmX6_days : Room := { frames := 1, cells := 0, slots := 0, locals := 22 }
theorem iX6_days_X0 : ∀ w ∈ wsX00, w ∈ wsX6_days := by decide +kernel
theorem iX6_days_X6 : ∀ w ∈ wsX60, w ∈ wsX6_days := by decide +kernel
theorem eX6_days_12 : Fk wsX6_days RX6 12 6 0 := ⟨RX6, TX6, 8, rfl, iX6_days_X6, by decide, by decide +kernel⟩
theorem eX6_days_58 : Fk wsX6_days RX6 58 0 9 := ⟨RX0, TX0, 13, rfl, iX6_days_X0, by decide, by decide +kernel⟩
theorem pX6_days_58 : Fp wsX6_days RX6 58 0 9 .int := ⟨RX0, TX0, 13, tyX0, rfl, iX6_days_X0, by decide, by decide +kernel, tyX0_ok, nmX0, rfl, by decide +kernel⟩
theorem ckX6_days_X6_isWithin_54 : CkS wsX6_days RX6 54 yX6_isWithin wsX6_isWithin cX6_isWithin 3 (some .boolean) 3 := ⟨_, gX6_days_X6_isWithin, rfl, hdX6_isWithin.2⟩
variable {p : Program} {l : Launch} {e : Env} {s : State} {m : MethodId} {args : Array Value} {below : List Frame} {meth : Method} {c : Code} {A : Nat → Prop} {G : Gt} {a_eb a_desk a_kept a_tape a_text a_plan a_mat a_desk_boxes a_desk_words a_desk_weeks a_desk_routes a_desk_offers a_desk_wants a_desk_leaves a_desk_leases a_desk_uses : Nat} {isKept : Int32} {planStands : Int32} {lack : Int32} {rate : Int32} {free : Int32} {res : Int32 × Int32}
set_option maxHeartbeats 4000000 in
set_option maxRecDepth 100000 in
theorem k0X6_days {l : Launch} (G : Gt) (a_eb a_desk a_kept a_tape a_text a_plan a_mat a_desk_boxes a_desk_words a_desk_weeks a_desk_routes a_desk_offers a_desk_wants a_desk_leaves a_desk_leases a_desk_uses : Nat) (v1 : Int32) (isKept : Int32) (planStands : Int32) (today : Int32) (lack : Int32) (rate : Int32) (free : Int32) {res : Int32 × Int32} (h : fX6_days v1 today = some res) : CtI G l yX6_days wsX6_days rmX6_days [.ref a_eb, .int v1] (wX6_days G a_eb a_desk a_kept a_tape a_text a_plan a_mat a_desk_boxes a_desk_words a_desk_weeks a_desk_routes a_desk_offers a_desk_wants a_desk_leaves a_desk_leases a_desk_uses isKept planStands today lack rate free) res.1 (wX6_days G a_eb a_desk a_kept a_tape a_text a_plan a_mat a_desk_boxes a_desk_words a_desk_weeks a_desk_routes a_desk_offers a_desk_wants a_desk_leaves a_desk_leases a_desk_uses isKept planStands res.2 lack rate free) := by
  refine CtI.mk (cc := cX6_days) (maxL := 2) (ret := (some .int)) (own := RX6) (by decide) rfl rfl (Nat.le_of_ble_eq_true rfl) ?_
  intro p e s m below meth c A X ls hl hW
  obtain ⟨hx, hb, -⟩ := id X.1
  have hl : lv_has ls 2 [(0, .ref a_eb), (1, .int v1)] := hl
  generalize hH : s.heap = H at hW ⊢
  generalize hLo : ([] : List Loc) = locs at hW ⊢
  rw [fX6_days] at h
  refine lv_iload_n hx hb dX6_days_0 rfl (lv_at hl 1 rfl) ?_
  refine lv_iconst hx hb dX6_days_1 qI_1 ?_
  refine lv_bipush hx hb dX6_days_2 qB_30 ?_
  obtain ⟨r4, hq, h⟩ := bn1_some h
  refine g_csi X hW (As := [.int v1, .int (1 : Int32), .int (30 : Int32)]) (ws' := (wX6_days G a_eb a_desk a_kept a_tape a_text a_plan a_mat a_desk_boxes a_desk_words a_desk_weeks a_desk_routes a_desk_offers a_desk_wants a_desk_leaves a_desk_leases a_desk_uses isKept planStands today lack rate free)) ckX6_days_X6_isWithin_54 (kcX6_isWithin (l := l) G v1 (1 : Int32) (30 : Int32) hq) ⟨rfl, rfl, Nat.le_of_ble_eq_true rfl, Nat.le_of_ble_eq_true rfl⟩ [] rfl rfl rfl rfl rfl rfl hl.1 (Nat.le_of_ble_eq_true rfl) ⟨Nat.zero_le _, Nat.zero_le _⟩ dX6_days_4 (fun H locs hW => ?_)
  refine lv_if_ne (tgt := 12) hx hb dX6_days_7 (by decide) (fun c5 => ?_) (fun c5 => ?_)
  · have h := (if_neg c5).symm.trans h
    refine lv_aload_n hx hb dX6_days_12 rfl (lv_at hl 0 rfl) ?_
    refine g_get X hW eX6_days_12 0 rfl rfl dX6_days_13 ?_
    refine g_get X hW eX6_days_58 1 rfl rfl dX6_days_16 ?_
    refine lv_iload_n hx hb dX6_days_19 rfl (lv_at hl 1 rfl) ?_
    refine lv_iadd hx hb dX6_days_20 ?_
    refine lv_sipush hx hb dX6_days_21 qS_200 ?_
    refine lv_icmp_le (tgt := 30) hx hb dX6_days_24 (by decide) (fun c12 => ?_) (fun c12 => ?_)
    · have h := (if_pos c12).symm.trans h
      refine lv_aload_n hx hb dX6_days_30 rfl (lv_at hl 0 rfl) ?_
      refine g_get X hW eX6_days_12 0 rfl rfl dX6_days_31 ?_
      refine lv_dup hx hb dX6_days_34 rfl ?_
      refine g_get X hW eX6_days_58 1 rfl rfl dX6_days_35 ?_
      refine lv_iload_n hx hb dX6_days_38 rfl (lv_at hl 1 rfl) ?_
      refine lv_iadd hx hb dX6_days_39 ?_
      refine g_put X hW (ws' := (wX6_days G a_eb a_desk a_kept a_tape a_text a_plan a_mat a_desk_boxes a_desk_words a_desk_weeks a_desk_routes a_desk_offers a_desk_wants a_desk_leaves a_desk_leases a_desk_uses isKept planStands (today + v1) lack rate free)) pX6_days_58 1 rfl (Nat.le_of_ble_eq_true rfl) rfl rfl rfl dX6_days_40 (fun H locs hW => ?_)
      refine lv_aload_n hx hb dX6_days_43 rfl (lv_at hl 0 rfl) ?_
      refine g_get X hW eX6_days_12 0 rfl rfl dX6_days_44 ?_
      refine g_get X hW eX6_days_58 1 rfl rfl dX6_days_47 ?_
      obtain rfl := Option.some.inj h
      exact g_iret X hW dX6_days_50
    · have h := (if_neg c12).symm.trans h
      refine lv_bipush hx hb dX6_days_27 qB_m4 ?_
      obtain rfl := Option.some.inj h
      exact g_iret X hW dX6_days_29
  · have h := (if_pos c5).symm.trans h
    refine lv_iconst hx hb dX6_days_10 qI_m1 ?_
    obtain rfl := Option.some.inj h
    exact g_iret X hW dX6_days_11
theorem kcX6_days {l : Launch} (G : Gt) (a_eb a_desk a_kept a_tape a_text a_plan a_mat a_desk_boxes a_desk_words a_desk_weeks a_desk_routes a_desk_offers a_desk_wants a_desk_leaves a_desk_leases a_desk_uses : Nat) (v1 : Int32) (isKept : Int32) (planStands : Int32) (today : Int32) (lack : Int32) (rate : Int32) (free : Int32) {r : Int32} {z_today : Int32} (h : fX6_days v1 today = some (r, z_today)) : CtI G l yX6_days wsX6_days rmX6_days [.ref a_eb, .int v1] (wX6_days G a_eb a_desk a_kept a_tape a_text a_plan a_mat a_desk_boxes a_desk_words a_desk_weeks a_desk_routes a_desk_offers a_desk_wants a_desk_leaves a_desk_leases a_desk_uses isKept planStands today lack rate free) r (wX6_days G a_eb a_desk a_kept a_tape a_text a_plan a_mat a_desk_boxes a_desk_words a_desk_weeks a_desk_routes a_desk_offers a_desk_wants a_desk_leaves a_desk_leases a_desk_uses isKept planStands z_today lack rate free) := k0X6_days G a_eb a_desk a_kept a_tape a_text a_plan a_mat a_desk_boxes a_desk_words a_desk_weeks a_desk_routes a_desk_offers a_desk_wants a_desk_leaves a_desk_leases a_desk_uses v1 isKept planStands today lack rate free h
end MX6_days
/-! EmptyBoxes.isMark -/
section MX6_isMark
theorem hdX6_isMark : yX6_isMark.cls = RX6 ∧ yX6_isMark.cls ≠ "java/lang/invoke/MethodHandle" ∧ yX6_isMark.cls ≠ "java/lang/invoke/VarHandle" ∧ (parseMethodDescriptor yX6_isMark.desc).map (fun d => d.parameters.length) = some 1 := by decide +kernel
abbrev rmX6_isMark : Room := { frames := 1, cells := 0, slots := 0, locals := 22 }
theorem ckX6_isMark_X6_isWithin_54 : CkS wsX6_isMark RX6 54 yX6_isWithin wsX6_isWithin cX6_isWithin 3 (some .boolean) 3 := ⟨_, gX6_isMark_X6_isWithin, rfl, hdX6_isWithin.2⟩
variable {p : Program} {l : Launch} {e : Env} {s : State} {m : MethodId} {args : Array Value} {below : List Frame} {meth : Method} {c : Code} {A : Nat → Prop} {G : Gt} {res : Int32}
set_option maxHeartbeats 4000000 in
set_option maxRecDepth 100000 in
theorem k0X6_isMark {l : Launch} (G : Gt) (v0 : Int32)  {res : Int32} (h : fX6_isMark v0 = some res) : CtI G l yX6_isMark wsX6_isMark rmX6_isMark [.int v0] ([] : va_W) res ([] : va_W) := by
  refine CtI.mk (cc := cX6_isMark) (maxL := 1) (ret := (some .boolean)) (own := RX6) (by decide) rfl rfl (Nat.le_of_ble_eq_true rfl) ?_
  intro p e s m below meth c A X ls hl hW
  obtain ⟨hx, hb, -⟩ := id X.1
  have hl : lv_has ls 1 [(0, .int v0)] := hl
  generalize hH : s.heap = H at hW ⊢
  generalize hLo : ([] : List Loc) = locs at hW ⊢
  rw [fX6_isMark] at h
  refine lv_iload_n hx hb dX6_isMark_0 rfl (lv_at hl 0 rfl) ?_
  refine lv_iconst hx hb dX6_isMark_1 qI_0 ?_
  refine lv_sipush hx hb dX6_isMark_2 qS_9999 ?_
  obtain ⟨r4, hq, h⟩ := bn1_some h
  refine g_csi X hW (As := [.int v0, .int (0 : Int32), .int (9999 : Int32)]) (ws' := ([] : va_W)) ckX6_isMark_X6_isWithin_54 (kcX6_isWithin (l := l) G v0 (0 : Int32) (9999 : Int32) hq) ⟨rfl, rfl, Nat.le_of_ble_eq_true rfl, Nat.le_of_ble_eq_true rfl⟩ [] rfl rfl rfl rfl rfl rfl hl.1 (Nat.le_of_ble_eq_true rfl) ⟨Nat.zero_le _, Nat.zero_le _⟩ dX6_isMark_5 (fun H locs hW => ?_)
  obtain ⟨g5, h⟩ := gd_some h
  obtain rfl := Option.some.inj h
  exact g_zret X hW g5 dX6_isMark_8
theorem kcX6_isMark {l : Launch} (G : Gt) (v0 : Int32)  {r : Int32}  (h : fX6_isMark v0 = some r) : CtI G l yX6_isMark wsX6_isMark rmX6_isMark [.int v0] ([] : va_W) r ([] : va_W) := k0X6_isMark G v0 h
end MX6_isMark
/-! EmptyBoxes.isKind -/
section MX6_isKind
theorem hdX6_isKind : yX6_isKind.cls = RX6 ∧ yX6_isKind.cls ≠ "java/lang/invoke/MethodHandle" ∧ yX6_isKind.cls ≠ "java/lang/invoke/VarHandle" ∧ (parseMethodDescriptor yX6_isKind.desc).map (fun d => d.parameters.length) = some 1 := by decide +kernel
abbrev rmX6_isKind : Room := { frames := 1, cells := 0, slots := 0, locals := 22 }
theorem ckX6_isKind_X6_isWithin_54 : CkS wsX6_isKind RX6 54 yX6_isWithin wsX6_isWithin cX6_isWithin 3 (some .boolean) 3 := ⟨_, gX6_isKind_X6_isWithin, rfl, hdX6_isWithin.2⟩
variable {p : Program} {l : Launch} {e : Env} {s : State} {m : MethodId} {args : Array Value} {below : List Frame} {meth : Method} {c : Code} {A : Nat → Prop} {G : Gt} {res : Int32}
set_option maxHeartbeats 4000000 in
set_option maxRecDepth 100000 in
theorem k0X6_isKind {l : Launch} (G : Gt) (v0 : Int32)  {res : Int32} (h : fX6_isKind v0 = some res) : CtI G l yX6_isKind wsX6_isKind rmX6_isKind [.int v0] ([] : va_W) res ([] : va_W) := by
  refine CtI.mk (cc := cX6_isKind) (maxL := 1) (ret := (some .boolean)) (own := RX6) (by decide) rfl rfl (Nat.le_of_ble_eq_true rfl) ?_
  intro p e s m below meth c A X ls hl hW
  obtain ⟨hx, hb, -⟩ := id X.1
  have hl : lv_has ls 1 [(0, .int v0)] := hl
  generalize hH : s.heap = H at hW ⊢
  generalize hLo : ([] : List Loc) = locs at hW ⊢
  rw [fX6_isKind] at h
  refine lv_iload_n hx hb dX6_isKind_0 rfl (lv_at hl 0 rfl) ?_
  refine lv_iconst hx hb dX6_isKind_1 qI_0 ?_
  refine lv_iconst hx hb dX6_isKind_2 qI_2 ?_
  obtain ⟨r4, hq, h⟩ := bn1_some h
  refine g_csi X hW (As := [.int v0, .int (0 : Int32), .int (2 : Int32)]) (ws' := ([] : va_W)) ckX6_isKind_X6_isWithin_54 (kcX6_isWithin (l := l) G v0 (0 : Int32) (2 : Int32) hq) ⟨rfl, rfl, Nat.le_of_ble_eq_true rfl, Nat.le_of_ble_eq_true rfl⟩ [] rfl rfl rfl rfl rfl rfl hl.1 (Nat.le_of_ble_eq_true rfl) ⟨Nat.zero_le _, Nat.zero_le _⟩ dX6_isKind_3 (fun H locs hW => ?_)
  obtain ⟨g5, h⟩ := gd_some h
  obtain rfl := Option.some.inj h
  exact g_zret X hW g5 dX6_isKind_6
theorem kcX6_isKind {l : Launch} (G : Gt) (v0 : Int32)  {r : Int32}  (h : fX6_isKind v0 = some r) : CtI G l yX6_isKind wsX6_isKind rmX6_isKind [.int v0] ([] : va_W) r ([] : va_W) := k0X6_isKind G v0 h
end MX6_isKind
/-! EmptyBoxes.isLine -/
section MX6_isLine
theorem hdX6_isLine : yX6_isLine.cls = RX6 ∧ yX6_isLine.cls ≠ "java/lang/invoke/MethodHandle" ∧ yX6_isLine.cls ≠ "java/lang/invoke/VarHandle" ∧ (parseMethodDescriptor yX6_isLine.desc).map (fun d => d.parameters.length) = some 1 := by decide +kernel
abbrev rmX6_isLine : Room := { frames := 1, cells := 0, slots := 0, locals := 22 }
theorem ckX6_isLine_X6_isWithin_54 : CkS wsX6_isLine RX6 54 yX6_isWithin wsX6_isWithin cX6_isWithin 3 (some .boolean) 3 := ⟨_, gX6_isLine_X6_isWithin, rfl, hdX6_isWithin.2⟩
variable {p : Program} {l : Launch} {e : Env} {s : State} {m : MethodId} {args : Array Value} {below : List Frame} {meth : Method} {c : Code} {A : Nat → Prop} {G : Gt} {res : Int32}
set_option maxHeartbeats 4000000 in
set_option maxRecDepth 100000 in
theorem k0X6_isLine {l : Launch} (G : Gt) (v0 : Int32)  {res : Int32} (h : fX6_isLine v0 = some res) : CtI G l yX6_isLine wsX6_isLine rmX6_isLine [.int v0] ([] : va_W) res ([] : va_W) := by
  refine CtI.mk (cc := cX6_isLine) (maxL := 1) (ret := (some .boolean)) (own := RX6) (by decide) rfl rfl (Nat.le_of_ble_eq_true rfl) ?_
  intro p e s m below meth c A X ls hl hW
  obtain ⟨hx, hb, -⟩ := id X.1
  have hl : lv_has ls 1 [(0, .int v0)] := hl
  generalize hH : s.heap = H at hW ⊢
  generalize hLo : ([] : List Loc) = locs at hW ⊢
  rw [fX6_isLine] at h
  refine lv_iload_n hx hb dX6_isLine_0 rfl (lv_at hl 0 rfl) ?_
  refine lv_iconst hx hb dX6_isLine_1 qI_0 ?_
  refine lv_iconst hx hb dX6_isLine_2 qI_3 ?_
  obtain ⟨r4, hq, h⟩ := bn1_some h
  refine g_csi X hW (As := [.int v0, .int (0 : Int32), .int (3 : Int32)]) (ws' := ([] : va_W)) ckX6_isLine_X6_isWithin_54 (kcX6_isWithin (l := l) G v0 (0 : Int32) (3 : Int32) hq) ⟨rfl, rfl, Nat.le_of_ble_eq_true rfl, Nat.le_of_ble_eq_true rfl⟩ [] rfl rfl rfl rfl rfl rfl hl.1 (Nat.le_of_ble_eq_true rfl) ⟨Nat.zero_le _, Nat.zero_le _⟩ dX6_isLine_3 (fun H locs hW => ?_)
  obtain ⟨g5, h⟩ := gd_some h
  obtain rfl := Option.some.inj h
  exact g_zret X hW g5 dX6_isLine_6
theorem kcX6_isLine {l : Launch} (G : Gt) (v0 : Int32)  {r : Int32}  (h : fX6_isLine v0 = some r) : CtI G l yX6_isLine wsX6_isLine rmX6_isLine [.int v0] ([] : va_W) r ([] : va_W) := k0X6_isLine G v0 h
end MX6_isLine
/-! EmptyBoxes.isLease -/
section MX6_isLease
theorem hdX6_isLease : yX6_isLease.cls = RX6 ∧ yX6_isLease.cls ≠ "java/lang/invoke/MethodHandle" ∧ yX6_isLease.cls ≠ "java/lang/invoke/VarHandle" ∧ (parseMethodDescriptor yX6_isLease.desc).map (fun d => d.parameters.length) = some 1 := by decide +kernel
abbrev rmX6_isLease : Room := { frames := 1, cells := 0, slots := 0, locals := 22 }
theorem ckX6_isLease_X6_isWithin_54 : CkS wsX6_isLease RX6 54 yX6_isWithin wsX6_isWithin cX6_isWithin 3 (some .boolean) 3 := ⟨_, gX6_isLease_X6_isWithin, rfl, hdX6_isWithin.2⟩
variable {p : Program} {l : Launch} {e : Env} {s : State} {m : MethodId} {args : Array Value} {below : List Frame} {meth : Method} {c : Code} {A : Nat → Prop} {G : Gt} {res : Int32}
set_option maxHeartbeats 4000000 in
set_option maxRecDepth 100000 in
theorem k0X6_isLease {l : Launch} (G : Gt) (v0 : Int32)  {res : Int32} (h : fX6_isLease v0 = some res) : CtI G l yX6_isLease wsX6_isLease rmX6_isLease [.int v0] ([] : va_W) res ([] : va_W) := by
  refine CtI.mk (cc := cX6_isLease) (maxL := 1) (ret := (some .boolean)) (own := RX6) (by decide) rfl rfl (Nat.le_of_ble_eq_true rfl) ?_
  intro p e s m below meth c A X ls hl hW
  obtain ⟨hx, hb, -⟩ := id X.1
  have hl : lv_has ls 1 [(0, .int v0)] := hl
  generalize hH : s.heap = H at hW ⊢
  generalize hLo : ([] : List Loc) = locs at hW ⊢
  rw [fX6_isLease] at h
  refine lv_iload_n hx hb dX6_isLease_0 rfl (lv_at hl 0 rfl) ?_
  refine lv_iconst hx hb dX6_isLease_1 qI_0 ?_
  refine lv_iconst hx hb dX6_isLease_2 qI_2 ?_
  obtain ⟨r4, hq, h⟩ := bn1_some h
  refine g_csi X hW (As := [.int v0, .int (0 : Int32), .int (2 : Int32)]) (ws' := ([] : va_W)) ckX6_isLease_X6_isWithin_54 (kcX6_isWithin (l := l) G v0 (0 : Int32) (2 : Int32) hq) ⟨rfl, rfl, Nat.le_of_ble_eq_true rfl, Nat.le_of_ble_eq_true rfl⟩ [] rfl rfl rfl rfl rfl rfl hl.1 (Nat.le_of_ble_eq_true rfl) ⟨Nat.zero_le _, Nat.zero_le _⟩ dX6_isLease_3 (fun H locs hW => ?_)
  obtain ⟨g5, h⟩ := gd_some h
  obtain rfl := Option.some.inj h
  exact g_zret X hW g5 dX6_isLease_6
theorem kcX6_isLease {l : Launch} (G : Gt) (v0 : Int32)  {r : Int32}  (h : fX6_isLease v0 = some r) : CtI G l yX6_isLease wsX6_isLease rmX6_isLease [.int v0] ([] : va_W) r ([] : va_W) := k0X6_isLease G v0 h
end MX6_isLease
/-! EmptyBoxes.boxOfMark -/
section MX6_boxOfMark
theorem hdX6_boxOfMark : yX6_boxOfMark.cls = RX6 ∧ yX6_boxOfMark.cls ≠ "java/lang/invoke/MethodHandle" ∧ yX6_boxOfMark.cls ≠ "java/lang/invoke/VarHandle" ∧ (parseMethodDescriptor yX6_boxOfMark.desc).map (fun d => d.parameters.length) = some 1 := by decide +kernel
abbrev wX6_boxOfMark (G : Gt) (a_eb a_desk a_desk_boxes a_desk_boxes_a a_kept a_tape a_text a_plan a_mat a_desk_words a_desk_weeks a_desk_routes a_desk_offers a_desk_wants a_desk_leaves a_desk_leases a_desk_uses : Nat) (isKept : Int32) (planStands : Int32) (today : Int32) (lack : Int32) (rate : Int32) (free : Int32) (boxes_r : Int32) (boxes_f : (Nat → Int32)) : va_W := [(a_eb, .inr (6, [.ref a_desk, .ref a_kept, .ref a_tape, .ref a_text, .ref a_plan, .ref a_mat, .int isKept, .int planStands])), (a_desk, .inr (0, [.ref a_desk_boxes, .ref a_desk_words, .ref a_desk_weeks, .ref a_desk_routes, .ref a_desk_offers, .ref a_desk_wants, .ref a_desk_leaves, .ref a_desk_leases, .ref a_desk_uses, .int today, .int lack, .int rate, .int free])), (a_desk_boxes, .inr (4, [.ref a_desk_boxes_a, .int (9 : Int32), .int (24 : Int32), .int boxes_r])), (a_desk_boxes_a, .inl (G.2.1, 216, .inl boxes_f))]
abbrev rmX6_boxOfMark : Room := { frames := 2, cells := 0, slots := 0, locals := 44 }
theorem iX6_boxOfMark_X0 : ∀ w ∈ wsX00, w ∈ wsX6_boxOfMark := by decide +kernel
theorem iX6_boxOfMark_X6 : ∀ w ∈ wsX60, w ∈ wsX6_boxOfMark := by decide +kernel
theorem eX6_boxOfMark_12 : Fk wsX6_boxOfMark RX6 12 6 0 := ⟨RX6, TX6, 8, rfl, iX6_boxOfMark_X6, by decide, by decide +kernel⟩
theorem eX6_boxOfMark_82 : Fk wsX6_boxOfMark RX6 82 0 0 := ⟨RX0, TX0, 13, rfl, iX6_boxOfMark_X0, by decide, by decide +kernel⟩
theorem ckX6_boxOfMark_X4_cell_113 : CkV wsX6_boxOfMark RX6 113 yX4_cell wsX4_cell cX4_cell 3 (some .int) 2 4 := ⟨RX4, TX4, 4, _, rfl, gX6_boxOfMark_X4_cell, rfl, hdX4_cell⟩
theorem ckX6_boxOfMark_X4_size_117 : CkV wsX6_boxOfMark RX6 117 yX4_size wsX4_size cX4_size 1 (some .int) 0 4 := ⟨RX4, TX4, 4, _, rfl, gX6_boxOfMark_X4_size, rfl, hdX4_size⟩
variable {p : Program} {l : Launch} {e : Env} {s : State} {m : MethodId} {args : Array Value} {below : List Frame} {meth : Method} {c : Code} {A : Nat → Prop} {G : Gt} {a_eb a_desk a_desk_boxes a_desk_boxes_a a_kept a_tape a_text a_plan a_mat a_desk_words a_desk_weeks a_desk_routes a_desk_offers a_desk_wants a_desk_leaves a_desk_leases a_desk_uses : Nat} {isKept : Int32} {planStands : Int32} {today : Int32} {lack : Int32} {rate : Int32} {free : Int32} {boxes_r : Int32} {boxes_f : (Nat → Int32)} {res : Int32}
set_option maxHeartbeats 4000000 in
set_option maxRecDepth 100000 in
theorem tX6_boxOfMark_2 (X : Bx p s m args meth c cX6_boxOfMark 3 wsX6_boxOfMark RX6 (some .int)) (v1 : Int32)   : ∀ (n : Nat) (v2 : Int32), fX6_boxOfMark_2 v1 boxes_r boxes_f n v2 = some res → ∀ (H : Heap) (locs : List Loc), Wo G A s (wX6_boxOfMark G a_eb a_desk a_desk_boxes a_desk_boxes_a a_kept a_tape a_text a_plan a_mat a_desk_words a_desk_weeks a_desk_routes a_desk_offers a_desk_wants a_desk_leaves a_desk_leases a_desk_uses isKept planStands today lack rate free boxes_r boxes_f) H locs → ∀ ls : Array Slot, lv_has ls 3 [(0, .ref a_eb), (1, .int v1), (2, .int v2)] → W p l e rmX6_boxOfMark s m args below meth c H locs 0 0 (QI G A below args s res (wX6_boxOfMark G a_eb a_desk a_desk_boxes a_desk_boxes_a a_kept a_tape a_text a_plan a_mat a_desk_words a_desk_weeks a_desk_routes a_desk_offers a_desk_wants a_desk_leaves a_desk_leases a_desk_uses isKept planStands today lack rate free boxes_r boxes_f)) (F0 m 2 ls []) := by
  obtain ⟨hx, hb, -⟩ := id X.1
  intro n
  induction n with
  | zero => intro v2 h; rw [fX6_boxOfMark_2] at h; cases h
  | succ n ih =>
    intro v2 h H locs hW ls hl
    rw [fX6_boxOfMark_2] at h
    refine lv_iload_n hx hb dX6_boxOfMark_2 rfl (lv_at hl 2 rfl) ?_
    refine lv_aload_n hx hb dX6_boxOfMark_3 rfl (lv_at hl 0 rfl) ?_
    refine g_get X hW eX6_boxOfMark_12 0 rfl rfl dX6_boxOfMark_4 ?_
    refine g_get X hW eX6_boxOfMark_82 1 rfl rfl dX6_boxOfMark_7 ?_
    obtain ⟨r5, hq, h⟩ := bn1_some h
    refine g_cvi X hW (As := []) (ws' := (wX6_boxOfMark G a_eb a_desk a_desk_boxes a_desk_boxes_a a_kept a_tape a_text a_plan a_mat a_desk_words a_desk_weeks a_desk_routes a_desk_offers a_desk_wants a_desk_leaves a_desk_leases a_desk_uses isKept planStands today lack rate free boxes_r boxes_f)) ckX6_boxOfMark_X4_size_117 (kcX4_size (l := l) G a_desk_boxes a_desk_boxes_a (9 : Int32) (24 : Int32) boxes_r hq) ⟨rfl, rfl, Nat.le_of_ble_eq_true rfl, Nat.le_of_ble_eq_true rfl⟩ [2] rfl rfl rfl rfl rfl rfl rfl hl.1 (Nat.le_of_ble_eq_true rfl) ⟨Nat.zero_le _, Nat.zero_le _⟩ dX6_boxOfMark_10 (fun H locs hW => ?_)
    refine lv_icmp_ge (tgt := 40) hx hb dX6_boxOfMark_13 (by decide) (fun c6 => ?_) (fun c6 => ?_)
    · have h := (if_pos c6).symm.trans h
      refine lv_bipush hx hb dX6_boxOfMark_40 qB_m3 ?_
      obtain rfl := Option.some.inj h
      exact g_iret X hW dX6_boxOfMark_42
    · have h := (if_neg c6).symm.trans h
      refine lv_aload_n hx hb dX6_boxOfMark_16 rfl (lv_at hl 0 rfl) ?_
      refine g_get X hW eX6_boxOfMark_12 0 rfl rfl dX6_boxOfMark_17 ?_
      refine g_get X hW eX6_boxOfMark_82 1 rfl rfl dX6_boxOfMark_20 ?_
      refine lv_iload_n hx hb dX6_boxOfMark_23 rfl (lv_at hl 2 rfl) ?_
      refine lv_iconst hx hb dX6_boxOfMark_24 qI_0 ?_
      obtain ⟨r14, hq, h⟩ := bn1_some h
      refine g_cvi X hW (As := [.int v2, .int (0 : Int32)]) (ws' := (wX6_boxOfMark G a_eb a_desk a_desk_boxes a_desk_boxes_a a_kept a_tape a_text a_plan a_mat a_desk_words a_desk_weeks a_desk_routes a_desk_offers a_desk_wants a_desk_leaves a_desk_leases a_desk_uses isKept planStands today lack rate free boxes_r boxes_f)) ckX6_boxOfMark_X4_cell_113 (kcX4_cell (l := l) G a_desk_boxes a_desk_boxes_a v2 (0 : Int32) (9 : Int32) (24 : Int32) boxes_r 216 boxes_f hq) ⟨rfl, rfl, Nat.le_of_ble_eq_true rfl, Nat.le_of_ble_eq_true rfl⟩ [2, 3] rfl rfl rfl rfl rfl rfl rfl hl.1 (Nat.le_of_ble_eq_true rfl) ⟨Nat.zero_le _, Nat.zero_le _⟩ dX6_boxOfMark_25 (fun H locs hW => ?_)
      refine lv_iload_n hx hb dX6_boxOfMark_28 rfl (lv_at hl 1 rfl) ?_
      refine lv_icmp_ne (tgt := 34) hx hb dX6_boxOfMark_29 (by decide) (fun c16 => ?_) (fun c16 => ?_)
      · have h := (if_neg c16).symm.trans h
        refine lv_iinc (v := (v2 + (1 : Int32))) (lv' := [(2, .int (v2 + (1 : Int32))), (0, .ref a_eb), (1, .int v1)]) hx hb dX6_boxOfMark_34 hl (k := 2) rfl (congrArg (fun z => v2 + z) qI_1) (by decide) rfl (fun ls hl => ?_)
        refine lv_goto (tgt := 2) hx hb dX6_boxOfMark_37 (by decide) ?_
        exact ih (v2 + (1 : Int32)) h H locs hW ls (lv_sub hl [1, 2, 0] rfl)
      · have h := (if_pos c16).symm.trans h
        refine lv_iload_n hx hb dX6_boxOfMark_32 rfl (lv_at hl 2 rfl) ?_
        obtain rfl := Option.some.inj h
        exact g_iret X hW dX6_boxOfMark_33
set_option maxHeartbeats 4000000 in
set_option maxRecDepth 100000 in
theorem k0X6_boxOfMark {l : Launch} (G : Gt) (a_eb a_desk a_desk_boxes a_desk_boxes_a a_kept a_tape a_text a_plan a_mat a_desk_words a_desk_weeks a_desk_routes a_desk_offers a_desk_wants a_desk_leaves a_desk_leases a_desk_uses : Nat) (v1 : Int32) (isKept : Int32) (planStands : Int32) (today : Int32) (lack : Int32) (rate : Int32) (free : Int32) (boxes_r : Int32) (boxes_f : (Nat → Int32)) {res : Int32} (h : fX6_boxOfMark v1 boxes_r boxes_f = some res) : CtI G l yX6_boxOfMark wsX6_boxOfMark rmX6_boxOfMark [.ref a_eb, .int v1] (wX6_boxOfMark G a_eb a_desk a_desk_boxes a_desk_boxes_a a_kept a_tape a_text a_plan a_mat a_desk_words a_desk_weeks a_desk_routes a_desk_offers a_desk_wants a_desk_leaves a_desk_leases a_desk_uses isKept planStands today lack rate free boxes_r boxes_f) res (wX6_boxOfMark G a_eb a_desk a_desk_boxes a_desk_boxes_a a_kept a_tape a_text a_plan a_mat a_desk_words a_desk_weeks a_desk_routes a_desk_offers a_desk_wants a_desk_leaves a_desk_leases a_desk_uses isKept planStands today lack rate free boxes_r boxes_f) := by
  refine CtI.mk (cc := cX6_boxOfMark) (maxL := 3) (ret := (some .int)) (own := RX6) (by decide) rfl rfl (Nat.le_of_ble_eq_true rfl) ?_
  intro p e s m below meth c A X ls hl hW
  obtain ⟨hx, hb, -⟩ := id X.1
  have hl : lv_has ls 3 [(0, .ref a_eb), (1, .int v1)] := hl
  generalize hH : s.heap = H at hW ⊢
  generalize hLo : ([] : List Loc) = locs at hW ⊢
  rw [fX6_boxOfMark] at h
  refine lv_iconst hx hb dX6_boxOfMark_0 qI_0 ?_
  refine lv_istore_n (lv' := [(2, .int (0 : Int32)), (0, .ref a_eb), (1, .int v1)]) hx hb dX6_boxOfMark_1 rfl hl (by decide) rfl (fun ls hl => ?_)
  exact tX6_boxOfMark_2 X v1 FU (0 : Int32) h H locs hW ls (lv_sub hl [1, 2, 0] rfl)
theorem kcX6_boxOfMark {l : Launch} (G : Gt) (a_eb a_desk a_desk_boxes a_desk_boxes_a a_kept a_tape a_text a_plan a_mat a_desk_words a_desk_weeks a_desk_routes a_desk_offers a_desk_wants a_desk_leaves a_desk_leases a_desk_uses : Nat) (v1 : Int32) (isKept : Int32) (planStands : Int32) (today : Int32) (lack : Int32) (rate : Int32) (free : Int32) (boxes_r : Int32) (boxes_f : (Nat → Int32)) {r : Int32}  (h : fX6_boxOfMark v1 boxes_r boxes_f = some r) : CtI G l yX6_boxOfMark wsX6_boxOfMark rmX6_boxOfMark [.ref a_eb, .int v1] (wX6_boxOfMark G a_eb a_desk a_desk_boxes a_desk_boxes_a a_kept a_tape a_text a_plan a_mat a_desk_words a_desk_weeks a_desk_routes a_desk_offers a_desk_wants a_desk_leaves a_desk_leases a_desk_uses isKept planStands today lack rate free boxes_r boxes_f) r (wX6_boxOfMark G a_eb a_desk a_desk_boxes a_desk_boxes_a a_kept a_tape a_text a_plan a_mat a_desk_words a_desk_weeks a_desk_routes a_desk_offers a_desk_wants a_desk_leaves a_desk_leases a_desk_uses isKept planStands today lack rate free boxes_r boxes_f) := k0X6_boxOfMark G a_eb a_desk a_desk_boxes a_desk_boxes_a a_kept a_tape a_text a_plan a_mat a_desk_words a_desk_weeks a_desk_routes a_desk_offers a_desk_wants a_desk_leaves a_desk_leases a_desk_uses v1 isKept planStands today lack rate free boxes_r boxes_f h
end MX6_boxOfMark
/-! EmptyBoxes.wasRead -/
section MX6_wasRead
theorem hdX6_wasRead : yX6_wasRead.cls = RX6 ∧ yX6_wasRead.cls ≠ "java/lang/invoke/MethodHandle" ∧ yX6_wasRead.cls ≠ "java/lang/invoke/VarHandle" ∧ (parseMethodDescriptor yX6_wasRead.desc).map (fun d => d.parameters.length) = some 1 := by decide +kernel
abbrev wX6_wasRead (G : Gt) (a_eb a_desk a_desk_leases a_desk_leases_a a_kept a_tape a_text a_plan a_mat a_desk_boxes a_desk_words a_desk_weeks a_desk_routes a_desk_offers a_desk_wants a_desk_leaves a_desk_uses : Nat) (isKept : Int32) (planStands : Int32) (today : Int32) (lack : Int32) (rate : Int32) (free : Int32) (leases_r : Int32) (leases_f : (Nat → Int32)) : va_W := [(a_eb, .inr (6, [.ref a_desk, .ref a_kept, .ref a_tape, .ref a_text, .ref a_plan, .ref a_mat, .int isKept, .int planStands])), (a_desk, .inr (0, [.ref a_desk_boxes, .ref a_desk_words, .ref a_desk_weeks, .ref a_desk_routes, .ref a_desk_offers, .ref a_desk_wants, .ref a_desk_leaves, .ref a_desk_leases, .ref a_desk_uses, .int today, .int lack, .int rate, .int free])), (a_desk_leases, .inr (4, [.ref a_desk_leases_a, .int (17 : Int32), .int (3 : Int32), .int leases_r])), (a_desk_leases_a, .inl (G.2.1, 51, .inl leases_f))]
abbrev rmX6_wasRead : Room := { frames := 2, cells := 0, slots := 0, locals := 44 }
theorem iX6_wasRead_X0 : ∀ w ∈ wsX00, w ∈ wsX6_wasRead := by decide +kernel
theorem iX6_wasRead_X6 : ∀ w ∈ wsX60, w ∈ wsX6_wasRead := by decide +kernel
theorem eX6_wasRead_12 : Fk wsX6_wasRead RX6 12 6 0 := ⟨RX6, TX6, 8, rfl, iX6_wasRead_X6, by decide, by decide +kernel⟩
theorem eX6_wasRead_261 : Fk wsX6_wasRead RX6 261 0 7 := ⟨RX0, TX0, 13, rfl, iX6_wasRead_X0, by decide, by decide +kernel⟩
theorem ckX6_wasRead_X4_cell_113 : CkV wsX6_wasRead RX6 113 yX4_cell wsX4_cell cX4_cell 3 (some .int) 2 4 := ⟨RX4, TX4, 4, _, rfl, gX6_wasRead_X4_cell, rfl, hdX4_cell⟩
variable {p : Program} {l : Launch} {e : Env} {s : State} {m : MethodId} {args : Array Value} {below : List Frame} {meth : Method} {c : Code} {A : Nat → Prop} {G : Gt} {a_eb a_desk a_desk_leases a_desk_leases_a a_kept a_tape a_text a_plan a_mat a_desk_boxes a_desk_words a_desk_weeks a_desk_routes a_desk_offers a_desk_wants a_desk_leaves a_desk_uses : Nat} {isKept : Int32} {planStands : Int32} {today : Int32} {lack : Int32} {rate : Int32} {free : Int32} {leases_r : Int32} {leases_f : (Nat → Int32)} {res : Int32}
set_option maxHeartbeats 4000000 in
set_option maxRecDepth 100000 in
theorem k0X6_wasRead {l : Launch} (G : Gt) (a_eb a_desk a_desk_leases a_desk_leases_a a_kept a_tape a_text a_plan a_mat a_desk_boxes a_desk_words a_desk_weeks a_desk_routes a_desk_offers a_desk_wants a_desk_leaves a_desk_uses : Nat) (v1 : Int32) (isKept : Int32) (planStands : Int32) (today : Int32) (lack : Int32) (rate : Int32) (free : Int32) (leases_r : Int32) (leases_f : (Nat → Int32)) {res : Int32} (h : fX6_wasRead v1 leases_r leases_f = some res) : CtI G l yX6_wasRead wsX6_wasRead rmX6_wasRead [.ref a_eb, .int v1] (wX6_wasRead G a_eb a_desk a_desk_leases a_desk_leases_a a_kept a_tape a_text a_plan a_mat a_desk_boxes a_desk_words a_desk_weeks a_desk_routes a_desk_offers a_desk_wants a_desk_leaves a_desk_uses isKept planStands today lack rate free leases_r leases_f) res (wX6_wasRead G a_eb a_desk a_desk_leases a_desk_leases_a a_kept a_tape a_text a_plan a_mat a_desk_boxes a_desk_words a_desk_weeks a_desk_routes a_desk_offers a_desk_wants a_desk_leaves a_desk_uses isKept planStands today lack rate free leases_r leases_f) := by
  refine CtI.mk (cc := cX6_wasRead) (maxL := 2) (ret := (some .boolean)) (own := RX6) (by decide) rfl rfl (Nat.le_of_ble_eq_true rfl) ?_
  intro p e s m below meth c A X ls hl hW
  obtain ⟨hx, hb, -⟩ := id X.1
  have hl : lv_has ls 2 [(0, .ref a_eb), (1, .int v1)] := hl
  generalize hH : s.heap = H at hW ⊢
  generalize hLo : ([] : List Loc) = locs at hW ⊢
  rw [fX6_wasRead] at h
  refine lv_aload_n hx hb dX6_wasRead_0 rfl (lv_at hl 0 rfl) ?_
  refine g_get X hW eX6_wasRead_12 0 rfl rfl dX6_wasRead_1 ?_
  refine g_get X hW eX6_wasRead_261 1 rfl rfl dX6_wasRead_4 ?_
  refine lv_iload_n hx hb dX6_wasRead_7 rfl (lv_at hl 1 rfl) ?_
  refine lv_bipush hx hb dX6_wasRead_8 qB_16 ?_
  obtain ⟨r6, hq, h⟩ := bn1_some h
  refine g_cvi X hW (As := [.int v1, .int (16 : Int32)]) (ws' := (wX6_wasRead G a_eb a_desk a_desk_leases a_desk_leases_a a_kept a_tape a_text a_plan a_mat a_desk_boxes a_desk_words a_desk_weeks a_desk_routes a_desk_offers a_desk_wants a_desk_leaves a_desk_uses isKept planStands today lack rate free leases_r leases_f)) ckX6_wasRead_X4_cell_113 (kcX4_cell (l := l) G a_desk_leases a_desk_leases_a v1 (16 : Int32) (17 : Int32) (3 : Int32) leases_r 51 leases_f hq) ⟨rfl, rfl, Nat.le_of_ble_eq_true rfl, Nat.le_of_ble_eq_true rfl⟩ [2, 3] rfl rfl rfl rfl rfl rfl rfl hl.1 (Nat.le_of_ble_eq_true rfl) ⟨Nat.zero_le _, Nat.zero_le _⟩ dX6_wasRead_10 (fun H locs hW => ?_)
  refine lv_iconst hx hb dX6_wasRead_13 qI_1 ?_
  refine lv_icmp_ne (tgt := 21) hx hb dX6_wasRead_14 (by decide) (fun c8 => ?_) (fun c8 => ?_)
  · have h := (if_neg c8).symm.trans h
    refine lv_iconst hx hb dX6_wasRead_21 qI_0 ?_
    obtain rfl := Option.some.inj h
    exact g_zret X hW rfl dX6_wasRead_22
  · have h := (if_pos c8).symm.trans h
    refine lv_iconst hx hb dX6_wasRead_17 qI_1 ?_
    refine lv_goto (tgt := 22) hx hb dX6_wasRead_18 (by decide) ?_
    obtain rfl := Option.some.inj h
    exact g_zret X hW rfl dX6_wasRead_22
theorem kcX6_wasRead {l : Launch} (G : Gt) (a_eb a_desk a_desk_leases a_desk_leases_a a_kept a_tape a_text a_plan a_mat a_desk_boxes a_desk_words a_desk_weeks a_desk_routes a_desk_offers a_desk_wants a_desk_leaves a_desk_uses : Nat) (v1 : Int32) (isKept : Int32) (planStands : Int32) (today : Int32) (lack : Int32) (rate : Int32) (free : Int32) (leases_r : Int32) (leases_f : (Nat → Int32)) {r : Int32}  (h : fX6_wasRead v1 leases_r leases_f = some r) : CtI G l yX6_wasRead wsX6_wasRead rmX6_wasRead [.ref a_eb, .int v1] (wX6_wasRead G a_eb a_desk a_desk_leases a_desk_leases_a a_kept a_tape a_text a_plan a_mat a_desk_boxes a_desk_words a_desk_weeks a_desk_routes a_desk_offers a_desk_wants a_desk_leaves a_desk_uses isKept planStands today lack rate free leases_r leases_f) r (wX6_wasRead G a_eb a_desk a_desk_leases a_desk_leases_a a_kept a_tape a_text a_plan a_mat a_desk_boxes a_desk_words a_desk_weeks a_desk_routes a_desk_offers a_desk_wants a_desk_leaves a_desk_uses isKept planStands today lack rate free leases_r leases_f) := k0X6_wasRead G a_eb a_desk a_desk_leases a_desk_leases_a a_kept a_tape a_text a_plan a_mat a_desk_boxes a_desk_words a_desk_weeks a_desk_routes a_desk_offers a_desk_wants a_desk_leaves a_desk_uses v1 isKept planStands today lack rate free leases_r leases_f h
end MX6_wasRead
/-! EmptyBoxes.box -/
section MX6_box
theorem hdX6_box : yX6_box.cls = RX6 ∧ yX6_box.cls ≠ "java/lang/invoke/MethodHandle" ∧ yX6_box.cls ≠ "java/lang/invoke/VarHandle" ∧ (parseMethodDescriptor yX6_box.desc).map (fun d => d.parameters.length) = some 4 := by decide +kernel
abbrev wX6_box (G : Gt) (a_eb a_desk a_desk_boxes a_desk_boxes_a a_desk_leases a_desk_leases_a a_kept a_tape a_text a_plan a_mat a_desk_words a_desk_weeks a_desk_routes a_desk_offers a_desk_wants a_desk_leaves a_desk_uses : Nat) (isKept : Int32) (planStands : Int32) (today : Int32) (lack : Int32) (rate : Int32) (free : Int32) (boxes_r : Int32) (boxes_f : (Nat → Int32)) (leases_r : Int32) (leases_f : (Nat → Int32)) : va_W := [(a_eb, .inr (6, [.ref a_desk, .ref a_kept, .ref a_tape, .ref a_text, .ref a_plan, .ref a_mat, .int isKept, .int planStands])), (a_desk, .inr (0, [.ref a_desk_boxes, .ref a_desk_words, .ref a_desk_weeks, .ref a_desk_routes, .ref a_desk_offers, .ref a_desk_wants, .ref a_desk_leaves, .ref a_desk_leases, .ref a_desk_uses, .int today, .int lack, .int rate, .int free])), (a_desk_boxes, .inr (4, [.ref a_desk_boxes_a, .int (9 : Int32), .int (24 : Int32), .int boxes_r])), (a_desk_boxes_a, .inl (G.2.1, 216, .inl boxes_f)), (a_desk_leases, .inr (4, [.ref a_desk_leases_a, .int (17 : Int32), .int (3 : Int32), .int leases_r])), (a_desk_leases_a, .inl (G.2.1, 51, .inl leases_f))]
abbrev rmX6_box : Room := { frames := 3, cells := 0, slots := 0, locals := 66 }
theorem iX6_box_X0 : ∀ w ∈ wsX00, w ∈ wsX6_box := by decide +kernel
theorem iX6_box_X6 : ∀ w ∈ wsX60, w ∈ wsX6_box := by decide +kernel
theorem eX6_box_12 : Fk wsX6_box RX6 12 6 0 := ⟨RX6, TX6, 8, rfl, iX6_box_X6, by decide, by decide +kernel⟩
theorem eX6_box_58 : Fk wsX6_box RX6 58 0 9 := ⟨RX0, TX0, 13, rfl, iX6_box_X0, by decide, by decide +kernel⟩
theorem eX6_box_82 : Fk wsX6_box RX6 82 0 0 := ⟨RX0, TX0, 13, rfl, iX6_box_X0, by decide, by decide +kernel⟩
theorem ckX6_box_X4_grow_92 : CkV wsX6_box RX6 92 yX4_grow wsX4_grow cX4_grow 1 (some .int) 0 4 := ⟨RX4, TX4, 4, _, rfl, gX6_box_X4_grow, rfl, hdX4_grow⟩
theorem ckX6_box_X4_isFull_86 : CkV wsX6_box RX6 86 yX4_isFull wsX4_isFull cX4_isFull 1 (some .boolean) 0 4 := ⟨RX4, TX4, 4, _, rfl, gX6_box_X4_isFull, rfl, hdX4_isFull⟩
theorem ckX6_box_X4_put_96 : CkV wsX6_box RX6 96 yX4_put wsX4_put cX4_put 4 none 3 4 := ⟨RX4, TX4, 4, _, rfl, gX6_box_X4_put, rfl, hdX4_put⟩
theorem ckX6_box_X6_boxOfMark_75 : CkV wsX6_box RX6 75 yX6_boxOfMark wsX6_boxOfMark cX6_boxOfMark 3 (some .int) 1 6 := ⟨RX6, TX6, 8, _, rfl, gX6_box_X6_boxOfMark, rfl, hdX6_boxOfMark⟩
theorem ckX6_box_X6_isKind_66 : CkS wsX6_box RX6 66 yX6_isKind wsX6_isKind cX6_isKind 1 (some .boolean) 1 := ⟨_, gX6_box_X6_isKind, rfl, hdX6_isKind.2⟩
theorem ckX6_box_X6_isLease_72 : CkS wsX6_box RX6 72 yX6_isLease wsX6_isLease cX6_isLease 1 (some .boolean) 1 := ⟨_, gX6_box_X6_isLease, rfl, hdX6_isLease.2⟩
theorem ckX6_box_X6_isLine_69 : CkS wsX6_box RX6 69 yX6_isLine wsX6_isLine cX6_isLine 1 (some .boolean) 1 := ⟨_, gX6_box_X6_isLine, rfl, hdX6_isLine.2⟩
theorem ckX6_box_X6_isMark_62 : CkS wsX6_box RX6 62 yX6_isMark wsX6_isMark cX6_isMark 1 (some .boolean) 1 := ⟨_, gX6_box_X6_isMark, rfl, hdX6_isMark.2⟩
theorem ckX6_box_X6_wasRead_79 : CkV wsX6_box RX6 79 yX6_wasRead wsX6_wasRead cX6_wasRead 2 (some .boolean) 1 6 := ⟨RX6, TX6, 8, _, rfl, gX6_box_X6_wasRead, rfl, hdX6_wasRead⟩
variable {p : Program} {l : Launch} {e : Env} {s : State} {m : MethodId} {args : Array Value} {below : List Frame} {meth : Method} {c : Code} {A : Nat → Prop} {G : Gt} {a_eb a_desk a_desk_boxes a_desk_boxes_a a_desk_leases a_desk_leases_a a_kept a_tape a_text a_plan a_mat a_desk_words a_desk_weeks a_desk_routes a_desk_offers a_desk_wants a_desk_leaves a_desk_uses : Nat} {isKept : Int32} {planStands : Int32} {today : Int32} {lack : Int32} {rate : Int32} {free : Int32} {leases_r : Int32} {leases_f : (Nat → Int32)} {res : Int32 × Int32 × (Nat → Int32)}
set_option maxHeartbeats 4000000 in
set_option maxRecDepth 100000 in
theorem tX6_box_154 (X : Bx p s m args meth c cX6_box 6 wsX6_box RX6 (some .int)) (v5 : Int32) (t1 : Int32) (t2 : Int32) (t3 : Int32) (boxes_r : Int32) (boxes_f : (Nat → Int32))   (h : fX6_box_154 v5 t1 t2 t3 today boxes_r boxes_f = some res) : ∀ (H : Heap) (locs : List Loc), Wo G A s (wX6_box G a_eb a_desk a_desk_boxes a_desk_boxes_a a_desk_leases a_desk_leases_a a_kept a_tape a_text a_plan a_mat a_desk_words a_desk_weeks a_desk_routes a_desk_offers a_desk_wants a_desk_leaves a_desk_uses isKept planStands today lack rate free boxes_r boxes_f leases_r leases_f) H locs → ∀ ls : Array Slot, lv_has ls 6 [(0, .ref a_eb), (5, .int v5)] → W p l e rmX6_box s m args below meth c H locs 0 0 (QI G A below args s res.1 (wX6_box G a_eb a_desk a_desk_boxes a_desk_boxes_a a_desk_leases a_desk_leases_a a_kept a_tape a_text a_plan a_mat a_desk_words a_desk_weeks a_desk_routes a_desk_offers a_desk_wants a_desk_leaves a_desk_uses isKept planStands today lack rate free res.2.1 res.2.2 leases_r leases_f)) (F0 m 154 ls [.int t3, .int t2, .int t1, .ref a_desk_boxes]) := by
  obtain ⟨hx, hb, -⟩ := id X.1
  intro H locs hW ls hl
  rw [fX6_box_154] at h
  obtain ⟨o1_tb_f, hq, h⟩ := bn1_some h
  refine g_cvv X hW (As := [.int t1, .int t2, .int t3]) (ws' := (wX6_box G a_eb a_desk a_desk_boxes a_desk_boxes_a a_desk_leases a_desk_leases_a a_kept a_tape a_text a_plan a_mat a_desk_words a_desk_weeks a_desk_routes a_desk_offers a_desk_wants a_desk_leaves a_desk_uses isKept planStands today lack rate free boxes_r o1_tb_f leases_r leases_f)) ckX6_box_X4_put_96 (kcX4_put (l := l) G a_desk_boxes a_desk_boxes_a t1 t2 t3 (9 : Int32) (24 : Int32) boxes_r 216 boxes_f hq) ⟨rfl, rfl, Nat.le_of_ble_eq_true rfl, Nat.le_of_ble_eq_true rfl⟩ [2, 3] rfl rfl rfl rfl rfl rfl rfl hl.1 (Nat.le_of_ble_eq_true rfl) ⟨Nat.zero_le _, Nat.zero_le _⟩ dX6_box_154 (fun H locs hW => ?_)
  refine lv_aload_n hx hb dX6_box_157 rfl (lv_at hl 0 rfl) ?_
  refine g_get X hW eX6_box_12 0 rfl rfl dX6_box_158 ?_
  refine g_get X hW eX6_box_82 1 rfl rfl dX6_box_161 ?_
  refine lv_iload hx hb dX6_box_164 (lv_at hl 1 rfl) ?_
  refine lv_iconst hx hb dX6_box_166 qI_4 ?_
  refine lv_aload_n hx hb dX6_box_167 rfl (lv_at hl 0 rfl) ?_
  refine g_get X hW eX6_box_12 0 rfl rfl dX6_box_168 ?_
  refine g_get X hW eX6_box_58 1 rfl rfl dX6_box_171 ?_
  obtain ⟨o10_tb_f, hq, h⟩ := bn1_some h
  refine g_cvv X hW (As := [.int v5, .int (4 : Int32), .int today]) (ws' := (wX6_box G a_eb a_desk a_desk_boxes a_desk_boxes_a a_desk_leases a_desk_leases_a a_kept a_tape a_text a_plan a_mat a_desk_words a_desk_weeks a_desk_routes a_desk_offers a_desk_wants a_desk_leaves a_desk_uses isKept planStands today lack rate free boxes_r o10_tb_f leases_r leases_f)) ckX6_box_X4_put_96 (kcX4_put (l := l) G a_desk_boxes a_desk_boxes_a v5 (4 : Int32) today (9 : Int32) (24 : Int32) boxes_r 216 o1_tb_f hq) ⟨rfl, rfl, Nat.le_of_ble_eq_true rfl, Nat.le_of_ble_eq_true rfl⟩ [2, 3] rfl rfl rfl rfl rfl rfl rfl hl.1 (Nat.le_of_ble_eq_true rfl) ⟨Nat.zero_le _, Nat.zero_le _⟩ dX6_box_174 (fun H locs hW => ?_)
  refine lv_aload_n hx hb dX6_box_177 rfl (lv_at hl 0 rfl) ?_
  refine g_get X hW eX6_box_12 0 rfl rfl dX6_box_178 ?_
  refine g_get X hW eX6_box_82 1 rfl rfl dX6_box_181 ?_
  refine lv_iload hx hb dX6_box_184 (lv_at hl 1 rfl) ?_
  refine lv_iconst hx hb dX6_box_186 qI_5 ?_
  refine lv_iconst hx hb dX6_box_187 qI_0 ?_
  obtain ⟨o17_tb_f, hq, h⟩ := bn1_some h
  refine g_cvv X hW (As := [.int v5, .int (5 : Int32), .int (0 : Int32)]) (ws' := (wX6_box G a_eb a_desk a_desk_boxes a_desk_boxes_a a_desk_leases a_desk_leases_a a_kept a_tape a_text a_plan a_mat a_desk_words a_desk_weeks a_desk_routes a_desk_offers a_desk_wants a_desk_leaves a_desk_uses isKept planStands today lack rate free boxes_r o17_tb_f leases_r leases_f)) ckX6_box_X4_put_96 (kcX4_put (l := l) G a_desk_boxes a_desk_boxes_a v5 (5 : Int32) (0 : Int32) (9 : Int32) (24 : Int32) boxes_r 216 o10_tb_f hq) ⟨rfl, rfl, Nat.le_of_ble_eq_true rfl, Nat.le_of_ble_eq_true rfl⟩ [2, 3] rfl rfl rfl rfl rfl rfl rfl hl.1 (Nat.le_of_ble_eq_true rfl) ⟨Nat.zero_le _, Nat.zero_le _⟩ dX6_box_188 (fun H locs hW => ?_)
  refine lv_aload_n hx hb dX6_box_191 rfl (lv_at hl 0 rfl) ?_
  refine g_get X hW eX6_box_12 0 rfl rfl dX6_box_192 ?_
  refine g_get X hW eX6_box_82 1 rfl rfl dX6_box_195 ?_
  refine lv_iload hx hb dX6_box_198 (lv_at hl 1 rfl) ?_
  refine lv_bipush hx hb dX6_box_200 qB_6 ?_
  refine lv_bipush hx hb dX6_box_202 qB_m3 ?_
  obtain ⟨o24_tb_f, hq, h⟩ := bn1_some h
  refine g_cvv X hW (As := [.int v5, .int (6 : Int32), .int (-3 : Int32)]) (ws' := (wX6_box G a_eb a_desk a_desk_boxes a_desk_boxes_a a_desk_leases a_desk_leases_a a_kept a_tape a_text a_plan a_mat a_desk_words a_desk_weeks a_desk_routes a_desk_offers a_desk_wants a_desk_leaves a_desk_uses isKept planStands today lack rate free boxes_r o24_tb_f leases_r leases_f)) ckX6_box_X4_put_96 (kcX4_put (l := l) G a_desk_boxes a_desk_boxes_a v5 (6 : Int32) (-3 : Int32) (9 : Int32) (24 : Int32) boxes_r 216 o17_tb_f hq) ⟨rfl, rfl, Nat.le_of_ble_eq_true rfl, Nat.le_of_ble_eq_true rfl⟩ [2, 3] rfl rfl rfl rfl rfl rfl rfl hl.1 (Nat.le_of_ble_eq_true rfl) ⟨Nat.zero_le _, Nat.zero_le _⟩ dX6_box_204 (fun H locs hW => ?_)
  refine lv_aload_n hx hb dX6_box_207 rfl (lv_at hl 0 rfl) ?_
  refine g_get X hW eX6_box_12 0 rfl rfl dX6_box_208 ?_
  refine g_get X hW eX6_box_82 1 rfl rfl dX6_box_211 ?_
  refine lv_iload hx hb dX6_box_214 (lv_at hl 1 rfl) ?_
  refine lv_bipush hx hb dX6_box_216 qB_7 ?_
  refine lv_bipush hx hb dX6_box_218 qB_m3 ?_
  obtain ⟨o31_tb_f, hq, h⟩ := bn1_some h
  refine g_cvv X hW (As := [.int v5, .int (7 : Int32), .int (-3 : Int32)]) (ws' := (wX6_box G a_eb a_desk a_desk_boxes a_desk_boxes_a a_desk_leases a_desk_leases_a a_kept a_tape a_text a_plan a_mat a_desk_words a_desk_weeks a_desk_routes a_desk_offers a_desk_wants a_desk_leaves a_desk_uses isKept planStands today lack rate free boxes_r o31_tb_f leases_r leases_f)) ckX6_box_X4_put_96 (kcX4_put (l := l) G a_desk_boxes a_desk_boxes_a v5 (7 : Int32) (-3 : Int32) (9 : Int32) (24 : Int32) boxes_r 216 o24_tb_f hq) ⟨rfl, rfl, Nat.le_of_ble_eq_true rfl, Nat.le_of_ble_eq_true rfl⟩ [2, 3] rfl rfl rfl rfl rfl rfl rfl hl.1 (Nat.le_of_ble_eq_true rfl) ⟨Nat.zero_le _, Nat.zero_le _⟩ dX6_box_220 (fun H locs hW => ?_)
  refine lv_aload_n hx hb dX6_box_223 rfl (lv_at hl 0 rfl) ?_
  refine g_get X hW eX6_box_12 0 rfl rfl dX6_box_224 ?_
  refine g_get X hW eX6_box_82 1 rfl rfl dX6_box_227 ?_
  refine lv_iload hx hb dX6_box_230 (lv_at hl 1 rfl) ?_
  refine lv_bipush hx hb dX6_box_232 qB_8 ?_
  refine lv_bipush hx hb dX6_box_234 qB_m3 ?_
  obtain ⟨o38_tb_f, hq, h⟩ := bn1_some h
  refine g_cvv X hW (As := [.int v5, .int (8 : Int32), .int (-3 : Int32)]) (ws' := (wX6_box G a_eb a_desk a_desk_boxes a_desk_boxes_a a_desk_leases a_desk_leases_a a_kept a_tape a_text a_plan a_mat a_desk_words a_desk_weeks a_desk_routes a_desk_offers a_desk_wants a_desk_leaves a_desk_uses isKept planStands today lack rate free boxes_r o38_tb_f leases_r leases_f)) ckX6_box_X4_put_96 (kcX4_put (l := l) G a_desk_boxes a_desk_boxes_a v5 (8 : Int32) (-3 : Int32) (9 : Int32) (24 : Int32) boxes_r 216 o31_tb_f hq) ⟨rfl, rfl, Nat.le_of_ble_eq_true rfl, Nat.le_of_ble_eq_true rfl⟩ [2, 3] rfl rfl rfl rfl rfl rfl rfl hl.1 (Nat.le_of_ble_eq_true rfl) ⟨Nat.zero_le _, Nat.zero_le _⟩ dX6_box_236 (fun H locs hW => ?_)
  refine lv_iload hx hb dX6_box_239 (lv_at hl 1 rfl) ?_
  obtain rfl := Option.some.inj h
  exact g_iret X hW dX6_box_241
set_option maxHeartbeats 4000000 in
set_option maxRecDepth 100000 in
theorem tX6_box_62 (X : Bx p s m args meth c cX6_box 6 wsX6_box RX6 (some .int)) (v1 : Int32) (v2 : Int32) (v3 : Int32) (v4 : Int32) (boxes_r : Int32) (boxes_f : (Nat → Int32))   (h : fX6_box_62 v1 v2 v3 v4 today boxes_r boxes_f = some res) : ∀ (H : Heap) (locs : List Loc), Wo G A s (wX6_box G a_eb a_desk a_desk_boxes a_desk_boxes_a a_desk_leases a_desk_leases_a a_kept a_tape a_text a_plan a_mat a_desk_words a_desk_weeks a_desk_routes a_desk_offers a_desk_wants a_desk_leaves a_desk_uses isKept planStands today lack rate free boxes_r boxes_f leases_r leases_f) H locs → ∀ ls : Array Slot, lv_has ls 6 [(0, .ref a_eb), (1, .int v1), (2, .int v2), (3, .int v3), (4, .int v4)] → W p l e rmX6_box s m args below meth c H locs 0 0 (QI G A below args s res.1 (wX6_box G a_eb a_desk a_desk_boxes a_desk_boxes_a a_desk_leases a_desk_leases_a a_kept a_tape a_text a_plan a_mat a_desk_words a_desk_weeks a_desk_routes a_desk_offers a_desk_wants a_desk_leaves a_desk_uses isKept planStands today lack rate free res.2.1 res.2.2 leases_r leases_f)) (F0 m 62 ls []) := by
  obtain ⟨hx, hb, -⟩ := id X.1
  intro H locs hW ls hl
  rw [fX6_box_62] at h
  refine lv_aload_n hx hb dX6_box_62 rfl (lv_at hl 0 rfl) ?_
  refine g_get X hW eX6_box_12 0 rfl rfl dX6_box_63 ?_
  refine g_get X hW eX6_box_82 1 rfl rfl dX6_box_66 ?_
  obtain ⟨r44, hq, h⟩ := bn1_some h
  refine g_cvi X hW (As := []) (ws' := (wX6_box G a_eb a_desk a_desk_boxes a_desk_boxes_a a_desk_leases a_desk_leases_a a_kept a_tape a_text a_plan a_mat a_desk_words a_desk_weeks a_desk_routes a_desk_offers a_desk_wants a_desk_leaves a_desk_uses isKept planStands today lack rate free boxes_r boxes_f leases_r leases_f)) ckX6_box_X4_isFull_86 (kcX4_isFull (l := l) G a_desk_boxes a_desk_boxes_a (9 : Int32) (24 : Int32) boxes_r hq) ⟨rfl, rfl, Nat.le_of_ble_eq_true rfl, Nat.le_of_ble_eq_true rfl⟩ [2] rfl rfl rfl rfl rfl rfl rfl hl.1 (Nat.le_of_ble_eq_true rfl) ⟨Nat.zero_le _, Nat.zero_le _⟩ dX6_box_69 (fun H locs hW => ?_)
  refine lv_if_eq (tgt := 78) hx hb dX6_box_72 (by decide) (fun c45 => ?_) (fun c45 => ?_)
  · have h := (if_pos c45).symm.trans h
    refine lv_aload_n hx hb dX6_box_78 rfl (lv_at hl 0 rfl) ?_
    refine g_get X hW eX6_box_12 0 rfl rfl dX6_box_79 ?_
    refine g_get X hW eX6_box_82 1 rfl rfl dX6_box_82 ?_
    obtain ⟨r49, o49_tb_r, hq, h⟩ := bn2_some h
    refine g_cvi X hW (As := []) (ws' := (wX6_box G a_eb a_desk a_desk_boxes a_desk_boxes_a a_desk_leases a_desk_leases_a a_kept a_tape a_text a_plan a_mat a_desk_words a_desk_weeks a_desk_routes a_desk_offers a_desk_wants a_desk_leaves a_desk_uses isKept planStands today lack rate free o49_tb_r boxes_f leases_r leases_f)) ckX6_box_X4_grow_92 (kcX4_grow (l := l) G a_desk_boxes a_desk_boxes_a (9 : Int32) (24 : Int32) boxes_r hq) ⟨rfl, rfl, Nat.le_of_ble_eq_true rfl, Nat.le_of_ble_eq_true rfl⟩ [2] rfl rfl rfl rfl rfl rfl rfl hl.1 (Nat.le_of_ble_eq_true rfl) ⟨Nat.zero_le _, Nat.zero_le _⟩ dX6_box_85 (fun H locs hW => ?_)
    refine lv_istore (lv' := [(5, .int r49), (0, .ref a_eb), (1, .int v1), (2, .int v2), (3, .int v3), (4, .int v4)]) hx hb dX6_box_88 hl (by decide) rfl (fun ls hl => ?_)
    refine lv_aload_n hx hb dX6_box_90 rfl (lv_at hl 1 rfl) ?_
    refine g_get X hW eX6_box_12 0 rfl rfl dX6_box_91 ?_
    refine g_get X hW eX6_box_82 1 rfl rfl dX6_box_94 ?_
    refine lv_iload hx hb dX6_box_97 (lv_at hl 0 rfl) ?_
    refine lv_iconst hx hb dX6_box_99 qI_0 ?_
    refine lv_iload_n hx hb dX6_box_100 rfl (lv_at hl 2 rfl) ?_
    obtain ⟨o57_tb_f, hq, h⟩ := bn1_some h
    refine g_cvv X hW (As := [.int r49, .int (0 : Int32), .int v1]) (ws' := (wX6_box G a_eb a_desk a_desk_boxes a_desk_boxes_a a_desk_leases a_desk_leases_a a_kept a_tape a_text a_plan a_mat a_desk_words a_desk_weeks a_desk_routes a_desk_offers a_desk_wants a_desk_leaves a_desk_uses isKept planStands today lack rate free o49_tb_r o57_tb_f leases_r leases_f)) ckX6_box_X4_put_96 (kcX4_put (l := l) G a_desk_boxes a_desk_boxes_a r49 (0 : Int32) v1 (9 : Int32) (24 : Int32) o49_tb_r 216 boxes_f hq) ⟨rfl, rfl, Nat.le_of_ble_eq_true rfl, Nat.le_of_ble_eq_true rfl⟩ [2, 3] rfl rfl rfl rfl rfl rfl rfl hl.1 (Nat.le_of_ble_eq_true rfl) ⟨Nat.zero_le _, Nat.zero_le _⟩ dX6_box_101 (fun H locs hW => ?_)
    refine lv_aload_n hx hb dX6_box_104 rfl (lv_at hl 1 rfl) ?_
    refine g_get X hW eX6_box_12 0 rfl rfl dX6_box_105 ?_
    refine g_get X hW eX6_box_82 1 rfl rfl dX6_box_108 ?_
    refine lv_iload hx hb dX6_box_111 (lv_at hl 0 rfl) ?_
    refine lv_iconst hx hb dX6_box_113 qI_1 ?_
    refine lv_iload_n hx hb dX6_box_114 rfl (lv_at hl 3 rfl) ?_
    obtain ⟨o64_tb_f, hq, h⟩ := bn1_some h
    refine g_cvv X hW (As := [.int r49, .int (1 : Int32), .int v2]) (ws' := (wX6_box G a_eb a_desk a_desk_boxes a_desk_boxes_a a_desk_leases a_desk_leases_a a_kept a_tape a_text a_plan a_mat a_desk_words a_desk_weeks a_desk_routes a_desk_offers a_desk_wants a_desk_leaves a_desk_uses isKept planStands today lack rate free o49_tb_r o64_tb_f leases_r leases_f)) ckX6_box_X4_put_96 (kcX4_put (l := l) G a_desk_boxes a_desk_boxes_a r49 (1 : Int32) v2 (9 : Int32) (24 : Int32) o49_tb_r 216 o57_tb_f hq) ⟨rfl, rfl, Nat.le_of_ble_eq_true rfl, Nat.le_of_ble_eq_true rfl⟩ [2, 3] rfl rfl rfl rfl rfl rfl rfl hl.1 (Nat.le_of_ble_eq_true rfl) ⟨Nat.zero_le _, Nat.zero_le _⟩ dX6_box_115 (fun H locs hW => ?_)
    refine lv_aload_n hx hb dX6_box_118 rfl (lv_at hl 1 rfl) ?_
    refine g_get X hW eX6_box_12 0 rfl rfl dX6_box_119 ?_
    refine g_get X hW eX6_box_82 1 rfl rfl dX6_box_122 ?_
    refine lv_iload hx hb dX6_box_125 (lv_at hl 0 rfl) ?_
    refine lv_iconst hx hb dX6_box_127 qI_2 ?_
    refine lv_iload_n hx hb dX6_box_128 rfl (lv_at hl 4 rfl) ?_
    obtain ⟨o71_tb_f, hq, h⟩ := bn1_some h
    refine g_cvv X hW (As := [.int r49, .int (2 : Int32), .int v3]) (ws' := (wX6_box G a_eb a_desk a_desk_boxes a_desk_boxes_a a_desk_leases a_desk_leases_a a_kept a_tape a_text a_plan a_mat a_desk_words a_desk_weeks a_desk_routes a_desk_offers a_desk_wants a_desk_leaves a_desk_uses isKept planStands today lack rate free o49_tb_r o71_tb_f leases_r leases_f)) ckX6_box_X4_put_96 (kcX4_put (l := l) G a_desk_boxes a_desk_boxes_a r49 (2 : Int32) v3 (9 : Int32) (24 : Int32) o49_tb_r 216 o64_tb_f hq) ⟨rfl, rfl, Nat.le_of_ble_eq_true rfl, Nat.le_of_ble_eq_true rfl⟩ [2, 3] rfl rfl rfl rfl rfl rfl rfl hl.1 (Nat.le_of_ble_eq_true rfl) ⟨Nat.zero_le _, Nat.zero_le _⟩ dX6_box_129 (fun H locs hW => ?_)
    refine lv_aload_n hx hb dX6_box_132 rfl (lv_at hl 1 rfl) ?_
    refine g_get X hW eX6_box_12 0 rfl rfl dX6_box_133 ?_
    refine g_get X hW eX6_box_82 1 rfl rfl dX6_box_136 ?_
    refine lv_iload hx hb dX6_box_139 (lv_at hl 0 rfl) ?_
    refine lv_iconst hx hb dX6_box_141 qI_3 ?_
    refine lv_iload hx hb dX6_box_142 (lv_at hl 5 rfl) ?_
    refine lv_if_lt (tgt := 152) hx hb dX6_box_144 (by decide) (fun c78 => ?_) (fun c78 => ?_)
    · have h := (if_pos c78).symm.trans h
      refine lv_bipush hx hb dX6_box_152 qB_m3 ?_
      exact tX6_box_154 X r49 r49 (3 : Int32) (-3 : Int32) o49_tb_r o71_tb_f h H locs hW ls (lv_sub hl [1, 0] rfl)
    · have h := (if_neg c78).symm.trans h
      refine lv_iload hx hb dX6_box_147 (lv_at hl 5 rfl) ?_
      refine lv_goto (tgt := 154) hx hb dX6_box_149 (by decide) ?_
      exact tX6_box_154 X r49 r49 (3 : Int32) v4 o49_tb_r o71_tb_f h H locs hW ls (lv_sub hl [1, 0] rfl)
  · have h := (if_neg c45).symm.trans h
    refine lv_bipush hx hb dX6_box_75 qB_m2 ?_
    obtain rfl := Option.some.inj h
    exact g_iret X hW dX6_box_77
set_option maxHeartbeats 4000000 in
set_option maxRecDepth 100000 in
theorem tX6_box_37 (X : Bx p s m args meth c cX6_box 6 wsX6_box RX6 (some .int)) (v1 : Int32) (v2 : Int32) (v3 : Int32) (v4 : Int32) (boxes_r : Int32) (boxes_f : (Nat → Int32))   (h : fX6_box_37 v1 v2 v3 v4 today boxes_r boxes_f leases_r leases_f = some res) : ∀ (H : Heap) (locs : List Loc), Wo G A s (wX6_box G a_eb a_desk a_desk_boxes a_desk_boxes_a a_desk_leases a_desk_leases_a a_kept a_tape a_text a_plan a_mat a_desk_words a_desk_weeks a_desk_routes a_desk_offers a_desk_wants a_desk_leaves a_desk_uses isKept planStands today lack rate free boxes_r boxes_f leases_r leases_f) H locs → ∀ ls : Array Slot, lv_has ls 6 [(0, .ref a_eb), (1, .int v1), (2, .int v2), (3, .int v3), (4, .int v4)] → W p l e rmX6_box s m args below meth c H locs 0 0 (QI G A below args s res.1 (wX6_box G a_eb a_desk a_desk_boxes a_desk_boxes_a a_desk_leases a_desk_leases_a a_kept a_tape a_text a_plan a_mat a_desk_words a_desk_weeks a_desk_routes a_desk_offers a_desk_wants a_desk_leaves a_desk_uses isKept planStands today lack rate free res.2.1 res.2.2 leases_r leases_f)) (F0 m 37 ls []) := by
  obtain ⟨hx, hb, -⟩ := id X.1
  intro H locs hW ls hl
  rw [fX6_box_37] at h
  refine lv_aload_n hx hb dX6_box_37 rfl (lv_at hl 0 rfl) ?_
  refine lv_iload_n hx hb dX6_box_38 rfl (lv_at hl 1 rfl) ?_
  obtain ⟨r86, hq, h⟩ := bn1_some h
  refine g_cvi X hW (As := [.int v1]) (ws' := (wX6_box G a_eb a_desk a_desk_boxes a_desk_boxes_a a_desk_leases a_desk_leases_a a_kept a_tape a_text a_plan a_mat a_desk_words a_desk_weeks a_desk_routes a_desk_offers a_desk_wants a_desk_leaves a_desk_uses isKept planStands today lack rate free boxes_r boxes_f leases_r leases_f)) ckX6_box_X6_boxOfMark_75 (kcX6_boxOfMark (l := l) G a_eb a_desk a_desk_boxes a_desk_boxes_a a_kept a_tape a_text a_plan a_mat a_desk_words a_desk_weeks a_desk_routes a_desk_offers a_desk_wants a_desk_leaves a_desk_leases a_desk_uses v1 isKept planStands today lack rate free boxes_r boxes_f hq) ⟨rfl, rfl, Nat.le_of_ble_eq_true rfl, Nat.le_of_ble_eq_true rfl⟩ [0, 1, 2, 3] rfl rfl rfl rfl rfl rfl rfl hl.1 (Nat.le_of_ble_eq_true rfl) ⟨Nat.zero_le _, Nat.zero_le _⟩ dX6_box_39 (fun H locs hW => ?_)
  refine lv_if_ge (tgt := 59) hx hb dX6_box_42 (by decide) (fun c87 => ?_) (fun c87 => ?_)
  · have h := (if_pos c87).symm.trans h
    refine lv_bipush hx hb dX6_box_59 qB_m4 ?_
    obtain rfl := Option.some.inj h
    exact g_iret X hW dX6_box_61
  · have h := (if_neg c87).symm.trans h
    refine lv_iload hx hb dX6_box_45 (lv_at hl 4 rfl) ?_
    refine lv_if_lt (tgt := 62) hx hb dX6_box_47 (by decide) (fun c91 => ?_) (fun c91 => ?_)
    · have h := (if_pos c91).symm.trans h
      exact tX6_box_62 X v1 v2 v3 v4 boxes_r boxes_f h H locs hW ls hl
    · have h := (if_neg c91).symm.trans h
      refine lv_aload_n hx hb dX6_box_50 rfl (lv_at hl 0 rfl) ?_
      refine lv_iload hx hb dX6_box_51 (lv_at hl 4 rfl) ?_
      obtain ⟨r94, hq, h⟩ := bn1_some h
      refine g_cvi X hW (As := [.int v4]) (ws' := (wX6_box G a_eb a_desk a_desk_boxes a_desk_boxes_a a_desk_leases a_desk_leases_a a_kept a_tape a_text a_plan a_mat a_desk_words a_desk_weeks a_desk_routes a_desk_offers a_desk_wants a_desk_leaves a_desk_uses isKept planStands today lack rate free boxes_r boxes_f leases_r leases_f)) ckX6_box_X6_wasRead_79 (kcX6_wasRead (l := l) G a_eb a_desk a_desk_leases a_desk_leases_a a_kept a_tape a_text a_plan a_mat a_desk_boxes a_desk_words a_desk_weeks a_desk_routes a_desk_offers a_desk_wants a_desk_leaves a_desk_uses v4 isKept planStands today lack rate free leases_r leases_f hq) ⟨rfl, rfl, Nat.le_of_ble_eq_true rfl, Nat.le_of_ble_eq_true rfl⟩ [0, 1, 4, 5] rfl rfl rfl rfl rfl rfl rfl hl.1 (Nat.le_of_ble_eq_true rfl) ⟨Nat.zero_le _, Nat.zero_le _⟩ dX6_box_53 (fun H locs hW => ?_)
      refine lv_if_ne (tgt := 62) hx hb dX6_box_56 (by decide) (fun c95 => ?_) (fun c95 => ?_)
      · have h := (if_neg c95).symm.trans h
        exact tX6_box_62 X v1 v2 v3 v4 boxes_r boxes_f h H locs hW ls hl
      · have h := (if_pos c95).symm.trans h
        refine lv_bipush hx hb dX6_box_59 qB_m4 ?_
        obtain rfl := Option.some.inj h
        exact g_iret X hW dX6_box_61
set_option maxHeartbeats 4000000 in
set_option maxRecDepth 100000 in
theorem k0X6_box {l : Launch} (G : Gt) (a_eb a_desk a_desk_boxes a_desk_boxes_a a_desk_leases a_desk_leases_a a_kept a_tape a_text a_plan a_mat a_desk_words a_desk_weeks a_desk_routes a_desk_offers a_desk_wants a_desk_leaves a_desk_uses : Nat) (v1 : Int32) (v2 : Int32) (v3 : Int32) (v4 : Int32) (isKept : Int32) (planStands : Int32) (today : Int32) (lack : Int32) (rate : Int32) (free : Int32) (boxes_r : Int32) (boxes_f : (Nat → Int32)) (leases_r : Int32) (leases_f : (Nat → Int32)) {res : Int32 × Int32 × (Nat → Int32)} (h : fX6_box v1 v2 v3 v4 today boxes_r boxes_f leases_r leases_f = some res) : CtI G l yX6_box wsX6_box rmX6_box [.ref a_eb, .int v1, .int v2, .int v3, .int v4] (wX6_box G a_eb a_desk a_desk_boxes a_desk_boxes_a a_desk_leases a_desk_leases_a a_kept a_tape a_text a_plan a_mat a_desk_words a_desk_weeks a_desk_routes a_desk_offers a_desk_wants a_desk_leaves a_desk_uses isKept planStands today lack rate free boxes_r boxes_f leases_r leases_f) res.1 (wX6_box G a_eb a_desk a_desk_boxes a_desk_boxes_a a_desk_leases a_desk_leases_a a_kept a_tape a_text a_plan a_mat a_desk_words a_desk_weeks a_desk_routes a_desk_offers a_desk_wants a_desk_leaves a_desk_uses isKept planStands today lack rate free res.2.1 res.2.2 leases_r leases_f) := by
  refine CtI.mk (cc := cX6_box) (maxL := 6) (ret := (some .int)) (own := RX6) (by decide) rfl rfl (Nat.le_of_ble_eq_true rfl) ?_
  intro p e s m below meth c A X ls hl hW
  obtain ⟨hx, hb, -⟩ := id X.1
  have hl : lv_has ls 6 [(0, .ref a_eb), (1, .int v1), (2, .int v2), (3, .int v3), (4, .int v4)] := hl
  generalize hH : s.heap = H at hW ⊢
  generalize hLo : ([] : List Loc) = locs at hW ⊢
  rw [fX6_box] at h
  refine lv_iload_n hx hb dX6_box_0 rfl (lv_at hl 1 rfl) ?_
  obtain ⟨r99, hq, h⟩ := bn1_some h
  refine g_csi X hW (As := [.int v1]) (ws' := (wX6_box G a_eb a_desk a_desk_boxes a_desk_boxes_a a_desk_leases a_desk_leases_a a_kept a_tape a_text a_plan a_mat a_desk_words a_desk_weeks a_desk_routes a_desk_offers a_desk_wants a_desk_leaves a_desk_uses isKept planStands today lack rate free boxes_r boxes_f leases_r leases_f)) ckX6_box_X6_isMark_62 (kcX6_isMark (l := l) G v1 hq) ⟨rfl, rfl, Nat.le_of_ble_eq_true rfl, Nat.le_of_ble_eq_true rfl⟩ [] rfl rfl rfl rfl rfl rfl hl.1 (Nat.le_of_ble_eq_true rfl) ⟨Nat.zero_le _, Nat.zero_le _⟩ dX6_box_1 (fun H locs hW => ?_)
  refine lv_if_eq (tgt := 35) hx hb dX6_box_4 (by decide) (fun c100 => ?_) (fun c100 => ?_)
  · have h := (if_pos c100).symm.trans h
    refine lv_iconst hx hb dX6_box_35 qI_m1 ?_
    obtain rfl := Option.some.inj h
    exact g_iret X hW dX6_box_36
  · have h := (if_neg c100).symm.trans h
    refine lv_iload_n hx hb dX6_box_7 rfl (lv_at hl 2 rfl) ?_
    obtain ⟨r104, hq, h⟩ := bn1_some h
    refine g_csi X hW (As := [.int v2]) (ws' := (wX6_box G a_eb a_desk a_desk_boxes a_desk_boxes_a a_desk_leases a_desk_leases_a a_kept a_tape a_text a_plan a_mat a_desk_words a_desk_weeks a_desk_routes a_desk_offers a_desk_wants a_desk_leaves a_desk_uses isKept planStands today lack rate free boxes_r boxes_f leases_r leases_f)) ckX6_box_X6_isKind_66 (kcX6_isKind (l := l) G v2 hq) ⟨rfl, rfl, Nat.le_of_ble_eq_true rfl, Nat.le_of_ble_eq_true rfl⟩ [] rfl rfl rfl rfl rfl rfl hl.1 (Nat.le_of_ble_eq_true rfl) ⟨Nat.zero_le _, Nat.zero_le _⟩ dX6_box_8 (fun H locs hW => ?_)
    refine lv_if_eq (tgt := 35) hx hb dX6_box_11 (by decide) (fun c105 => ?_) (fun c105 => ?_)
    · have h := (if_pos c105).symm.trans h
      refine lv_iconst hx hb dX6_box_35 qI_m1 ?_
      obtain rfl := Option.some.inj h
      exact g_iret X hW dX6_box_36
    · have h := (if_neg c105).symm.trans h
      refine lv_iload_n hx hb dX6_box_14 rfl (lv_at hl 3 rfl) ?_
      obtain ⟨r109, hq, h⟩ := bn1_some h
      refine g_csi X hW (As := [.int v3]) (ws' := (wX6_box G a_eb a_desk a_desk_boxes a_desk_boxes_a a_desk_leases a_desk_leases_a a_kept a_tape a_text a_plan a_mat a_desk_words a_desk_weeks a_desk_routes a_desk_offers a_desk_wants a_desk_leaves a_desk_uses isKept planStands today lack rate free boxes_r boxes_f leases_r leases_f)) ckX6_box_X6_isLine_69 (kcX6_isLine (l := l) G v3 hq) ⟨rfl, rfl, Nat.le_of_ble_eq_true rfl, Nat.le_of_ble_eq_true rfl⟩ [] rfl rfl rfl rfl rfl rfl hl.1 (Nat.le_of_ble_eq_true rfl) ⟨Nat.zero_le _, Nat.zero_le _⟩ dX6_box_15 (fun H locs hW => ?_)
      refine lv_if_eq (tgt := 35) hx hb dX6_box_18 (by decide) (fun c110 => ?_) (fun c110 => ?_)
      · have h := (if_pos c110).symm.trans h
        refine lv_iconst hx hb dX6_box_35 qI_m1 ?_
        obtain rfl := Option.some.inj h
        exact g_iret X hW dX6_box_36
      · have h := (if_neg c110).symm.trans h
        refine lv_iload hx hb dX6_box_21 (lv_at hl 4 rfl) ?_
        refine lv_iconst hx hb dX6_box_23 qI_m1 ?_
        refine lv_icmp_eq (tgt := 37) hx hb dX6_box_24 (by decide) (fun c115 => ?_) (fun c115 => ?_)
        · have h := (if_pos c115).symm.trans h
          exact tX6_box_37 X v1 v2 v3 v4 boxes_r boxes_f h H locs hW ls hl
        · have h := (if_neg c115).symm.trans h
          refine lv_iload hx hb dX6_box_27 (lv_at hl 4 rfl) ?_
          obtain ⟨r117, hq, h⟩ := bn1_some h
          refine g_csi X hW (As := [.int v4]) (ws' := (wX6_box G a_eb a_desk a_desk_boxes a_desk_boxes_a a_desk_leases a_desk_leases_a a_kept a_tape a_text a_plan a_mat a_desk_words a_desk_weeks a_desk_routes a_desk_offers a_desk_wants a_desk_leaves a_desk_uses isKept planStands today lack rate free boxes_r boxes_f leases_r leases_f)) ckX6_box_X6_isLease_72 (kcX6_isLease (l := l) G v4 hq) ⟨rfl, rfl, Nat.le_of_ble_eq_true rfl, Nat.le_of_ble_eq_true rfl⟩ [] rfl rfl rfl rfl rfl rfl hl.1 (Nat.le_of_ble_eq_true rfl) ⟨Nat.zero_le _, Nat.zero_le _⟩ dX6_box_29 (fun H locs hW => ?_)
          refine lv_if_ne (tgt := 37) hx hb dX6_box_32 (by decide) (fun c118 => ?_) (fun c118 => ?_)
          · have h := (if_neg c118).symm.trans h
            exact tX6_box_37 X v1 v2 v3 v4 boxes_r boxes_f h H locs hW ls hl
          · have h := (if_pos c118).symm.trans h
            refine lv_iconst hx hb dX6_box_35 qI_m1 ?_
            obtain rfl := Option.some.inj h
            exact g_iret X hW dX6_box_36
theorem kcX6_box {l : Launch} (G : Gt) (a_eb a_desk a_desk_boxes a_desk_boxes_a a_desk_leases a_desk_leases_a a_kept a_tape a_text a_plan a_mat a_desk_words a_desk_weeks a_desk_routes a_desk_offers a_desk_wants a_desk_leaves a_desk_uses : Nat) (v1 : Int32) (v2 : Int32) (v3 : Int32) (v4 : Int32) (isKept : Int32) (planStands : Int32) (today : Int32) (lack : Int32) (rate : Int32) (free : Int32) (boxes_r : Int32) (boxes_f : (Nat → Int32)) (leases_r : Int32) (leases_f : (Nat → Int32)) {r : Int32} {z_boxes_r : Int32} {z_boxes_f : (Nat → Int32)} (h : fX6_box v1 v2 v3 v4 today boxes_r boxes_f leases_r leases_f = some (r, z_boxes_r, z_boxes_f)) : CtI G l yX6_box wsX6_box rmX6_box [.ref a_eb, .int v1, .int v2, .int v3, .int v4] (wX6_box G a_eb a_desk a_desk_boxes a_desk_boxes_a a_desk_leases a_desk_leases_a a_kept a_tape a_text a_plan a_mat a_desk_words a_desk_weeks a_desk_routes a_desk_offers a_desk_wants a_desk_leaves a_desk_uses isKept planStands today lack rate free boxes_r boxes_f leases_r leases_f) r (wX6_box G a_eb a_desk a_desk_boxes a_desk_boxes_a a_desk_leases a_desk_leases_a a_kept a_tape a_text a_plan a_mat a_desk_words a_desk_weeks a_desk_routes a_desk_offers a_desk_wants a_desk_leaves a_desk_uses isKept planStands today lack rate free z_boxes_r z_boxes_f leases_r leases_f) := k0X6_box G a_eb a_desk a_desk_boxes a_desk_boxes_a a_desk_leases a_desk_leases_a a_kept a_tape a_text a_plan a_mat a_desk_words a_desk_weeks a_desk_routes a_desk_offers a_desk_wants a_desk_leaves a_desk_uses v1 v2 v3 v4 isKept planStands today lack rate free boxes_r boxes_f leases_r leases_f h
end MX6_box
/-! EmptyBoxes.checkDigit -/
section MX6_checkDigit
theorem hdX6_checkDigit : yX6_checkDigit.cls = RX6 ∧ yX6_checkDigit.cls ≠ "java/lang/invoke/MethodHandle" ∧ yX6_checkDigit.cls ≠ "java/lang/invoke/VarHandle" ∧ (parseMethodDescriptor yX6_checkDigit.desc).map (fun d => d.parameters.length) = some 1 := by decide +kernel
abbrev rmX6_checkDigit : Room := { frames := 0, cells := 0, slots := 0, locals := 0 }
variable {p : Program} {l : Launch} {e : Env} {s : State} {m : MethodId} {args : Array Value} {below : List Frame} {meth : Method} {c : Code} {A : Nat → Prop} {G : Gt} {res : Int32}
set_option maxHeartbeats 4000000 in
set_option maxRecDepth 100000 in
theorem k0X6_checkDigit {l : Launch} (G : Gt) (v0 : Int32)  {res : Int32} (h : fX6_checkDigit v0 = some res) : CtI G l yX6_checkDigit wsX6_checkDigit rmX6_checkDigit [.int v0] ([] : va_W) res ([] : va_W) := by
  refine CtI.mk (cc := cX6_checkDigit) (maxL := 2) (ret := (some .int)) (own := RX6) (by decide) rfl rfl (Nat.le_of_ble_eq_true rfl) ?_
  intro p e s m below meth c A X ls hl hW
  obtain ⟨hx, hb, -⟩ := id X.1
  have hl : lv_has ls 2 [(0, .int v0)] := hl
  generalize hH : s.heap = H at hW ⊢
  generalize hLo : ([] : List Loc) = locs at hW ⊢
  rw [fX6_checkDigit] at h
  refine lv_iload_n hx hb dX6_checkDigit_0 rfl (lv_at hl 0 rfl) ?_
  refine lv_sipush hx hb dX6_checkDigit_1 qS_1000 ?_
  refine lv_idiv hx hb dX6_checkDigit_4 (by decide) ?_
  refine lv_iconst hx hb dX6_checkDigit_5 qI_2 ?_
  refine lv_iload_n hx hb dX6_checkDigit_6 rfl (lv_at hl 0 rfl) ?_
  refine lv_bipush hx hb dX6_checkDigit_7 qB_100 ?_
  refine lv_idiv hx hb dX6_checkDigit_9 (by decide) ?_
  refine lv_bipush hx hb dX6_checkDigit_10 qB_10 ?_
  refine g_irem hx hb dX6_checkDigit_12 (by decide) ?_
  refine lv_imul hx hb dX6_checkDigit_13 ?_
  refine lv_iadd hx hb dX6_checkDigit_14 ?_
  refine lv_iconst hx hb dX6_checkDigit_15 qI_4 ?_
  refine lv_iload_n hx hb dX6_checkDigit_16 rfl (lv_at hl 0 rfl) ?_
  refine lv_bipush hx hb dX6_checkDigit_17 qB_10 ?_
  refine lv_idiv hx hb dX6_checkDigit_19 (by decide) ?_
  refine lv_bipush hx hb dX6_checkDigit_20 qB_10 ?_
  refine g_irem hx hb dX6_checkDigit_22 (by decide) ?_
  refine lv_imul hx hb dX6_checkDigit_23 ?_
  refine lv_iadd hx hb dX6_checkDigit_24 ?_
  refine lv_bipush hx hb dX6_checkDigit_25 qB_8 ?_
  refine lv_iload_n hx hb dX6_checkDigit_27 rfl (lv_at hl 0 rfl) ?_
  refine lv_bipush hx hb dX6_checkDigit_28 qB_10 ?_
  refine g_irem hx hb dX6_checkDigit_30 (by decide) ?_
  refine lv_imul hx hb dX6_checkDigit_31 ?_
  refine lv_iadd hx hb dX6_checkDigit_32 ?_
  refine lv_istore_n (lv' := [(1, .int ((((v0 / (1000 : Int32)) + ((2 : Int32) * (irem (v0 / (100 : Int32)) (10 : Int32)))) + ((4 : Int32) * (irem (v0 / (10 : Int32)) (10 : Int32)))) + ((8 : Int32) * (irem v0 (10 : Int32))))), (0, .int v0)]) hx hb dX6_checkDigit_33 rfl hl (by decide) rfl (fun ls hl => ?_)
  refine lv_iload_n hx hb dX6_checkDigit_34 rfl (lv_at hl 0 rfl) ?_
  refine lv_bipush hx hb dX6_checkDigit_35 qB_11 ?_
  refine g_irem hx hb dX6_checkDigit_37 (by decide) ?_
  refine lv_bipush hx hb dX6_checkDigit_38 qB_10 ?_
  refine g_irem hx hb dX6_checkDigit_40 (by decide) ?_
  obtain rfl := Option.some.inj h
  exact g_iret X hW dX6_checkDigit_41
theorem kcX6_checkDigit {l : Launch} (G : Gt) (v0 : Int32)  {r : Int32}  (h : fX6_checkDigit v0 = some r) : CtI G l yX6_checkDigit wsX6_checkDigit rmX6_checkDigit [.int v0] ([] : va_W) r ([] : va_W) := k0X6_checkDigit G v0 h
end MX6_checkDigit
/-! EmptyBoxes.check -/
section MX6_check
theorem hdX6_check : yX6_check.cls = RX6 ∧ yX6_check.cls ≠ "java/lang/invoke/MethodHandle" ∧ yX6_check.cls ≠ "java/lang/invoke/VarHandle" ∧ (parseMethodDescriptor yX6_check.desc).map (fun d => d.parameters.length) = some 1 := by decide +kernel
abbrev wX6_check (G : Gt) (a_eb a_desk a_kept a_tape a_text a_plan a_mat : Nat) (isKept : Int32) (planStands : Int32) : va_W := [(a_eb, .inr (6, [.ref a_desk, .ref a_kept, .ref a_tape, .ref a_text, .ref a_plan, .ref a_mat, .int isKept, .int planStands]))]
abbrev rmX6_check : Room := { frames := 2, cells := 0, slots := 0, locals := 42 }
theorem ckX6_check_X6_checkDigit_100 : CkS wsX6_check RX6 100 yX6_checkDigit wsX6_checkDigit cX6_checkDigit 2 (some .int) 1 := ⟨_, gX6_check_X6_checkDigit, rfl, hdX6_checkDigit.2⟩
theorem ckX6_check_X6_isMark_62 : CkS wsX6_check RX6 62 yX6_isMark wsX6_isMark cX6_isMark 1 (some .boolean) 1 := ⟨_, gX6_check_X6_isMark, rfl, hdX6_isMark.2⟩
variable {p : Program} {l : Launch} {e : Env} {s : State} {m : MethodId} {args : Array Value} {below : List Frame} {meth : Method} {c : Code} {A : Nat → Prop} {G : Gt} {a_eb a_desk a_kept a_tape a_text a_plan a_mat : Nat} {isKept : Int32} {planStands : Int32} {res : Int32}
set_option maxHeartbeats 4000000 in
set_option maxRecDepth 100000 in
theorem k0X6_check {l : Launch} (G : Gt) (a_eb a_desk a_kept a_tape a_text a_plan a_mat : Nat) (v1 : Int32) (isKept : Int32) (planStands : Int32) {res : Int32} (h : fX6_check v1 = some res) : CtI G l yX6_check wsX6_check rmX6_check [.ref a_eb, .int v1] (wX6_check G a_eb a_desk a_kept a_tape a_text a_plan a_mat isKept planStands) res (wX6_check G a_eb a_desk a_kept a_tape a_text a_plan a_mat isKept planStands) := by
  refine CtI.mk (cc := cX6_check) (maxL := 2) (ret := (some .int)) (own := RX6) (by decide) rfl rfl (Nat.le_of_ble_eq_true rfl) ?_
  intro p e s m below meth c A X ls hl hW
  obtain ⟨hx, hb, -⟩ := id X.1
  have hl : lv_has ls 2 [(0, .ref a_eb), (1, .int v1)] := hl
  generalize hH : s.heap = H at hW ⊢
  generalize hLo : ([] : List Loc) = locs at hW ⊢
  rw [fX6_check] at h
  refine lv_iload_n hx hb dX6_check_0 rfl (lv_at hl 1 rfl) ?_
  obtain ⟨r2, hq, h⟩ := bn1_some h
  refine g_csi X hW (As := [.int v1]) (ws' := (wX6_check G a_eb a_desk a_kept a_tape a_text a_plan a_mat isKept planStands)) ckX6_check_X6_isMark_62 (kcX6_isMark (l := l) G v1 hq) ⟨rfl, rfl, Nat.le_of_ble_eq_true rfl, Nat.le_of_ble_eq_true rfl⟩ [] rfl rfl rfl rfl rfl rfl hl.1 (Nat.le_of_ble_eq_true rfl) ⟨Nat.zero_le _, Nat.zero_le _⟩ dX6_check_1 (fun H locs hW => ?_)
  refine lv_if_eq (tgt := 14) hx hb dX6_check_4 (by decide) (fun c3 => ?_) (fun c3 => ?_)
  · have h := (if_pos c3).symm.trans h
    refine lv_iconst hx hb dX6_check_14 qI_m1 ?_
    obtain rfl := Option.some.inj h
    exact g_iret X hW dX6_check_15
  · have h := (if_neg c3).symm.trans h
    refine lv_iload_n hx hb dX6_check_7 rfl (lv_at hl 1 rfl) ?_
    obtain ⟨r7, hq, h⟩ := bn1_some h
    refine g_csi X hW (As := [.int v1]) (ws' := (wX6_check G a_eb a_desk a_kept a_tape a_text a_plan a_mat isKept planStands)) ckX6_check_X6_checkDigit_100 (kcX6_checkDigit (l := l) G v1 hq) ⟨rfl, rfl, Nat.le_of_ble_eq_true rfl, Nat.le_of_ble_eq_true rfl⟩ [] rfl rfl rfl rfl rfl rfl hl.1 (Nat.le_of_ble_eq_true rfl) ⟨Nat.zero_le _, Nat.zero_le _⟩ dX6_check_8 (fun H locs hW => ?_)
    refine lv_goto (tgt := 15) hx hb dX6_check_11 (by decide) ?_
    obtain rfl := Option.some.inj h
    exact g_iret X hW dX6_check_15
theorem kcX6_check {l : Launch} (G : Gt) (a_eb a_desk a_kept a_tape a_text a_plan a_mat : Nat) (v1 : Int32) (isKept : Int32) (planStands : Int32) {r : Int32}  (h : fX6_check v1 = some r) : CtI G l yX6_check wsX6_check rmX6_check [.ref a_eb, .int v1] (wX6_check G a_eb a_desk a_kept a_tape a_text a_plan a_mat isKept planStands) r (wX6_check G a_eb a_desk a_kept a_tape a_text a_plan a_mat isKept planStands) := k0X6_check G a_eb a_desk a_kept a_tape a_text a_plan a_mat v1 isKept planStands h
end MX6_check
/-! EmptyBoxes.fiveDigits -/
section MX6_fiveDigits
theorem hdX6_fiveDigits : yX6_fiveDigits.cls = RX6 ∧ yX6_fiveDigits.cls ≠ "java/lang/invoke/MethodHandle" ∧ yX6_fiveDigits.cls ≠ "java/lang/invoke/VarHandle" ∧ (parseMethodDescriptor yX6_fiveDigits.desc).map (fun d => d.parameters.length) = some 1 := by decide +kernel
abbrev wX6_fiveDigits (G : Gt) (a_eb a_desk a_desk_boxes a_desk_boxes_a a_kept a_tape a_text a_plan a_mat a_desk_words a_desk_weeks a_desk_routes a_desk_offers a_desk_wants a_desk_leaves a_desk_leases a_desk_uses : Nat) (isKept : Int32) (planStands : Int32) (today : Int32) (lack : Int32) (rate : Int32) (free : Int32) (boxes_r : Int32) (boxes_f : (Nat → Int32)) : va_W := [(a_eb, .inr (6, [.ref a_desk, .ref a_kept, .ref a_tape, .ref a_text, .ref a_plan, .ref a_mat, .int isKept, .int planStands])), (a_desk, .inr (0, [.ref a_desk_boxes, .ref a_desk_words, .ref a_desk_weeks, .ref a_desk_routes, .ref a_desk_offers, .ref a_desk_wants, .ref a_desk_leaves, .ref a_desk_leases, .ref a_desk_uses, .int today, .int lack, .int rate, .int free])), (a_desk_boxes, .inr (4, [.ref a_desk_boxes_a, .int (9 : Int32), .int (24 : Int32), .int boxes_r])), (a_desk_boxes_a, .inl (G.2.1, 216, .inl boxes_f))]
abbrev rmX6_fiveDigits : Room := { frames := 2, cells := 0, slots := 0, locals := 44 }
theorem iX6_fiveDigits_X0 : ∀ w ∈ wsX00, w ∈ wsX6_fiveDigits := by decide +kernel
theorem iX6_fiveDigits_X6 : ∀ w ∈ wsX60, w ∈ wsX6_fiveDigits := by decide +kernel
theorem eX6_fiveDigits_12 : Fk wsX6_fiveDigits RX6 12 6 0 := ⟨RX6, TX6, 8, rfl, iX6_fiveDigits_X6, by decide, by decide +kernel⟩
theorem eX6_fiveDigits_82 : Fk wsX6_fiveDigits RX6 82 0 0 := ⟨RX0, TX0, 13, rfl, iX6_fiveDigits_X0, by decide, by decide +kernel⟩
theorem ckX6_fiveDigits_X4_cell_113 : CkV wsX6_fiveDigits RX6 113 yX4_cell wsX4_cell cX4_cell 3 (some .int) 2 4 := ⟨RX4, TX4, 4, _, rfl, gX6_fiveDigits_X4_cell, rfl, hdX4_cell⟩
theorem ckX6_fiveDigits_X6_checkDigit_100 : CkS wsX6_fiveDigits RX6 100 yX6_checkDigit wsX6_checkDigit cX6_checkDigit 2 (some .int) 1 := ⟨_, gX6_fiveDigits_X6_checkDigit, rfl, hdX6_checkDigit.2⟩
variable {p : Program} {l : Launch} {e : Env} {s : State} {m : MethodId} {args : Array Value} {below : List Frame} {meth : Method} {c : Code} {A : Nat → Prop} {G : Gt} {a_eb a_desk a_desk_boxes a_desk_boxes_a a_kept a_tape a_text a_plan a_mat a_desk_words a_desk_weeks a_desk_routes a_desk_offers a_desk_wants a_desk_leaves a_desk_leases a_desk_uses : Nat} {isKept : Int32} {planStands : Int32} {today : Int32} {lack : Int32} {rate : Int32} {free : Int32} {boxes_r : Int32} {boxes_f : (Nat → Int32)} {res : Int32}
set_option maxHeartbeats 4000000 in
set_option maxRecDepth 100000 in
theorem k0X6_fiveDigits {l : Launch} (G : Gt) (a_eb a_desk a_desk_boxes a_desk_boxes_a a_kept a_tape a_text a_plan a_mat a_desk_words a_desk_weeks a_desk_routes a_desk_offers a_desk_wants a_desk_leaves a_desk_leases a_desk_uses : Nat) (v1 : Int32) (isKept : Int32) (planStands : Int32) (today : Int32) (lack : Int32) (rate : Int32) (free : Int32) (boxes_r : Int32) (boxes_f : (Nat → Int32)) {res : Int32} (h : fX6_fiveDigits v1 boxes_r boxes_f = some res) : CtI G l yX6_fiveDigits wsX6_fiveDigits rmX6_fiveDigits [.ref a_eb, .int v1] (wX6_fiveDigits G a_eb a_desk a_desk_boxes a_desk_boxes_a a_kept a_tape a_text a_plan a_mat a_desk_words a_desk_weeks a_desk_routes a_desk_offers a_desk_wants a_desk_leaves a_desk_leases a_desk_uses isKept planStands today lack rate free boxes_r boxes_f) res (wX6_fiveDigits G a_eb a_desk a_desk_boxes a_desk_boxes_a a_kept a_tape a_text a_plan a_mat a_desk_words a_desk_weeks a_desk_routes a_desk_offers a_desk_wants a_desk_leaves a_desk_leases a_desk_uses isKept planStands today lack rate free boxes_r boxes_f) := by
  refine CtI.mk (cc := cX6_fiveDigits) (maxL := 3) (ret := (some .int)) (own := RX6) (by decide) rfl rfl (Nat.le_of_ble_eq_true rfl) ?_
  intro p e s m below meth c A X ls hl hW
  obtain ⟨hx, hb, -⟩ := id X.1
  have hl : lv_has ls 3 [(0, .ref a_eb), (1, .int v1)] := hl
  generalize hH : s.heap = H at hW ⊢
  generalize hLo : ([] : List Loc) = locs at hW ⊢
  rw [fX6_fiveDigits] at h
  refine lv_aload_n hx hb dX6_fiveDigits_0 rfl (lv_at hl 0 rfl) ?_
  refine g_get X hW eX6_fiveDigits_12 0 rfl rfl dX6_fiveDigits_1 ?_
  refine g_get X hW eX6_fiveDigits_82 1 rfl rfl dX6_fiveDigits_4 ?_
  refine lv_iload_n hx hb dX6_fiveDigits_7 rfl (lv_at hl 1 rfl) ?_
  refine lv_iconst hx hb dX6_fiveDigits_8 qI_0 ?_
  obtain ⟨r6, hq, h⟩ := bn1_some h
  refine g_cvi X hW (As := [.int v1, .int (0 : Int32)]) (ws' := (wX6_fiveDigits G a_eb a_desk a_desk_boxes a_desk_boxes_a a_kept a_tape a_text a_plan a_mat a_desk_words a_desk_weeks a_desk_routes a_desk_offers a_desk_wants a_desk_leaves a_desk_leases a_desk_uses isKept planStands today lack rate free boxes_r boxes_f)) ckX6_fiveDigits_X4_cell_113 (kcX4_cell (l := l) G a_desk_boxes a_desk_boxes_a v1 (0 : Int32) (9 : Int32) (24 : Int32) boxes_r 216 boxes_f hq) ⟨rfl, rfl, Nat.le_of_ble_eq_true rfl, Nat.le_of_ble_eq_true rfl⟩ [2, 3] rfl rfl rfl rfl rfl rfl rfl hl.1 (Nat.le_of_ble_eq_true rfl) ⟨Nat.zero_le _, Nat.zero_le _⟩ dX6_fiveDigits_9 (fun H locs hW => ?_)
  refine lv_istore_n (lv' := [(2, .int r6), (0, .ref a_eb), (1, .int v1)]) hx hb dX6_fiveDigits_12 rfl hl (by decide) rfl (fun ls hl => ?_)
  refine lv_iload_n hx hb dX6_fiveDigits_13 rfl (lv_at hl 0 rfl) ?_
  refine lv_bipush hx hb dX6_fiveDigits_14 qB_10 ?_
  refine lv_imul hx hb dX6_fiveDigits_16 ?_
  refine lv_iload_n hx hb dX6_fiveDigits_17 rfl (lv_at hl 0 rfl) ?_
  obtain ⟨r12, hq, h⟩ := bn1_some h
  refine g_csi X hW (As := [.int r6]) (ws' := (wX6_fiveDigits G a_eb a_desk a_desk_boxes a_desk_boxes_a a_kept a_tape a_text a_plan a_mat a_desk_words a_desk_weeks a_desk_routes a_desk_offers a_desk_wants a_desk_leaves a_desk_leases a_desk_uses isKept planStands today lack rate free boxes_r boxes_f)) ckX6_fiveDigits_X6_checkDigit_100 (kcX6_checkDigit (l := l) G r6 hq) ⟨rfl, rfl, Nat.le_of_ble_eq_true rfl, Nat.le_of_ble_eq_true rfl⟩ [] rfl rfl rfl rfl rfl rfl hl.1 (Nat.le_of_ble_eq_true rfl) ⟨Nat.zero_le _, Nat.zero_le _⟩ dX6_fiveDigits_18 (fun H locs hW => ?_)
  refine lv_iadd hx hb dX6_fiveDigits_21 ?_
  obtain rfl := Option.some.inj h
  exact g_iret X hW dX6_fiveDigits_22
theorem kcX6_fiveDigits {l : Launch} (G : Gt) (a_eb a_desk a_desk_boxes a_desk_boxes_a a_kept a_tape a_text a_plan a_mat a_desk_words a_desk_weeks a_desk_routes a_desk_offers a_desk_wants a_desk_leaves a_desk_leases a_desk_uses : Nat) (v1 : Int32) (isKept : Int32) (planStands : Int32) (today : Int32) (lack : Int32) (rate : Int32) (free : Int32) (boxes_r : Int32) (boxes_f : (Nat → Int32)) {r : Int32}  (h : fX6_fiveDigits v1 boxes_r boxes_f = some r) : CtI G l yX6_fiveDigits wsX6_fiveDigits rmX6_fiveDigits [.ref a_eb, .int v1] (wX6_fiveDigits G a_eb a_desk a_desk_boxes a_desk_boxes_a a_kept a_tape a_text a_plan a_mat a_desk_words a_desk_weeks a_desk_routes a_desk_offers a_desk_wants a_desk_leaves a_desk_leases a_desk_uses isKept planStands today lack rate free boxes_r boxes_f) r (wX6_fiveDigits G a_eb a_desk a_desk_boxes a_desk_boxes_a a_kept a_tape a_text a_plan a_mat a_desk_words a_desk_weeks a_desk_routes a_desk_offers a_desk_wants a_desk_leaves a_desk_leases a_desk_uses isKept planStands today lack rate free boxes_r boxes_f) := k0X6_fiveDigits G a_eb a_desk a_desk_boxes a_desk_boxes_a a_kept a_tape a_text a_plan a_mat a_desk_words a_desk_weeks a_desk_routes a_desk_offers a_desk_wants a_desk_leaves a_desk_leases a_desk_uses v1 isKept planStands today lack rate free boxes_r boxes_f h
end MX6_fiveDigits
/-! EmptyBoxes.unlikeDigits -/
section MX6_unlikeDigits
theorem hdX6_unlikeDigits : yX6_unlikeDigits.cls = RX6 ∧ yX6_unlikeDigits.cls ≠ "java/lang/invoke/MethodHandle" ∧ yX6_unlikeDigits.cls ≠ "java/lang/invoke/VarHandle" ∧ (parseMethodDescriptor yX6_unlikeDigits.desc).map (fun d => d.parameters.length) = some 2 := by decide +kernel
abbrev rmX6_unlikeDigits : Room := { frames := 0, cells := 0, slots := 0, locals := 0 }
variable {p : Program} {l : Launch} {e : Env} {s : State} {m : MethodId} {args : Array Value} {below : List Frame} {meth : Method} {c : Code} {A : Nat → Prop} {G : Gt} {res : Int32}
set_option maxHeartbeats 4000000 in
set_option maxRecDepth 100000 in
theorem tX6_unlikeDigits_29 (X : Bx p s m args meth c cX6_unlikeDigits 4 wsX6_unlikeDigits RX6 (some .int)) (v0 : Int32) (v1 : Int32) (v2 : Int32) (v3 : Int32) (k_4 : Int32 → Int32 → Option (Int32)) (Hk_4 : ∀ (v2 : Int32) (v3 : Int32), k_4 v2 v3 = some res → ∀ (H : Heap) (locs : List Loc), Wo G A s ([] : va_W) H locs → ∀ ls : Array Slot, lv_has ls 4 [(0, .int v0), (1, .int v1), (2, .int v2), (3, .int v3)] → W p l e rmX6_unlikeDigits s m args below meth c H locs 0 0 (QI G A below args s res ([] : va_W)) (F0 m 4 ls [])) (h : fX6_unlikeDigits_29 k_4 v2 v3 = some res) : ∀ (H : Heap) (locs : List Loc), Wo G A s ([] : va_W) H locs → ∀ ls : Array Slot, lv_has ls 4 [(0, .int v0), (1, .int v1), (2, .int v2), (3, .int v3)] → W p l e rmX6_unlikeDigits s m args below meth c H locs 0 0 (QI G A below args s res ([] : va_W)) (F0 m 29 ls []) := by
  obtain ⟨hx, hb, -⟩ := id X.1
  intro H locs hW ls hl
  rw [fX6_unlikeDigits_29] at h
  refine lv_iload_n hx hb dX6_unlikeDigits_29 rfl (lv_at hl 3 rfl) ?_
  refine lv_bipush hx hb dX6_unlikeDigits_30 qB_10 ?_
  refine lv_imul hx hb dX6_unlikeDigits_32 ?_
  refine lv_istore_n (lv' := [(3, .int (v3 * (10 : Int32))), (0, .int v0), (1, .int v1), (2, .int v2)]) hx hb dX6_unlikeDigits_33 rfl hl (by decide) rfl (fun ls hl => ?_)
  refine lv_goto (tgt := 4) hx hb dX6_unlikeDigits_34 (by decide) ?_
  exact Hk_4 v2 (v3 * (10 : Int32)) h H locs hW ls (lv_sub hl [1, 2, 3, 0] rfl)
set_option maxHeartbeats 4000000 in
set_option maxRecDepth 100000 in
theorem tX6_unlikeDigits_4 (X : Bx p s m args meth c cX6_unlikeDigits 4 wsX6_unlikeDigits RX6 (some .int)) (v0 : Int32) (v1 : Int32)   : ∀ (n : Nat) (v2 : Int32) (v3 : Int32), fX6_unlikeDigits_4 v0 v1 n v2 v3 = some res → ∀ (H : Heap) (locs : List Loc), Wo G A s ([] : va_W) H locs → ∀ ls : Array Slot, lv_has ls 4 [(0, .int v0), (1, .int v1), (2, .int v2), (3, .int v3)] → W p l e rmX6_unlikeDigits s m args below meth c H locs 0 0 (QI G A below args s res ([] : va_W)) (F0 m 4 ls []) := by
  obtain ⟨hx, hb, -⟩ := id X.1
  intro n
  induction n with
  | zero => intro v2 v3 h; rw [fX6_unlikeDigits_4] at h; cases h
  | succ n ih =>
    intro v2 v3 h H locs hW ls hl
    rw [fX6_unlikeDigits_4] at h
    refine lv_iload_n hx hb dX6_unlikeDigits_4 rfl (lv_at hl 3 rfl) ?_
    refine lv_sipush hx hb dX6_unlikeDigits_5 qS_10000 ?_
    refine lv_icmp_gt (tgt := 37) hx hb dX6_unlikeDigits_8 (by decide) (fun c8 => ?_) (fun c8 => ?_)
    · have h := (if_pos c8).symm.trans h
      refine lv_iload_n hx hb dX6_unlikeDigits_37 rfl (lv_at hl 2 rfl) ?_
      obtain rfl := Option.some.inj h
      exact g_iret X hW dX6_unlikeDigits_38
    · have h := (if_neg c8).symm.trans h
      refine lv_iload_n hx hb dX6_unlikeDigits_11 rfl (lv_at hl 0 rfl) ?_
      refine lv_iload_n hx hb dX6_unlikeDigits_12 rfl (lv_at hl 3 rfl) ?_
      obtain ⟨g13, h⟩ := gd_some h
      refine lv_idiv hx hb dX6_unlikeDigits_13 (nz_ne g13) ?_
      refine lv_bipush hx hb dX6_unlikeDigits_14 qB_10 ?_
      refine g_irem hx hb dX6_unlikeDigits_16 (by decide) ?_
      refine lv_iload_n hx hb dX6_unlikeDigits_17 rfl (lv_at hl 1 rfl) ?_
      refine lv_iload_n hx hb dX6_unlikeDigits_18 rfl (lv_at hl 3 rfl) ?_
      obtain ⟨g18, h⟩ := gd_some h
      refine lv_idiv hx hb dX6_unlikeDigits_19 (nz_ne g18) ?_
      refine lv_bipush hx hb dX6_unlikeDigits_20 qB_10 ?_
      refine g_irem hx hb dX6_unlikeDigits_22 (by decide) ?_
      refine lv_icmp_eq (tgt := 29) hx hb dX6_unlikeDigits_23 (by decide) (fun c21 => ?_) (fun c21 => ?_)
      · have h := (if_pos c21).symm.trans h
        exact tX6_unlikeDigits_29 X v0 v1 v2 v3 (fun v2 v3 => fX6_unlikeDigits_4 v0 v1 n v2 v3) ih h H locs hW ls hl
      · have h := (if_neg c21).symm.trans h
        refine lv_iinc (v := (v2 + (1 : Int32))) (lv' := [(2, .int (v2 + (1 : Int32))), (0, .int v0), (1, .int v1), (3, .int v3)]) hx hb dX6_unlikeDigits_26 hl (k := 2) rfl (congrArg (fun z => v2 + z) qI_1) (by decide) rfl (fun ls hl => ?_)
        exact tX6_unlikeDigits_29 X v0 v1 (v2 + (1 : Int32)) v3 (fun v2 v3 => fX6_unlikeDigits_4 v0 v1 n v2 v3) ih h H locs hW ls (lv_sub hl [1, 2, 0, 3] rfl)
set_option maxHeartbeats 4000000 in
set_option maxRecDepth 100000 in
theorem k0X6_unlikeDigits {l : Launch} (G : Gt) (v0 : Int32) (v1 : Int32)  {res : Int32} (h : fX6_unlikeDigits v0 v1 = some res) : CtI G l yX6_unlikeDigits wsX6_unlikeDigits rmX6_unlikeDigits [.int v0, .int v1] ([] : va_W) res ([] : va_W) := by
  refine CtI.mk (cc := cX6_unlikeDigits) (maxL := 4) (ret := (some .int)) (own := RX6) (by decide) rfl rfl (Nat.le_of_ble_eq_true rfl) ?_
  intro p e s m below meth c A X ls hl hW
  obtain ⟨hx, hb, -⟩ := id X.1
  have hl : lv_has ls 4 [(0, .int v0), (1, .int v1)] := hl
  generalize hH : s.heap = H at hW ⊢
  generalize hLo : ([] : List Loc) = locs at hW ⊢
  rw [fX6_unlikeDigits] at h
  refine lv_iconst hx hb dX6_unlikeDigits_0 qI_0 ?_
  refine lv_istore_n (lv' := [(2, .int (0 : Int32)), (0, .int v0), (1, .int v1)]) hx hb dX6_unlikeDigits_1 rfl hl (by decide) rfl (fun ls hl => ?_)
  refine lv_iconst hx hb dX6_unlikeDigits_2 qI_1 ?_
  refine lv_istore_n (lv' := [(3, .int (1 : Int32)), (2, .int (0 : Int32)), (0, .int v0), (1, .int v1)]) hx hb dX6_unlikeDigits_3 rfl hl (by decide) rfl (fun ls hl => ?_)
  exact tX6_unlikeDigits_4 X v0 v1 FU (0 : Int32) (1 : Int32) h H locs hW ls (lv_sub hl [2, 3, 1, 0] rfl)
theorem kcX6_unlikeDigits {l : Launch} (G : Gt) (v0 : Int32) (v1 : Int32)  {r : Int32}  (h : fX6_unlikeDigits v0 v1 = some r) : CtI G l yX6_unlikeDigits wsX6_unlikeDigits rmX6_unlikeDigits [.int v0, .int v1] ([] : va_W) r ([] : va_W) := k0X6_unlikeDigits G v0 v1 h
end MX6_unlikeDigits
/-! EmptyBoxes.onlyBoxNear -/
section MX6_onlyBoxNear
theorem hdX6_onlyBoxNear : yX6_onlyBoxNear.cls = RX6 ∧ yX6_onlyBoxNear.cls ≠ "java/lang/invoke/MethodHandle" ∧ yX6_onlyBoxNear.cls ≠ "java/lang/invoke/VarHandle" ∧ (parseMethodDescriptor yX6_onlyBoxNear.desc).map (fun d => d.parameters.length) = some 1 := by decide +kernel
abbrev wX6_onlyBoxNear (G : Gt) (a_eb a_desk a_desk_boxes a_desk_boxes_a a_kept a_tape a_text a_plan a_mat a_desk_words a_desk_weeks a_desk_routes a_desk_offers a_desk_wants a_desk_leaves a_desk_leases a_desk_uses : Nat) (isKept : Int32) (planStands : Int32) (today : Int32) (lack : Int32) (rate : Int32) (free : Int32) (boxes_r : Int32) (boxes_f : (Nat → Int32)) : va_W := [(a_eb, .inr (6, [.ref a_desk, .ref a_kept, .ref a_tape, .ref a_text, .ref a_plan, .ref a_mat, .int isKept, .int planStands])), (a_desk, .inr (0, [.ref a_desk_boxes, .ref a_desk_words, .ref a_desk_weeks, .ref a_desk_routes, .ref a_desk_offers, .ref a_desk_wants, .ref a_desk_leaves, .ref a_desk_leases, .ref a_desk_uses, .int today, .int lack, .int rate, .int free])), (a_desk_boxes, .inr (4, [.ref a_desk_boxes_a, .int (9 : Int32), .int (24 : Int32), .int boxes_r])), (a_desk_boxes_a, .inl (G.2.1, 216, .inl boxes_f))]
abbrev rmX6_onlyBoxNear : Room := { frames := 3, cells := 0, slots := 0, locals := 66 }
theorem iX6_onlyBoxNear_X0 : ∀ w ∈ wsX00, w ∈ wsX6_onlyBoxNear := by decide +kernel
theorem iX6_onlyBoxNear_X6 : ∀ w ∈ wsX60, w ∈ wsX6_onlyBoxNear := by decide +kernel
theorem eX6_onlyBoxNear_12 : Fk wsX6_onlyBoxNear RX6 12 6 0 := ⟨RX6, TX6, 8, rfl, iX6_onlyBoxNear_X6, by decide, by decide +kernel⟩
theorem eX6_onlyBoxNear_82 : Fk wsX6_onlyBoxNear RX6 82 0 0 := ⟨RX0, TX0, 13, rfl, iX6_onlyBoxNear_X0, by decide, by decide +kernel⟩
theorem ckX6_onlyBoxNear_X4_size_117 : CkV wsX6_onlyBoxNear RX6 117 yX4_size wsX4_size cX4_size 1 (some .int) 0 4 := ⟨RX4, TX4, 4, _, rfl, gX6_onlyBoxNear_X4_size, rfl, hdX4_size⟩
theorem ckX6_onlyBoxNear_X6_fiveDigits_104 : CkV wsX6_onlyBoxNear RX6 104 yX6_fiveDigits wsX6_fiveDigits cX6_fiveDigits 3 (some .int) 1 6 := ⟨RX6, TX6, 8, _, rfl, gX6_onlyBoxNear_X6_fiveDigits, rfl, hdX6_fiveDigits⟩
theorem ckX6_onlyBoxNear_X6_unlikeDigits_120 : CkS wsX6_onlyBoxNear RX6 120 yX6_unlikeDigits wsX6_unlikeDigits cX6_unlikeDigits 4 (some .int) 2 := ⟨_, gX6_onlyBoxNear_X6_unlikeDigits, rfl, hdX6_unlikeDigits.2⟩
variable {p : Program} {l : Launch} {e : Env} {s : State} {m : MethodId} {args : Array Value} {below : List Frame} {meth : Method} {c : Code} {A : Nat → Prop} {G : Gt} {a_eb a_desk a_desk_boxes a_desk_boxes_a a_kept a_tape a_text a_plan a_mat a_desk_words a_desk_weeks a_desk_routes a_desk_offers a_desk_wants a_desk_leaves a_desk_leases a_desk_uses : Nat} {isKept : Int32} {planStands : Int32} {today : Int32} {lack : Int32} {rate : Int32} {free : Int32} {boxes_r : Int32} {boxes_f : (Nat → Int32)} {res : Int32}
set_option maxHeartbeats 4000000 in
set_option maxRecDepth 100000 in
theorem tX6_onlyBoxNear_41 (X : Bx p s m args meth c cX6_onlyBoxNear 4 wsX6_onlyBoxNear RX6 (some .int)) (v1 : Int32) (v2 : Int32) (v3 : Int32) (k_5 : Int32 → Int32 → Option (Int32)) (Hk_5 : ∀ (v2 : Int32) (v3 : Int32), k_5 v2 v3 = some res → ∀ (H : Heap) (locs : List Loc), Wo G A s (wX6_onlyBoxNear G a_eb a_desk a_desk_boxes a_desk_boxes_a a_kept a_tape a_text a_plan a_mat a_desk_words a_desk_weeks a_desk_routes a_desk_offers a_desk_wants a_desk_leaves a_desk_leases a_desk_uses isKept planStands today lack rate free boxes_r boxes_f) H locs → ∀ ls : Array Slot, lv_has ls 4 [(0, .ref a_eb), (1, .int v1), (2, .int v2), (3, .int v3)] → W p l e rmX6_onlyBoxNear s m args below meth c H locs 0 0 (QI G A below args s res (wX6_onlyBoxNear G a_eb a_desk a_desk_boxes a_desk_boxes_a a_kept a_tape a_text a_plan a_mat a_desk_words a_desk_weeks a_desk_routes a_desk_offers a_desk_wants a_desk_leaves a_desk_leases a_desk_uses isKept planStands today lack rate free boxes_r boxes_f)) (F0 m 5 ls [])) (h : fX6_onlyBoxNear_41 k_5 v2 v3 = some res) : ∀ (H : Heap) (locs : List Loc), Wo G A s (wX6_onlyBoxNear G a_eb a_desk a_desk_boxes a_desk_boxes_a a_kept a_tape a_text a_plan a_mat a_desk_words a_desk_weeks a_desk_routes a_desk_offers a_desk_wants a_desk_leaves a_desk_leases a_desk_uses isKept planStands today lack rate free boxes_r boxes_f) H locs → ∀ ls : Array Slot, lv_has ls 4 [(0, .ref a_eb), (1, .int v1), (2, .int v2), (3, .int v3)] → W p l e rmX6_onlyBoxNear s m args below meth c H locs 0 0 (QI G A below args s res (wX6_onlyBoxNear G a_eb a_desk a_desk_boxes a_desk_boxes_a a_kept a_tape a_text a_plan a_mat a_desk_words a_desk_weeks a_desk_routes a_desk_offers a_desk_wants a_desk_leaves a_desk_leases a_desk_uses isKept planStands today lack rate free boxes_r boxes_f)) (F0 m 41 ls []) := by
  obtain ⟨hx, hb, -⟩ := id X.1
  intro H locs hW ls hl
  rw [fX6_onlyBoxNear_41] at h
  refine lv_iinc (v := (v3 + (1 : Int32))) (lv' := [(3, .int (v3 + (1 : Int32))), (0, .ref a_eb), (1, .int v1), (2, .int v2)]) hx hb dX6_onlyBoxNear_41 hl (k := 3) rfl (congrArg (fun z => v3 + z) qI_1) (by decide) rfl (fun ls hl => ?_)
  refine lv_goto (tgt := 5) hx hb dX6_onlyBoxNear_44 (by decide) ?_
  exact Hk_5 v2 (v3 + (1 : Int32)) h H locs hW ls (lv_sub hl [1, 2, 3, 0] rfl)
set_option maxHeartbeats 4000000 in
set_option maxRecDepth 100000 in
theorem tX6_onlyBoxNear_5 (X : Bx p s m args meth c cX6_onlyBoxNear 4 wsX6_onlyBoxNear RX6 (some .int)) (v1 : Int32)   : ∀ (n : Nat) (v2 : Int32) (v3 : Int32), fX6_onlyBoxNear_5 v1 boxes_r boxes_f n v2 v3 = some res → ∀ (H : Heap) (locs : List Loc), Wo G A s (wX6_onlyBoxNear G a_eb a_desk a_desk_boxes a_desk_boxes_a a_kept a_tape a_text a_plan a_mat a_desk_words a_desk_weeks a_desk_routes a_desk_offers a_desk_wants a_desk_leaves a_desk_leases a_desk_uses isKept planStands today lack rate free boxes_r boxes_f) H locs → ∀ ls : Array Slot, lv_has ls 4 [(0, .ref a_eb), (1, .int v1), (2, .int v2), (3, .int v3)] → W p l e rmX6_onlyBoxNear s m args below meth c H locs 0 0 (QI G A below args s res (wX6_onlyBoxNear G a_eb a_desk a_desk_boxes a_desk_boxes_a a_kept a_tape a_text a_plan a_mat a_desk_words a_desk_weeks a_desk_routes a_desk_offers a_desk_wants a_desk_leaves a_desk_leases a_desk_uses isKept planStands today lack rate free boxes_r boxes_f)) (F0 m 5 ls []) := by
  obtain ⟨hx, hb, -⟩ := id X.1
  intro n
  induction n with
  | zero => intro v2 v3 h; rw [fX6_onlyBoxNear_5] at h; cases h
  | succ n ih =>
    intro v2 v3 h H locs hW ls hl
    rw [fX6_onlyBoxNear_5] at h
    refine lv_iload_n hx hb dX6_onlyBoxNear_5 rfl (lv_at hl 3 rfl) ?_
    refine lv_aload_n hx hb dX6_onlyBoxNear_6 rfl (lv_at hl 0 rfl) ?_
    refine g_get X hW eX6_onlyBoxNear_12 0 rfl rfl dX6_onlyBoxNear_7 ?_
    refine g_get X hW eX6_onlyBoxNear_82 1 rfl rfl dX6_onlyBoxNear_10 ?_
    obtain ⟨r7, hq, h⟩ := bn1_some h
    refine g_cvi X hW (As := []) (ws' := (wX6_onlyBoxNear G a_eb a_desk a_desk_boxes a_desk_boxes_a a_kept a_tape a_text a_plan a_mat a_desk_words a_desk_weeks a_desk_routes a_desk_offers a_desk_wants a_desk_leaves a_desk_leases a_desk_uses isKept planStands today lack rate free boxes_r boxes_f)) ckX6_onlyBoxNear_X4_size_117 (kcX4_size (l := l) G a_desk_boxes a_desk_boxes_a (9 : Int32) (24 : Int32) boxes_r hq) ⟨rfl, rfl, Nat.le_of_ble_eq_true rfl, Nat.le_of_ble_eq_true rfl⟩ [2] rfl rfl rfl rfl rfl rfl rfl hl.1 (Nat.le_of_ble_eq_true rfl) ⟨Nat.zero_le _, Nat.zero_le _⟩ dX6_onlyBoxNear_13 (fun H locs hW => ?_)
    refine lv_icmp_ge (tgt := 47) hx hb dX6_onlyBoxNear_16 (by decide) (fun c8 => ?_) (fun c8 => ?_)
    · have h := (if_pos c8).symm.trans h
      refine lv_iload_n hx hb dX6_onlyBoxNear_47 rfl (lv_at hl 2 rfl) ?_
      obtain rfl := Option.some.inj h
      exact g_iret X hW dX6_onlyBoxNear_48
    · have h := (if_neg c8).symm.trans h
      refine lv_aload_n hx hb dX6_onlyBoxNear_19 rfl (lv_at hl 0 rfl) ?_
      refine lv_iload_n hx hb dX6_onlyBoxNear_20 rfl (lv_at hl 3 rfl) ?_
      obtain ⟨r13, hq, h⟩ := bn1_some h
      refine g_cvi X hW (As := [.int v3]) (ws' := (wX6_onlyBoxNear G a_eb a_desk a_desk_boxes a_desk_boxes_a a_kept a_tape a_text a_plan a_mat a_desk_words a_desk_weeks a_desk_routes a_desk_offers a_desk_wants a_desk_leaves a_desk_leases a_desk_uses isKept planStands today lack rate free boxes_r boxes_f)) ckX6_onlyBoxNear_X6_fiveDigits_104 (kcX6_fiveDigits (l := l) G a_eb a_desk a_desk_boxes a_desk_boxes_a a_kept a_tape a_text a_plan a_mat a_desk_words a_desk_weeks a_desk_routes a_desk_offers a_desk_wants a_desk_leaves a_desk_leases a_desk_uses v3 isKept planStands today lack rate free boxes_r boxes_f hq) ⟨rfl, rfl, Nat.le_of_ble_eq_true rfl, Nat.le_of_ble_eq_true rfl⟩ [0, 1, 2, 3] rfl rfl rfl rfl rfl rfl rfl hl.1 (Nat.le_of_ble_eq_true rfl) ⟨Nat.zero_le _, Nat.zero_le _⟩ dX6_onlyBoxNear_21 (fun H locs hW => ?_)
      refine lv_iload_n hx hb dX6_onlyBoxNear_24 rfl (lv_at hl 1 rfl) ?_
      obtain ⟨r15, hq, h⟩ := bn1_some h
      refine g_csi X hW (As := [.int r13, .int v1]) (ws' := (wX6_onlyBoxNear G a_eb a_desk a_desk_boxes a_desk_boxes_a a_kept a_tape a_text a_plan a_mat a_desk_words a_desk_weeks a_desk_routes a_desk_offers a_desk_wants a_desk_leaves a_desk_leases a_desk_uses isKept planStands today lack rate free boxes_r boxes_f)) ckX6_onlyBoxNear_X6_unlikeDigits_120 (kcX6_unlikeDigits (l := l) G r13 v1 hq) ⟨rfl, rfl, Nat.le_of_ble_eq_true rfl, Nat.le_of_ble_eq_true rfl⟩ [] rfl rfl rfl rfl rfl rfl hl.1 (Nat.le_of_ble_eq_true rfl) ⟨Nat.zero_le _, Nat.zero_le _⟩ dX6_onlyBoxNear_25 (fun H locs hW => ?_)
      refine lv_iconst hx hb dX6_onlyBoxNear_28 qI_1 ?_
      refine lv_icmp_ne (tgt := 41) hx hb dX6_onlyBoxNear_29 (by decide) (fun c17 => ?_) (fun c17 => ?_)
      · have h := (if_neg c17).symm.trans h
        exact tX6_onlyBoxNear_41 X v1 v2 v3 (fun v2 v3 => fX6_onlyBoxNear_5 v1 boxes_r boxes_f n v2 v3) ih h H locs hW ls hl
      · have h := (if_pos c17).symm.trans h
        refine lv_iload_n hx hb dX6_onlyBoxNear_32 rfl (lv_at hl 2 rfl) ?_
        refine lv_if_lt (tgt := 39) hx hb dX6_onlyBoxNear_33 (by decide) (fun c19 => ?_) (fun c19 => ?_)
        · have h := (if_pos c19).symm.trans h
          refine lv_iload_n hx hb dX6_onlyBoxNear_39 rfl (lv_at hl 3 rfl) ?_
          refine lv_istore_n (lv' := [(2, .int v3), (0, .ref a_eb), (1, .int v1), (3, .int v3)]) hx hb dX6_onlyBoxNear_40 rfl hl (by decide) rfl (fun ls hl => ?_)
          exact tX6_onlyBoxNear_41 X v1 v3 v3 (fun v2 v3 => fX6_onlyBoxNear_5 v1 boxes_r boxes_f n v2 v3) ih h H locs hW ls (lv_sub hl [1, 2, 0, 3] rfl)
        · have h := (if_neg c19).symm.trans h
          refine lv_bipush hx hb dX6_onlyBoxNear_36 qB_m3 ?_
          obtain rfl := Option.some.inj h
          exact g_iret X hW dX6_onlyBoxNear_38
set_option maxHeartbeats 4000000 in
set_option maxRecDepth 100000 in
theorem k0X6_onlyBoxNear {l : Launch} (G : Gt) (a_eb a_desk a_desk_boxes a_desk_boxes_a a_kept a_tape a_text a_plan a_mat a_desk_words a_desk_weeks a_desk_routes a_desk_offers a_desk_wants a_desk_leaves a_desk_leases a_desk_uses : Nat) (v1 : Int32) (isKept : Int32) (planStands : Int32) (today : Int32) (lack : Int32) (rate : Int32) (free : Int32) (boxes_r : Int32) (boxes_f : (Nat → Int32)) {res : Int32} (h : fX6_onlyBoxNear v1 boxes_r boxes_f = some res) : CtI G l yX6_onlyBoxNear wsX6_onlyBoxNear rmX6_onlyBoxNear [.ref a_eb, .int v1] (wX6_onlyBoxNear G a_eb a_desk a_desk_boxes a_desk_boxes_a a_kept a_tape a_text a_plan a_mat a_desk_words a_desk_weeks a_desk_routes a_desk_offers a_desk_wants a_desk_leaves a_desk_leases a_desk_uses isKept planStands today lack rate free boxes_r boxes_f) res (wX6_onlyBoxNear G a_eb a_desk a_desk_boxes a_desk_boxes_a a_kept a_tape a_text a_plan a_mat a_desk_words a_desk_weeks a_desk_routes a_desk_offers a_desk_wants a_desk_leaves a_desk_leases a_desk_uses isKept planStands today lack rate free boxes_r boxes_f) := by
  refine CtI.mk (cc := cX6_onlyBoxNear) (maxL := 4) (ret := (some .int)) (own := RX6) (by decide) rfl rfl (Nat.le_of_ble_eq_true rfl) ?_
  intro p e s m below meth c A X ls hl hW
  obtain ⟨hx, hb, -⟩ := id X.1
  have hl : lv_has ls 4 [(0, .ref a_eb), (1, .int v1)] := hl
  generalize hH : s.heap = H at hW ⊢
  generalize hLo : ([] : List Loc) = locs at hW ⊢
  rw [fX6_onlyBoxNear] at h
  refine lv_bipush hx hb dX6_onlyBoxNear_0 qB_m3 ?_
  refine lv_istore_n (lv' := [(2, .int (-3 : Int32)), (0, .ref a_eb), (1, .int v1)]) hx hb dX6_onlyBoxNear_2 rfl hl (by decide) rfl (fun ls hl => ?_)
  refine lv_iconst hx hb dX6_onlyBoxNear_3 qI_0 ?_
  refine lv_istore_n (lv' := [(3, .int (0 : Int32)), (2, .int (-3 : Int32)), (0, .ref a_eb), (1, .int v1)]) hx hb dX6_onlyBoxNear_4 rfl hl (by decide) rfl (fun ls hl => ?_)
  exact tX6_onlyBoxNear_5 X v1 FU (-3 : Int32) (0 : Int32) h H locs hW ls (lv_sub hl [2, 3, 1, 0] rfl)
theorem kcX6_onlyBoxNear {l : Launch} (G : Gt) (a_eb a_desk a_desk_boxes a_desk_boxes_a a_kept a_tape a_text a_plan a_mat a_desk_words a_desk_weeks a_desk_routes a_desk_offers a_desk_wants a_desk_leaves a_desk_leases a_desk_uses : Nat) (v1 : Int32) (isKept : Int32) (planStands : Int32) (today : Int32) (lack : Int32) (rate : Int32) (free : Int32) (boxes_r : Int32) (boxes_f : (Nat → Int32)) {r : Int32}  (h : fX6_onlyBoxNear v1 boxes_r boxes_f = some r) : CtI G l yX6_onlyBoxNear wsX6_onlyBoxNear rmX6_onlyBoxNear [.ref a_eb, .int v1] (wX6_onlyBoxNear G a_eb a_desk a_desk_boxes a_desk_boxes_a a_kept a_tape a_text a_plan a_mat a_desk_words a_desk_weeks a_desk_routes a_desk_offers a_desk_wants a_desk_leaves a_desk_leases a_desk_uses isKept planStands today lack rate free boxes_r boxes_f) r (wX6_onlyBoxNear G a_eb a_desk a_desk_boxes a_desk_boxes_a a_kept a_tape a_text a_plan a_mat a_desk_words a_desk_weeks a_desk_routes a_desk_offers a_desk_wants a_desk_leaves a_desk_leases a_desk_uses isKept planStands today lack rate free boxes_r boxes_f) := k0X6_onlyBoxNear G a_eb a_desk a_desk_boxes a_desk_boxes_a a_kept a_tape a_text a_plan a_mat a_desk_words a_desk_weeks a_desk_routes a_desk_offers a_desk_wants a_desk_leaves a_desk_leases a_desk_uses v1 isKept planStands today lack rate free boxes_r boxes_f h
end MX6_onlyBoxNear
/-! EmptyBoxes.find -/
section MX6_find
theorem hdX6_find : yX6_find.cls = RX6 ∧ yX6_find.cls ≠ "java/lang/invoke/MethodHandle" ∧ yX6_find.cls ≠ "java/lang/invoke/VarHandle" ∧ (parseMethodDescriptor yX6_find.desc).map (fun d => d.parameters.length) = some 1 := by decide +kernel
abbrev wX6_find (G : Gt) (a_eb a_desk a_desk_boxes a_desk_boxes_a a_kept a_tape a_text a_plan a_mat a_desk_words a_desk_weeks a_desk_routes a_desk_offers a_desk_wants a_desk_leaves a_desk_leases a_desk_uses : Nat) (isKept : Int32) (planStands : Int32) (today : Int32) (lack : Int32) (rate : Int32) (free : Int32) (boxes_r : Int32) (boxes_f : (Nat → Int32)) : va_W := [(a_eb, .inr (6, [.ref a_desk, .ref a_kept, .ref a_tape, .ref a_text, .ref a_plan, .ref a_mat, .int isKept, .int planStands])), (a_desk, .inr (0, [.ref a_desk_boxes, .ref a_desk_words, .ref a_desk_weeks, .ref a_desk_routes, .ref a_desk_offers, .ref a_desk_wants, .ref a_desk_leaves, .ref a_desk_leases, .ref a_desk_uses, .int today, .int lack, .int rate, .int free])), (a_desk_boxes, .inr (4, [.ref a_desk_boxes_a, .int (9 : Int32), .int (24 : Int32), .int boxes_r])), (a_desk_boxes_a, .inl (G.2.1, 216, .inl boxes_f))]
abbrev rmX6_find : Room := { frames := 4, cells := 0, slots := 0, locals := 89 }
theorem ckX6_find_X6_boxOfMark_75 : CkV wsX6_find RX6 75 yX6_boxOfMark wsX6_boxOfMark cX6_boxOfMark 3 (some .int) 1 6 := ⟨RX6, TX6, 8, _, rfl, gX6_find_X6_boxOfMark, rfl, hdX6_boxOfMark⟩
theorem ckX6_find_X6_fiveDigits_104 : CkV wsX6_find RX6 104 yX6_fiveDigits wsX6_fiveDigits cX6_fiveDigits 3 (some .int) 1 6 := ⟨RX6, TX6, 8, _, rfl, gX6_find_X6_fiveDigits, rfl, hdX6_fiveDigits⟩
theorem ckX6_find_X6_isWithin_54 : CkS wsX6_find RX6 54 yX6_isWithin wsX6_isWithin cX6_isWithin 3 (some .boolean) 3 := ⟨_, gX6_find_X6_isWithin, rfl, hdX6_isWithin.2⟩
theorem ckX6_find_X6_onlyBoxNear_107 : CkV wsX6_find RX6 107 yX6_onlyBoxNear wsX6_onlyBoxNear cX6_onlyBoxNear 4 (some .int) 1 6 := ⟨RX6, TX6, 8, _, rfl, gX6_find_X6_onlyBoxNear, rfl, hdX6_onlyBoxNear⟩
theorem cwX6_find_103 : Cond.constant RX6 103 99999 ∈ wsX6_find := by decide +kernel
variable {p : Program} {l : Launch} {e : Env} {s : State} {m : MethodId} {args : Array Value} {below : List Frame} {meth : Method} {c : Code} {A : Nat → Prop} {G : Gt} {a_eb a_desk a_desk_boxes a_desk_boxes_a a_kept a_tape a_text a_plan a_mat a_desk_words a_desk_weeks a_desk_routes a_desk_offers a_desk_wants a_desk_leaves a_desk_leases a_desk_uses : Nat} {isKept : Int32} {planStands : Int32} {today : Int32} {lack : Int32} {rate : Int32} {free : Int32} {boxes_r : Int32} {boxes_f : (Nat → Int32)} {res : Int32}
set_option maxHeartbeats 4000000 in
set_option maxRecDepth 100000 in
theorem tX6_find_36 (X : Bx p s m args meth c cX6_find 3 wsX6_find RX6 (some .int)) (v1 : Int32)   (h : fX6_find_36 v1 boxes_r boxes_f = some res) : ∀ (H : Heap) (locs : List Loc), Wo G A s (wX6_find G a_eb a_desk a_desk_boxes a_desk_boxes_a a_kept a_tape a_text a_plan a_mat a_desk_words a_desk_weeks a_desk_routes a_desk_offers a_desk_wants a_desk_leaves a_desk_leases a_desk_uses isKept planStands today lack rate free boxes_r boxes_f) H locs → ∀ ls : Array Slot, lv_has ls 3 [(0, .ref a_eb), (1, .int v1)] → W p l e rmX6_find s m args below meth c H locs 0 0 (QI G A below args s res (wX6_find G a_eb a_desk a_desk_boxes a_desk_boxes_a a_kept a_tape a_text a_plan a_mat a_desk_words a_desk_weeks a_desk_routes a_desk_offers a_desk_wants a_desk_leaves a_desk_leases a_desk_uses isKept planStands today lack rate free boxes_r boxes_f)) (F0 m 36 ls []) := by
  obtain ⟨hx, hb, -⟩ := id X.1
  intro H locs hW ls hl
  rw [fX6_find_36] at h
  refine lv_aload_n hx hb dX6_find_36 rfl (lv_at hl 0 rfl) ?_
  refine lv_iload_n hx hb dX6_find_37 rfl (lv_at hl 1 rfl) ?_
  obtain ⟨r3, hq, h⟩ := bn1_some h
  refine g_cvi X hW (As := [.int v1]) (ws' := (wX6_find G a_eb a_desk a_desk_boxes a_desk_boxes_a a_kept a_tape a_text a_plan a_mat a_desk_words a_desk_weeks a_desk_routes a_desk_offers a_desk_wants a_desk_leaves a_desk_leases a_desk_uses isKept planStands today lack rate free boxes_r boxes_f)) ckX6_find_X6_onlyBoxNear_107 (kcX6_onlyBoxNear (l := l) G a_eb a_desk a_desk_boxes a_desk_boxes_a a_kept a_tape a_text a_plan a_mat a_desk_words a_desk_weeks a_desk_routes a_desk_offers a_desk_wants a_desk_leaves a_desk_leases a_desk_uses v1 isKept planStands today lack rate free boxes_r boxes_f hq) ⟨rfl, rfl, Nat.le_of_ble_eq_true rfl, Nat.le_of_ble_eq_true rfl⟩ [0, 1, 2, 3] rfl rfl rfl rfl rfl rfl rfl hl.1 (Nat.le_of_ble_eq_true rfl) ⟨Nat.zero_le _, Nat.zero_le _⟩ dX6_find_38 (fun H locs hW => ?_)
  obtain rfl := Option.some.inj h
  exact g_iret X hW dX6_find_41
set_option maxHeartbeats 4000000 in
set_option maxRecDepth 100000 in
theorem k0X6_find {l : Launch} (G : Gt) (a_eb a_desk a_desk_boxes a_desk_boxes_a a_kept a_tape a_text a_plan a_mat a_desk_words a_desk_weeks a_desk_routes a_desk_offers a_desk_wants a_desk_leaves a_desk_leases a_desk_uses : Nat) (v1 : Int32) (isKept : Int32) (planStands : Int32) (today : Int32) (lack : Int32) (rate : Int32) (free : Int32) (boxes_r : Int32) (boxes_f : (Nat → Int32)) {res : Int32} (h : fX6_find v1 boxes_r boxes_f = some res) : CtI G l yX6_find wsX6_find rmX6_find [.ref a_eb, .int v1] (wX6_find G a_eb a_desk a_desk_boxes a_desk_boxes_a a_kept a_tape a_text a_plan a_mat a_desk_words a_desk_weeks a_desk_routes a_desk_offers a_desk_wants a_desk_leaves a_desk_leases a_desk_uses isKept planStands today lack rate free boxes_r boxes_f) res (wX6_find G a_eb a_desk a_desk_boxes a_desk_boxes_a a_kept a_tape a_text a_plan a_mat a_desk_words a_desk_weeks a_desk_routes a_desk_offers a_desk_wants a_desk_leaves a_desk_leases a_desk_uses isKept planStands today lack rate free boxes_r boxes_f) := by
  refine CtI.mk (cc := cX6_find) (maxL := 3) (ret := (some .int)) (own := RX6) (by decide) rfl rfl (Nat.le_of_ble_eq_true rfl) ?_
  intro p e s m below meth c A X ls hl hW
  obtain ⟨hx, hb, -⟩ := id X.1
  have hl : lv_has ls 3 [(0, .ref a_eb), (1, .int v1)] := hl
  generalize hH : s.heap = H at hW ⊢
  generalize hLo : ([] : List Loc) = locs at hW ⊢
  rw [fX6_find] at h
  refine lv_iload_n hx hb dX6_find_0 rfl (lv_at hl 1 rfl) ?_
  refine lv_iconst hx hb dX6_find_1 qI_0 ?_
  refine lv_ldc hx hb X.1.2.2.2.1 (X.1.2.2.2.2 _ cwX6_find_103) dX6_find_2 ?_
  obtain ⟨r8, hq, h⟩ := bn1_some h
  refine g_csi X hW (As := [.int v1, .int (0 : Int32), .int (99999 : Int32)]) (ws' := (wX6_find G a_eb a_desk a_desk_boxes a_desk_boxes_a a_kept a_tape a_text a_plan a_mat a_desk_words a_desk_weeks a_desk_routes a_desk_offers a_desk_wants a_desk_leaves a_desk_leases a_desk_uses isKept planStands today lack rate free boxes_r boxes_f)) ckX6_find_X6_isWithin_54 (kcX6_isWithin (l := l) G v1 (0 : Int32) (99999 : Int32) hq) ⟨rfl, rfl, Nat.le_of_ble_eq_true rfl, Nat.le_of_ble_eq_true rfl⟩ [] rfl rfl rfl rfl rfl rfl hl.1 (Nat.le_of_ble_eq_true rfl) ⟨Nat.zero_le _, Nat.zero_le _⟩ dX6_find_4 (fun H locs hW => ?_)
  refine lv_if_ne (tgt := 12) hx hb dX6_find_7 (by decide) (fun c9 => ?_) (fun c9 => ?_)
  · have h := (if_neg c9).symm.trans h
    refine lv_aload_n hx hb dX6_find_12 rfl (lv_at hl 0 rfl) ?_
    refine lv_iload_n hx hb dX6_find_13 rfl (lv_at hl 1 rfl) ?_
    refine lv_bipush hx hb dX6_find_14 qB_10 ?_
    refine lv_idiv hx hb dX6_find_16 (by decide) ?_
    obtain ⟨r14, hq, h⟩ := bn1_some h
    refine g_cvi X hW (As := [.int (v1 / (10 : Int32))]) (ws' := (wX6_find G a_eb a_desk a_desk_boxes a_desk_boxes_a a_kept a_tape a_text a_plan a_mat a_desk_words a_desk_weeks a_desk_routes a_desk_offers a_desk_wants a_desk_leaves a_desk_leases a_desk_uses isKept planStands today lack rate free boxes_r boxes_f)) ckX6_find_X6_boxOfMark_75 (kcX6_boxOfMark (l := l) G a_eb a_desk a_desk_boxes a_desk_boxes_a a_kept a_tape a_text a_plan a_mat a_desk_words a_desk_weeks a_desk_routes a_desk_offers a_desk_wants a_desk_leaves a_desk_leases a_desk_uses (v1 / (10 : Int32)) isKept planStands today lack rate free boxes_r boxes_f hq) ⟨rfl, rfl, Nat.le_of_ble_eq_true rfl, Nat.le_of_ble_eq_true rfl⟩ [0, 1, 2, 3] rfl rfl rfl rfl rfl rfl rfl hl.1 (Nat.le_of_ble_eq_true rfl) ⟨Nat.zero_le _, Nat.zero_le _⟩ dX6_find_17 (fun H locs hW => ?_)
    refine lv_istore_n (lv' := [(2, .int r14), (0, .ref a_eb), (1, .int v1)]) hx hb dX6_find_20 rfl hl (by decide) rfl (fun ls hl => ?_)
    refine lv_iload_n hx hb dX6_find_21 rfl (lv_at hl 0 rfl) ?_
    refine lv_if_lt (tgt := 36) hx hb dX6_find_22 (by decide) (fun c17 => ?_) (fun c17 => ?_)
    · have h := (if_pos c17).symm.trans h
      exact tX6_find_36 X v1 h H locs hW ls (lv_sub hl [1, 2] rfl)
    · have h := (if_neg c17).symm.trans h
      refine lv_aload_n hx hb dX6_find_25 rfl (lv_at hl 1 rfl) ?_
      refine lv_iload_n hx hb dX6_find_26 rfl (lv_at hl 0 rfl) ?_
      obtain ⟨r20, hq, h⟩ := bn1_some h
      refine g_cvi X hW (As := [.int r14]) (ws' := (wX6_find G a_eb a_desk a_desk_boxes a_desk_boxes_a a_kept a_tape a_text a_plan a_mat a_desk_words a_desk_weeks a_desk_routes a_desk_offers a_desk_wants a_desk_leaves a_desk_leases a_desk_uses isKept planStands today lack rate free boxes_r boxes_f)) ckX6_find_X6_fiveDigits_104 (kcX6_fiveDigits (l := l) G a_eb a_desk a_desk_boxes a_desk_boxes_a a_kept a_tape a_text a_plan a_mat a_desk_words a_desk_weeks a_desk_routes a_desk_offers a_desk_wants a_desk_leaves a_desk_leases a_desk_uses r14 isKept planStands today lack rate free boxes_r boxes_f hq) ⟨rfl, rfl, Nat.le_of_ble_eq_true rfl, Nat.le_of_ble_eq_true rfl⟩ [0, 1, 2, 3] rfl rfl rfl rfl rfl rfl rfl hl.1 (Nat.le_of_ble_eq_true rfl) ⟨Nat.zero_le _, Nat.zero_le _⟩ dX6_find_27 (fun H locs hW => ?_)
      refine lv_iload_n hx hb dX6_find_30 rfl (lv_at hl 2 rfl) ?_
      refine lv_icmp_ne (tgt := 36) hx hb dX6_find_31 (by decide) (fun c22 => ?_) (fun c22 => ?_)
      · have h := (if_neg c22).symm.trans h
        exact tX6_find_36 X v1 h H locs hW ls (lv_sub hl [1, 2] rfl)
      · have h := (if_pos c22).symm.trans h
        refine lv_iload_n hx hb dX6_find_34 rfl (lv_at hl 0 rfl) ?_
        obtain rfl := Option.some.inj h
        exact g_iret X hW dX6_find_35
  · have h := (if_pos c9).symm.trans h
    refine lv_iconst hx hb dX6_find_10 qI_m1 ?_
    obtain rfl := Option.some.inj h
    exact g_iret X hW dX6_find_11
theorem kcX6_find {l : Launch} (G : Gt) (a_eb a_desk a_desk_boxes a_desk_boxes_a a_kept a_tape a_text a_plan a_mat a_desk_words a_desk_weeks a_desk_routes a_desk_offers a_desk_wants a_desk_leaves a_desk_leases a_desk_uses : Nat) (v1 : Int32) (isKept : Int32) (planStands : Int32) (today : Int32) (lack : Int32) (rate : Int32) (free : Int32) (boxes_r : Int32) (boxes_f : (Nat → Int32)) {r : Int32}  (h : fX6_find v1 boxes_r boxes_f = some r) : CtI G l yX6_find wsX6_find rmX6_find [.ref a_eb, .int v1] (wX6_find G a_eb a_desk a_desk_boxes a_desk_boxes_a a_kept a_tape a_text a_plan a_mat a_desk_words a_desk_weeks a_desk_routes a_desk_offers a_desk_wants a_desk_leaves a_desk_leases a_desk_uses isKept planStands today lack rate free boxes_r boxes_f) r (wX6_find G a_eb a_desk a_desk_boxes a_desk_boxes_a a_kept a_tape a_text a_plan a_mat a_desk_words a_desk_weeks a_desk_routes a_desk_offers a_desk_wants a_desk_leaves a_desk_leases a_desk_uses isKept planStands today lack rate free boxes_r boxes_f) := k0X6_find G a_eb a_desk a_desk_boxes a_desk_boxes_a a_kept a_tape a_text a_plan a_mat a_desk_words a_desk_weeks a_desk_routes a_desk_offers a_desk_wants a_desk_leaves a_desk_leases a_desk_uses v1 isKept planStands today lack rate free boxes_r boxes_f h
end MX6_find
/-! EmptyBoxes.of -/
section MX6_of
theorem hdX6_of : yX6_of.cls = RX6 ∧ yX6_of.cls ≠ "java/lang/invoke/MethodHandle" ∧ yX6_of.cls ≠ "java/lang/invoke/VarHandle" ∧ (parseMethodDescriptor yX6_of.desc).map (fun d => d.parameters.length) = some 2 := by decide +kernel
abbrev wX6_of (G : Gt) (a_eb a_desk a_desk_boxes a_desk_boxes_a a_kept a_tape a_text a_plan a_mat a_desk_words a_desk_weeks a_desk_routes a_desk_offers a_desk_wants a_desk_leaves a_desk_leases a_desk_uses : Nat) (isKept : Int32) (planStands : Int32) (today : Int32) (lack : Int32) (rate : Int32) (free : Int32) (boxes_r : Int32) (boxes_f : (Nat → Int32)) : va_W := [(a_eb, .inr (6, [.ref a_desk, .ref a_kept, .ref a_tape, .ref a_text, .ref a_plan, .ref a_mat, .int isKept, .int planStands])), (a_desk, .inr (0, [.ref a_desk_boxes, .ref a_desk_words, .ref a_desk_weeks, .ref a_desk_routes, .ref a_desk_offers, .ref a_desk_wants, .ref a_desk_leaves, .ref a_desk_leases, .ref a_desk_uses, .int today, .int lack, .int rate, .int free])), (a_desk_boxes, .inr (4, [.ref a_desk_boxes_a, .int (9 : Int32), .int (24 : Int32), .int boxes_r])), (a_desk_boxes_a, .inl (G.2.1, 216, .inl boxes_f))]
abbrev rmX6_of : Room := { frames := 2, cells := 0, slots := 0, locals := 44 }
theorem iX6_of_X0 : ∀ w ∈ wsX00, w ∈ wsX6_of := by decide +kernel
theorem iX6_of_X6 : ∀ w ∈ wsX60, w ∈ wsX6_of := by decide +kernel
theorem eX6_of_12 : Fk wsX6_of RX6 12 6 0 := ⟨RX6, TX6, 8, rfl, iX6_of_X6, by decide, by decide +kernel⟩
theorem eX6_of_82 : Fk wsX6_of RX6 82 0 0 := ⟨RX0, TX0, 13, rfl, iX6_of_X0, by decide, by decide +kernel⟩
theorem ckX6_of_X4_cell_113 : CkV wsX6_of RX6 113 yX4_cell wsX4_cell cX4_cell 3 (some .int) 2 4 := ⟨RX4, TX4, 4, _, rfl, gX6_of_X4_cell, rfl, hdX4_cell⟩
theorem ckX6_of_X4_has_110 : CkV wsX6_of RX6 110 yX4_has wsX4_has cX4_has 2 (some .boolean) 1 4 := ⟨RX4, TX4, 4, _, rfl, gX6_of_X4_has, rfl, hdX4_has⟩
theorem ckX6_of_X6_isWithin_54 : CkS wsX6_of RX6 54 yX6_isWithin wsX6_isWithin cX6_isWithin 3 (some .boolean) 3 := ⟨_, gX6_of_X6_isWithin, rfl, hdX6_isWithin.2⟩
variable {p : Program} {l : Launch} {e : Env} {s : State} {m : MethodId} {args : Array Value} {below : List Frame} {meth : Method} {c : Code} {A : Nat → Prop} {G : Gt} {a_eb a_desk a_desk_boxes a_desk_boxes_a a_kept a_tape a_text a_plan a_mat a_desk_words a_desk_weeks a_desk_routes a_desk_offers a_desk_wants a_desk_leaves a_desk_leases a_desk_uses : Nat} {isKept : Int32} {planStands : Int32} {today : Int32} {lack : Int32} {rate : Int32} {free : Int32} {boxes_r : Int32} {boxes_f : (Nat → Int32)} {res : Int32}
set_option maxHeartbeats 4000000 in
set_option maxRecDepth 100000 in
theorem k0X6_of {l : Launch} (G : Gt) (a_eb a_desk a_desk_boxes a_desk_boxes_a a_kept a_tape a_text a_plan a_mat a_desk_words a_desk_weeks a_desk_routes a_desk_offers a_desk_wants a_desk_leaves a_desk_leases a_desk_uses : Nat) (v1 : Int32) (v2 : Int32) (isKept : Int32) (planStands : Int32) (today : Int32) (lack : Int32) (rate : Int32) (free : Int32) (boxes_r : Int32) (boxes_f : (Nat → Int32)) {res : Int32} (h : fX6_of v1 v2 boxes_r boxes_f = some res) : CtI G l yX6_of wsX6_of rmX6_of [.ref a_eb, .int v1, .int v2] (wX6_of G a_eb a_desk a_desk_boxes a_desk_boxes_a a_kept a_tape a_text a_plan a_mat a_desk_words a_desk_weeks a_desk_routes a_desk_offers a_desk_wants a_desk_leaves a_desk_leases a_desk_uses isKept planStands today lack rate free boxes_r boxes_f) res (wX6_of G a_eb a_desk a_desk_boxes a_desk_boxes_a a_kept a_tape a_text a_plan a_mat a_desk_words a_desk_weeks a_desk_routes a_desk_offers a_desk_wants a_desk_leaves a_desk_leases a_desk_uses isKept planStands today lack rate free boxes_r boxes_f) := by
  refine CtI.mk (cc := cX6_of) (maxL := 3) (ret := (some .int)) (own := RX6) (by decide) rfl rfl (Nat.le_of_ble_eq_true rfl) ?_
  intro p e s m below meth c A X ls hl hW
  obtain ⟨hx, hb, -⟩ := id X.1
  have hl : lv_has ls 3 [(0, .ref a_eb), (1, .int v1), (2, .int v2)] := hl
  generalize hH : s.heap = H at hW ⊢
  generalize hLo : ([] : List Loc) = locs at hW ⊢
  rw [fX6_of] at h
  refine lv_aload_n hx hb dX6_of_0 rfl (lv_at hl 0 rfl) ?_
  refine g_get X hW eX6_of_12 0 rfl rfl dX6_of_1 ?_
  refine g_get X hW eX6_of_82 1 rfl rfl dX6_of_4 ?_
  refine lv_iload_n hx hb dX6_of_7 rfl (lv_at hl 1 rfl) ?_
  obtain ⟨r5, hq, h⟩ := bn1_some h
  refine g_cvi X hW (As := [.int v1]) (ws' := (wX6_of G a_eb a_desk a_desk_boxes a_desk_boxes_a a_kept a_tape a_text a_plan a_mat a_desk_words a_desk_weeks a_desk_routes a_desk_offers a_desk_wants a_desk_leaves a_desk_leases a_desk_uses isKept planStands today lack rate free boxes_r boxes_f)) ckX6_of_X4_has_110 (kcX4_has (l := l) G a_desk_boxes a_desk_boxes_a v1 (9 : Int32) (24 : Int32) boxes_r hq) ⟨rfl, rfl, Nat.le_of_ble_eq_true rfl, Nat.le_of_ble_eq_true rfl⟩ [2] rfl rfl rfl rfl rfl rfl rfl hl.1 (Nat.le_of_ble_eq_true rfl) ⟨Nat.zero_le _, Nat.zero_le _⟩ dX6_of_8 (fun H locs hW => ?_)
  refine lv_if_eq (tgt := 24) hx hb dX6_of_11 (by decide) (fun c6 => ?_) (fun c6 => ?_)
  · have h := (if_pos c6).symm.trans h
    refine lv_iconst hx hb dX6_of_24 qI_m1 ?_
    obtain rfl := Option.some.inj h
    exact g_iret X hW dX6_of_25
  · have h := (if_neg c6).symm.trans h
    refine lv_iload_n hx hb dX6_of_14 rfl (lv_at hl 2 rfl) ?_
    refine lv_iconst hx hb dX6_of_15 qI_0 ?_
    refine lv_bipush hx hb dX6_of_16 qB_6 ?_
    obtain ⟨r12, hq, h⟩ := bn1_some h
    refine g_csi X hW (As := [.int v2, .int (0 : Int32), .int (6 : Int32)]) (ws' := (wX6_of G a_eb a_desk a_desk_boxes a_desk_boxes_a a_kept a_tape a_text a_plan a_mat a_desk_words a_desk_weeks a_desk_routes a_desk_offers a_desk_wants a_desk_leaves a_desk_leases a_desk_uses isKept planStands today lack rate free boxes_r boxes_f)) ckX6_of_X6_isWithin_54 (kcX6_isWithin (l := l) G v2 (0 : Int32) (6 : Int32) hq) ⟨rfl, rfl, Nat.le_of_ble_eq_true rfl, Nat.le_of_ble_eq_true rfl⟩ [] rfl rfl rfl rfl rfl rfl hl.1 (Nat.le_of_ble_eq_true rfl) ⟨Nat.zero_le _, Nat.zero_le _⟩ dX6_of_18 (fun H locs hW => ?_)
    refine lv_if_ne (tgt := 26) hx hb dX6_of_21 (by decide) (fun c13 => ?_) (fun c13 => ?_)
    · have h := (if_neg c13).symm.trans h
      refine lv_aload_n hx hb dX6_of_26 rfl (lv_at hl 0 rfl) ?_
      refine g_get X hW eX6_of_12 0 rfl rfl dX6_of_27 ?_
      refine g_get X hW eX6_of_82 1 rfl rfl dX6_of_30 ?_
      refine lv_iload_n hx hb dX6_of_33 rfl (lv_at hl 1 rfl) ?_
      refine lv_iload_n hx hb dX6_of_34 rfl (lv_at hl 2 rfl) ?_
      obtain ⟨r19, hq, h⟩ := bn1_some h
      refine g_cvi X hW (As := [.int v1, .int v2]) (ws' := (wX6_of G a_eb a_desk a_desk_boxes a_desk_boxes_a a_kept a_tape a_text a_plan a_mat a_desk_words a_desk_weeks a_desk_routes a_desk_offers a_desk_wants a_desk_leaves a_desk_leases a_desk_uses isKept planStands today lack rate free boxes_r boxes_f)) ckX6_of_X4_cell_113 (kcX4_cell (l := l) G a_desk_boxes a_desk_boxes_a v1 v2 (9 : Int32) (24 : Int32) boxes_r 216 boxes_f hq) ⟨rfl, rfl, Nat.le_of_ble_eq_true rfl, Nat.le_of_ble_eq_true rfl⟩ [2, 3] rfl rfl rfl rfl rfl rfl rfl hl.1 (Nat.le_of_ble_eq_true rfl) ⟨Nat.zero_le _, Nat.zero_le _⟩ dX6_of_35 (fun H locs hW => ?_)
      obtain rfl := Option.some.inj h
      exact g_iret X hW dX6_of_38
    · have h := (if_pos c13).symm.trans h
      refine lv_iconst hx hb dX6_of_24 qI_m1 ?_
      obtain rfl := Option.some.inj h
      exact g_iret X hW dX6_of_25
theorem kcX6_of {l : Launch} (G : Gt) (a_eb a_desk a_desk_boxes a_desk_boxes_a a_kept a_tape a_text a_plan a_mat a_desk_words a_desk_weeks a_desk_routes a_desk_offers a_desk_wants a_desk_leaves a_desk_leases a_desk_uses : Nat) (v1 : Int32) (v2 : Int32) (isKept : Int32) (planStands : Int32) (today : Int32) (lack : Int32) (rate : Int32) (free : Int32) (boxes_r : Int32) (boxes_f : (Nat → Int32)) {r : Int32}  (h : fX6_of v1 v2 boxes_r boxes_f = some r) : CtI G l yX6_of wsX6_of rmX6_of [.ref a_eb, .int v1, .int v2] (wX6_of G a_eb a_desk a_desk_boxes a_desk_boxes_a a_kept a_tape a_text a_plan a_mat a_desk_words a_desk_weeks a_desk_routes a_desk_offers a_desk_wants a_desk_leaves a_desk_leases a_desk_uses isKept planStands today lack rate free boxes_r boxes_f) r (wX6_of G a_eb a_desk a_desk_boxes a_desk_boxes_a a_kept a_tape a_text a_plan a_mat a_desk_words a_desk_weeks a_desk_routes a_desk_offers a_desk_wants a_desk_leaves a_desk_leases a_desk_uses isKept planStands today lack rate free boxes_r boxes_f) := k0X6_of G a_eb a_desk a_desk_boxes a_desk_boxes_a a_kept a_tape a_text a_plan a_mat a_desk_words a_desk_weeks a_desk_routes a_desk_offers a_desk_wants a_desk_leaves a_desk_leases a_desk_uses v1 v2 isKept planStands today lack rate free boxes_r boxes_f h
end MX6_of
/-! EmptyBoxes.isDay -/
section MX6_isDay
theorem hdX6_isDay : yX6_isDay.cls = RX6 ∧ yX6_isDay.cls ≠ "java/lang/invoke/MethodHandle" ∧ yX6_isDay.cls ≠ "java/lang/invoke/VarHandle" ∧ (parseMethodDescriptor yX6_isDay.desc).map (fun d => d.parameters.length) = some 1 := by decide +kernel
abbrev rmX6_isDay : Room := { frames := 1, cells := 0, slots := 0, locals := 22 }
theorem ckX6_isDay_X6_isWithin_54 : CkS wsX6_isDay RX6 54 yX6_isWithin wsX6_isWithin cX6_isWithin 3 (some .boolean) 3 := ⟨_, gX6_isDay_X6_isWithin, rfl, hdX6_isWithin.2⟩
variable {p : Program} {l : Launch} {e : Env} {s : State} {m : MethodId} {args : Array Value} {below : List Frame} {meth : Method} {c : Code} {A : Nat → Prop} {G : Gt} {res : Int32}
set_option maxHeartbeats 4000000 in
set_option maxRecDepth 100000 in
theorem k0X6_isDay {l : Launch} (G : Gt) (v0 : Int32)  {res : Int32} (h : fX6_isDay v0 = some res) : CtI G l yX6_isDay wsX6_isDay rmX6_isDay [.int v0] ([] : va_W) res ([] : va_W) := by
  refine CtI.mk (cc := cX6_isDay) (maxL := 1) (ret := (some .boolean)) (own := RX6) (by decide) rfl rfl (Nat.le_of_ble_eq_true rfl) ?_
  intro p e s m below meth c A X ls hl hW
  obtain ⟨hx, hb, -⟩ := id X.1
  have hl : lv_has ls 1 [(0, .int v0)] := hl
  generalize hH : s.heap = H at hW ⊢
  generalize hLo : ([] : List Loc) = locs at hW ⊢
  rw [fX6_isDay] at h
  refine lv_iload_n hx hb dX6_isDay_0 rfl (lv_at hl 0 rfl) ?_
  refine lv_iconst hx hb dX6_isDay_1 qI_0 ?_
  refine lv_sipush hx hb dX6_isDay_2 qS_200 ?_
  obtain ⟨r4, hq, h⟩ := bn1_some h
  refine g_csi X hW (As := [.int v0, .int (0 : Int32), .int (200 : Int32)]) (ws' := ([] : va_W)) ckX6_isDay_X6_isWithin_54 (kcX6_isWithin (l := l) G v0 (0 : Int32) (200 : Int32) hq) ⟨rfl, rfl, Nat.le_of_ble_eq_true rfl, Nat.le_of_ble_eq_true rfl⟩ [] rfl rfl rfl rfl rfl rfl hl.1 (Nat.le_of_ble_eq_true rfl) ⟨Nat.zero_le _, Nat.zero_le _⟩ dX6_isDay_5 (fun H locs hW => ?_)
  obtain ⟨g5, h⟩ := gd_some h
  obtain rfl := Option.some.inj h
  exact g_zret X hW g5 dX6_isDay_8
theorem kcX6_isDay {l : Launch} (G : Gt) (v0 : Int32)  {r : Int32}  (h : fX6_isDay v0 = some r) : CtI G l yX6_isDay wsX6_isDay rmX6_isDay [.int v0] ([] : va_W) r ([] : va_W) := k0X6_isDay G v0 h
end MX6_isDay
/-! EmptyBoxes.isPastDay -/
section MX6_isPastDay
theorem hdX6_isPastDay : yX6_isPastDay.cls = RX6 ∧ yX6_isPastDay.cls ≠ "java/lang/invoke/MethodHandle" ∧ yX6_isPastDay.cls ≠ "java/lang/invoke/VarHandle" ∧ (parseMethodDescriptor yX6_isPastDay.desc).map (fun d => d.parameters.length) = some 1 := by decide +kernel
abbrev wX6_isPastDay (G : Gt) (a_eb a_desk a_kept a_tape a_text a_plan a_mat a_desk_boxes a_desk_words a_desk_weeks a_desk_routes a_desk_offers a_desk_wants a_desk_leaves a_desk_leases a_desk_uses : Nat) (isKept : Int32) (planStands : Int32) (today : Int32) (lack : Int32) (rate : Int32) (free : Int32) : va_W := [(a_eb, .inr (6, [.ref a_desk, .ref a_kept, .ref a_tape, .ref a_text, .ref a_plan, .ref a_mat, .int isKept, .int planStands])), (a_desk, .inr (0, [.ref a_desk_boxes, .ref a_desk_words, .ref a_desk_weeks, .ref a_desk_routes, .ref a_desk_offers, .ref a_desk_wants, .ref a_desk_leaves, .ref a_desk_leases, .ref a_desk_uses, .int today, .int lack, .int rate, .int free]))]
abbrev rmX6_isPastDay : Room := { frames := 1, cells := 0, slots := 0, locals := 22 }
theorem iX6_isPastDay_X0 : ∀ w ∈ wsX00, w ∈ wsX6_isPastDay := by decide +kernel
theorem iX6_isPastDay_X6 : ∀ w ∈ wsX60, w ∈ wsX6_isPastDay := by decide +kernel
theorem eX6_isPastDay_12 : Fk wsX6_isPastDay RX6 12 6 0 := ⟨RX6, TX6, 8, rfl, iX6_isPastDay_X6, by decide, by decide +kernel⟩
theorem eX6_isPastDay_58 : Fk wsX6_isPastDay RX6 58 0 9 := ⟨RX0, TX0, 13, rfl, iX6_isPastDay_X0, by decide, by decide +kernel⟩
theorem ckX6_isPastDay_X6_isWithin_54 : CkS wsX6_isPastDay RX6 54 yX6_isWithin wsX6_isWithin cX6_isWithin 3 (some .boolean) 3 := ⟨_, gX6_isPastDay_X6_isWithin, rfl, hdX6_isWithin.2⟩
variable {p : Program} {l : Launch} {e : Env} {s : State} {m : MethodId} {args : Array Value} {below : List Frame} {meth : Method} {c : Code} {A : Nat → Prop} {G : Gt} {a_eb a_desk a_kept a_tape a_text a_plan a_mat a_desk_boxes a_desk_words a_desk_weeks a_desk_routes a_desk_offers a_desk_wants a_desk_leaves a_desk_leases a_desk_uses : Nat} {isKept : Int32} {planStands : Int32} {today : Int32} {lack : Int32} {rate : Int32} {free : Int32} {res : Int32}
set_option maxHeartbeats 4000000 in
set_option maxRecDepth 100000 in
theorem k0X6_isPastDay {l : Launch} (G : Gt) (a_eb a_desk a_kept a_tape a_text a_plan a_mat a_desk_boxes a_desk_words a_desk_weeks a_desk_routes a_desk_offers a_desk_wants a_desk_leaves a_desk_leases a_desk_uses : Nat) (v1 : Int32) (isKept : Int32) (planStands : Int32) (today : Int32) (lack : Int32) (rate : Int32) (free : Int32) {res : Int32} (h : fX6_isPastDay v1 today = some res) : CtI G l yX6_isPastDay wsX6_isPastDay rmX6_isPastDay [.ref a_eb, .int v1] (wX6_isPastDay G a_eb a_desk a_kept a_tape a_text a_plan a_mat a_desk_boxes a_desk_words a_desk_weeks a_desk_routes a_desk_offers a_desk_wants a_desk_leaves a_desk_leases a_desk_uses isKept planStands today lack rate free) res (wX6_isPastDay G a_eb a_desk a_kept a_tape a_text a_plan a_mat a_desk_boxes a_desk_words a_desk_weeks a_desk_routes a_desk_offers a_desk_wants a_desk_leaves a_desk_leases a_desk_uses isKept planStands today lack rate free) := by
  refine CtI.mk (cc := cX6_isPastDay) (maxL := 2) (ret := (some .boolean)) (own := RX6) (by decide) rfl rfl (Nat.le_of_ble_eq_true rfl) ?_
  intro p e s m below meth c A X ls hl hW
  obtain ⟨hx, hb, -⟩ := id X.1
  have hl : lv_has ls 2 [(0, .ref a_eb), (1, .int v1)] := hl
  generalize hH : s.heap = H at hW ⊢
  generalize hLo : ([] : List Loc) = locs at hW ⊢
  rw [fX6_isPastDay] at h
  refine lv_iload_n hx hb dX6_isPastDay_0 rfl (lv_at hl 1 rfl) ?_
  refine lv_iconst hx hb dX6_isPastDay_1 qI_0 ?_
  refine lv_aload_n hx hb dX6_isPastDay_2 rfl (lv_at hl 0 rfl) ?_
  refine g_get X hW eX6_isPastDay_12 0 rfl rfl dX6_isPastDay_3 ?_
  refine g_get X hW eX6_isPastDay_58 1 rfl rfl dX6_isPastDay_6 ?_
  obtain ⟨r6, hq, h⟩ := bn1_some h
  refine g_csi X hW (As := [.int v1, .int (0 : Int32), .int today]) (ws' := (wX6_isPastDay G a_eb a_desk a_kept a_tape a_text a_plan a_mat a_desk_boxes a_desk_words a_desk_weeks a_desk_routes a_desk_offers a_desk_wants a_desk_leaves a_desk_leases a_desk_uses isKept planStands today lack rate free)) ckX6_isPastDay_X6_isWithin_54 (kcX6_isWithin (l := l) G v1 (0 : Int32) today hq) ⟨rfl, rfl, Nat.le_of_ble_eq_true rfl, Nat.le_of_ble_eq_true rfl⟩ [] rfl rfl rfl rfl rfl rfl hl.1 (Nat.le_of_ble_eq_true rfl) ⟨Nat.zero_le _, Nat.zero_le _⟩ dX6_isPastDay_9 (fun H locs hW => ?_)
  obtain ⟨g7, h⟩ := gd_some h
  obtain rfl := Option.some.inj h
  exact g_zret X hW g7 dX6_isPastDay_12
theorem kcX6_isPastDay {l : Launch} (G : Gt) (a_eb a_desk a_kept a_tape a_text a_plan a_mat a_desk_boxes a_desk_words a_desk_weeks a_desk_routes a_desk_offers a_desk_wants a_desk_leaves a_desk_leases a_desk_uses : Nat) (v1 : Int32) (isKept : Int32) (planStands : Int32) (today : Int32) (lack : Int32) (rate : Int32) (free : Int32) {r : Int32}  (h : fX6_isPastDay v1 today = some r) : CtI G l yX6_isPastDay wsX6_isPastDay rmX6_isPastDay [.ref a_eb, .int v1] (wX6_isPastDay G a_eb a_desk a_kept a_tape a_text a_plan a_mat a_desk_boxes a_desk_words a_desk_weeks a_desk_routes a_desk_offers a_desk_wants a_desk_leaves a_desk_leases a_desk_uses isKept planStands today lack rate free) r (wX6_isPastDay G a_eb a_desk a_kept a_tape a_text a_plan a_mat a_desk_boxes a_desk_words a_desk_weeks a_desk_routes a_desk_offers a_desk_wants a_desk_leaves a_desk_leases a_desk_uses isKept planStands today lack rate free) := k0X6_isPastDay G a_eb a_desk a_kept a_tape a_text a_plan a_mat a_desk_boxes a_desk_words a_desk_weeks a_desk_routes a_desk_offers a_desk_wants a_desk_leaves a_desk_leases a_desk_uses v1 isKept planStands today lack rate free h
end MX6_isPastDay
/-! EmptyBoxes.isWithLine -/
section MX6_isWithLine
theorem hdX6_isWithLine : yX6_isWithLine.cls = RX6 ∧ yX6_isWithLine.cls ≠ "java/lang/invoke/MethodHandle" ∧ yX6_isWithLine.cls ≠ "java/lang/invoke/VarHandle" ∧ (parseMethodDescriptor yX6_isWithLine.desc).map (fun d => d.parameters.length) = some 1 := by decide +kernel
abbrev wX6_isWithLine (G : Gt) (a_eb a_desk a_desk_boxes a_desk_boxes_a a_kept a_tape a_text a_plan a_mat a_desk_words a_desk_weeks a_desk_routes a_desk_offers a_desk_wants a_desk_leaves a_desk_leases a_desk_uses : Nat) (isKept : Int32) (planStands : Int32) (today : Int32) (lack : Int32) (rate : Int32) (free : Int32) (boxes_r : Int32) (boxes_f : (Nat → Int32)) : va_W := [(a_eb, .inr (6, [.ref a_desk, .ref a_kept, .ref a_tape, .ref a_text, .ref a_plan, .ref a_mat, .int isKept, .int planStands])), (a_desk, .inr (0, [.ref a_desk_boxes, .ref a_desk_words, .ref a_desk_weeks, .ref a_desk_routes, .ref a_desk_offers, .ref a_desk_wants, .ref a_desk_leaves, .ref a_desk_leases, .ref a_desk_uses, .int today, .int lack, .int rate, .int free])), (a_desk_boxes, .inr (4, [.ref a_desk_boxes_a, .int (9 : Int32), .int (24 : Int32), .int boxes_r])), (a_desk_boxes_a, .inl (G.2.1, 216, .inl boxes_f))]
abbrev rmX6_isWithLine : Room := { frames := 2, cells := 0, slots := 0, locals := 44 }
theorem iX6_isWithLine_X0 : ∀ w ∈ wsX00, w ∈ wsX6_isWithLine := by decide +kernel
theorem iX6_isWithLine_X6 : ∀ w ∈ wsX60, w ∈ wsX6_isWithLine := by decide +kernel
theorem eX6_isWithLine_12 : Fk wsX6_isWithLine RX6 12 6 0 := ⟨RX6, TX6, 8, rfl, iX6_isWithLine_X6, by decide, by decide +kernel⟩
theorem eX6_isWithLine_82 : Fk wsX6_isWithLine RX6 82 0 0 := ⟨RX0, TX0, 13, rfl, iX6_isWithLine_X0, by decide, by decide +kernel⟩
theorem ckX6_isWithLine_X4_cell_113 : CkV wsX6_isWithLine RX6 113 yX4_cell wsX4_cell cX4_cell 3 (some .int) 2 4 := ⟨RX4, TX4, 4, _, rfl, gX6_isWithLine_X4_cell, rfl, hdX4_cell⟩
variable {p : Program} {l : Launch} {e : Env} {s : State} {m : MethodId} {args : Array Value} {below : List Frame} {meth : Method} {c : Code} {A : Nat → Prop} {G : Gt} {a_eb a_desk a_desk_boxes a_desk_boxes_a a_kept a_tape a_text a_plan a_mat a_desk_words a_desk_weeks a_desk_routes a_desk_offers a_desk_wants a_desk_leaves a_desk_leases a_desk_uses : Nat} {isKept : Int32} {planStands : Int32} {today : Int32} {lack : Int32} {rate : Int32} {free : Int32} {boxes_r : Int32} {boxes_f : (Nat → Int32)} {res : Int32}
set_option maxHeartbeats 4000000 in
set_option maxRecDepth 100000 in
theorem k0X6_isWithLine {l : Launch} (G : Gt) (a_eb a_desk a_desk_boxes a_desk_boxes_a a_kept a_tape a_text a_plan a_mat a_desk_words a_desk_weeks a_desk_routes a_desk_offers a_desk_wants a_desk_leaves a_desk_leases a_desk_uses : Nat) (v1 : Int32) (isKept : Int32) (planStands : Int32) (today : Int32) (lack : Int32) (rate : Int32) (free : Int32) (boxes_r : Int32) (boxes_f : (Nat → Int32)) {res : Int32} (h : fX6_isWithLine v1 boxes_r boxes_f = some res) : CtI G l yX6_isWithLine wsX6_isWithLine rmX6_isWithLine [.ref a_eb, .int v1] (wX6_isWithLine G a_eb a_desk a_desk_boxes a_desk_boxes_a a_kept a_tape a_text a_plan a_mat a_desk_words a_desk_weeks a_desk_routes a_desk_offers a_desk_wants a_desk_leaves a_desk_leases a_desk_uses isKept planStands today lack rate free boxes_r boxes_f) res (wX6_isWithLine G a_eb a_desk a_desk_boxes a_desk_boxes_a a_kept a_tape a_text a_plan a_mat a_desk_words a_desk_weeks a_desk_routes a_desk_offers a_desk_wants a_desk_leaves a_desk_leases a_desk_uses isKept planStands today lack rate free boxes_r boxes_f) := by
  refine CtI.mk (cc := cX6_isWithLine) (maxL := 2) (ret := (some .boolean)) (own := RX6) (by decide) rfl rfl (Nat.le_of_ble_eq_true rfl) ?_
  intro p e s m below meth c A X ls hl hW
  obtain ⟨hx, hb, -⟩ := id X.1
  have hl : lv_has ls 2 [(0, .ref a_eb), (1, .int v1)] := hl
  generalize hH : s.heap = H at hW ⊢
  generalize hLo : ([] : List Loc) = locs at hW ⊢
  rw [fX6_isWithLine] at h
  refine lv_aload_n hx hb dX6_isWithLine_0 rfl (lv_at hl 0 rfl) ?_
  refine g_get X hW eX6_isWithLine_12 0 rfl rfl dX6_isWithLine_1 ?_
  refine g_get X hW eX6_isWithLine_82 1 rfl rfl dX6_isWithLine_4 ?_
  refine lv_iload_n hx hb dX6_isWithLine_7 rfl (lv_at hl 1 rfl) ?_
  refine lv_iconst hx hb dX6_isWithLine_8 qI_5 ?_
  obtain ⟨r6, hq, h⟩ := bn1_some h
  refine g_cvi X hW (As := [.int v1, .int (5 : Int32)]) (ws' := (wX6_isWithLine G a_eb a_desk a_desk_boxes a_desk_boxes_a a_kept a_tape a_text a_plan a_mat a_desk_words a_desk_weeks a_desk_routes a_desk_offers a_desk_wants a_desk_leaves a_desk_leases a_desk_uses isKept planStands today lack rate free boxes_r boxes_f)) ckX6_isWithLine_X4_cell_113 (kcX4_cell (l := l) G a_desk_boxes a_desk_boxes_a v1 (5 : Int32) (9 : Int32) (24 : Int32) boxes_r 216 boxes_f hq) ⟨rfl, rfl, Nat.le_of_ble_eq_true rfl, Nat.le_of_ble_eq_true rfl⟩ [2, 3] rfl rfl rfl rfl rfl rfl rfl hl.1 (Nat.le_of_ble_eq_true rfl) ⟨Nat.zero_le _, Nat.zero_le _⟩ dX6_isWithLine_9 (fun H locs hW => ?_)
  refine lv_if_ne (tgt := 19) hx hb dX6_isWithLine_12 (by decide) (fun c7 => ?_) (fun c7 => ?_)
  · have h := (if_neg c7).symm.trans h
    refine lv_iconst hx hb dX6_isWithLine_19 qI_0 ?_
    obtain rfl := Option.some.inj h
    exact g_zret X hW rfl dX6_isWithLine_20
  · have h := (if_pos c7).symm.trans h
    refine lv_iconst hx hb dX6_isWithLine_15 qI_1 ?_
    refine lv_goto (tgt := 20) hx hb dX6_isWithLine_16 (by decide) ?_
    obtain rfl := Option.some.inj h
    exact g_zret X hW rfl dX6_isWithLine_20
theorem kcX6_isWithLine {l : Launch} (G : Gt) (a_eb a_desk a_desk_boxes a_desk_boxes_a a_kept a_tape a_text a_plan a_mat a_desk_words a_desk_weeks a_desk_routes a_desk_offers a_desk_wants a_desk_leaves a_desk_leases a_desk_uses : Nat) (v1 : Int32) (isKept : Int32) (planStands : Int32) (today : Int32) (lack : Int32) (rate : Int32) (free : Int32) (boxes_r : Int32) (boxes_f : (Nat → Int32)) {r : Int32}  (h : fX6_isWithLine v1 boxes_r boxes_f = some r) : CtI G l yX6_isWithLine wsX6_isWithLine rmX6_isWithLine [.ref a_eb, .int v1] (wX6_isWithLine G a_eb a_desk a_desk_boxes a_desk_boxes_a a_kept a_tape a_text a_plan a_mat a_desk_words a_desk_weeks a_desk_routes a_desk_offers a_desk_wants a_desk_leaves a_desk_leases a_desk_uses isKept planStands today lack rate free boxes_r boxes_f) r (wX6_isWithLine G a_eb a_desk a_desk_boxes a_desk_boxes_a a_kept a_tape a_text a_plan a_mat a_desk_words a_desk_weeks a_desk_routes a_desk_offers a_desk_wants a_desk_leaves a_desk_leases a_desk_uses isKept planStands today lack rate free boxes_r boxes_f) := k0X6_isWithLine G a_eb a_desk a_desk_boxes a_desk_boxes_a a_kept a_tape a_text a_plan a_mat a_desk_words a_desk_weeks a_desk_routes a_desk_offers a_desk_wants a_desk_leaves a_desk_leases a_desk_uses v1 isKept planStands today lack rate free boxes_r boxes_f h
end MX6_isWithLine
/-! EmptyBoxes.word -/
section MX6_word
theorem hdX6_word : yX6_word.cls = RX6 ∧ yX6_word.cls ≠ "java/lang/invoke/MethodHandle" ∧ yX6_word.cls ≠ "java/lang/invoke/VarHandle" ∧ (parseMethodDescriptor yX6_word.desc).map (fun d => d.parameters.length) = some 4 := by decide +kernel
abbrev wX6_word (G : Gt) (a_eb a_desk a_desk_boxes a_desk_boxes_a a_desk_words a_desk_words_a a_kept a_tape a_text a_plan a_mat a_desk_weeks a_desk_routes a_desk_offers a_desk_wants a_desk_leaves a_desk_leases a_desk_uses : Nat) (isKept : Int32) (planStands : Int32) (today : Int32) (lack : Int32) (rate : Int32) (free : Int32) (boxes_r : Int32) (boxes_f : (Nat → Int32)) (words_r : Int32) (words_f : (Nat → Int32)) : va_W := [(a_eb, .inr (6, [.ref a_desk, .ref a_kept, .ref a_tape, .ref a_text, .ref a_plan, .ref a_mat, .int isKept, .int planStands])), (a_desk, .inr (0, [.ref a_desk_boxes, .ref a_desk_words, .ref a_desk_weeks, .ref a_desk_routes, .ref a_desk_offers, .ref a_desk_wants, .ref a_desk_leaves, .ref a_desk_leases, .ref a_desk_uses, .int today, .int lack, .int rate, .int free])), (a_desk_boxes, .inr (4, [.ref a_desk_boxes_a, .int (9 : Int32), .int (24 : Int32), .int boxes_r])), (a_desk_boxes_a, .inl (G.2.1, 216, .inl boxes_f)), (a_desk_words, .inr (4, [.ref a_desk_words_a, .int (5 : Int32), .int (60 : Int32), .int words_r])), (a_desk_words_a, .inl (G.2.1, 300, .inl words_f))]
abbrev rmX6_word : Room := { frames := 3, cells := 0, slots := 0, locals := 65 }
theorem iX6_word_X0 : ∀ w ∈ wsX00, w ∈ wsX6_word := by decide +kernel
theorem iX6_word_X6 : ∀ w ∈ wsX60, w ∈ wsX6_word := by decide +kernel
theorem eX6_word_12 : Fk wsX6_word RX6 12 6 0 := ⟨RX6, TX6, 8, rfl, iX6_word_X6, by decide, by decide +kernel⟩
theorem eX6_word_132 : Fk wsX6_word RX6 132 0 1 := ⟨RX0, TX0, 13, rfl, iX6_word_X0, by decide, by decide +kernel⟩
theorem eX6_word_58 : Fk wsX6_word RX6 58 0 9 := ⟨RX0, TX0, 13, rfl, iX6_word_X0, by decide, by decide +kernel⟩
theorem eX6_word_82 : Fk wsX6_word RX6 82 0 0 := ⟨RX0, TX0, 13, rfl, iX6_word_X0, by decide, by decide +kernel⟩
theorem ckX6_word_X4_grow_92 : CkV wsX6_word RX6 92 yX4_grow wsX4_grow cX4_grow 1 (some .int) 0 4 := ⟨RX4, TX4, 4, _, rfl, gX6_word_X4_grow, rfl, hdX4_grow⟩
theorem ckX6_word_X4_has_110 : CkV wsX6_word RX6 110 yX4_has wsX4_has cX4_has 2 (some .boolean) 1 4 := ⟨RX4, TX4, 4, _, rfl, gX6_word_X4_has, rfl, hdX4_has⟩
theorem ckX6_word_X4_isFull_86 : CkV wsX6_word RX6 86 yX4_isFull wsX4_isFull cX4_isFull 1 (some .boolean) 0 4 := ⟨RX4, TX4, 4, _, rfl, gX6_word_X4_isFull, rfl, hdX4_isFull⟩
theorem ckX6_word_X4_put_96 : CkV wsX6_word RX6 96 yX4_put wsX4_put cX4_put 4 none 3 4 := ⟨RX4, TX4, 4, _, rfl, gX6_word_X4_put, rfl, hdX4_put⟩
theorem ckX6_word_X6_isPastDay_123 : CkV wsX6_word RX6 123 yX6_isPastDay wsX6_isPastDay cX6_isPastDay 2 (some .boolean) 1 6 := ⟨RX6, TX6, 8, _, rfl, gX6_word_X6_isPastDay, rfl, hdX6_isPastDay⟩
theorem ckX6_word_X6_isPlace_126 : CkS wsX6_word RX6 126 yX6_isPlace wsX6_isPlace cX6_isPlace 1 (some .boolean) 1 := ⟨_, gX6_word_X6_isPlace, rfl, hdX6_isPlace.2⟩
theorem ckX6_word_X6_isWithLine_129 : CkV wsX6_word RX6 129 yX6_isWithLine wsX6_isWithLine cX6_isWithLine 2 (some .boolean) 1 6 := ⟨RX6, TX6, 8, _, rfl, gX6_word_X6_isWithLine, rfl, hdX6_isWithLine⟩
theorem ckX6_word_X6_isWithin_54 : CkS wsX6_word RX6 54 yX6_isWithin wsX6_isWithin cX6_isWithin 3 (some .boolean) 3 := ⟨_, gX6_word_X6_isWithin, rfl, hdX6_isWithin.2⟩
variable {p : Program} {l : Launch} {e : Env} {s : State} {m : MethodId} {args : Array Value} {below : List Frame} {meth : Method} {c : Code} {A : Nat → Prop} {G : Gt} {a_eb a_desk a_desk_boxes a_desk_boxes_a a_desk_words a_desk_words_a a_kept a_tape a_text a_plan a_mat a_desk_weeks a_desk_routes a_desk_offers a_desk_wants a_desk_leaves a_desk_leases a_desk_uses : Nat} {isKept : Int32} {planStands : Int32} {today : Int32} {lack : Int32} {rate : Int32} {free : Int32} {boxes_r : Int32} {boxes_f : (Nat → Int32)} {res : Int32 × Int32 × (Nat → Int32)}
set_option maxHeartbeats 4000000 in
set_option maxRecDepth 100000 in
theorem k0X6_word {l : Launch} (G : Gt) (a_eb a_desk a_desk_boxes a_desk_boxes_a a_desk_words a_desk_words_a a_kept a_tape a_text a_plan a_mat a_desk_weeks a_desk_routes a_desk_offers a_desk_wants a_desk_leaves a_desk_leases a_desk_uses : Nat) (v1 : Int32) (v2 : Int32) (v3 : Int32) (v4 : Int32) (isKept : Int32) (planStands : Int32) (today : Int32) (lack : Int32) (rate : Int32) (free : Int32) (boxes_r : Int32) (boxes_f : (Nat → Int32)) (words_r : Int32) (words_f : (Nat → Int32)) {res : Int32 × Int32 × (Nat → Int32)} (h : fX6_word v1 v2 v3 v4 today boxes_r boxes_f words_r words_f = some res) : CtI G l yX6_word wsX6_word rmX6_word [.ref a_eb, .int v1, .int v2, .int v3, .int v4] (wX6_word G a_eb a_desk a_desk_boxes a_desk_boxes_a a_desk_words a_desk_words_a a_kept a_tape a_text a_plan a_mat a_desk_weeks a_desk_routes a_desk_offers a_desk_wants a_desk_leaves a_desk_leases a_desk_uses isKept planStands today lack rate free boxes_r boxes_f words_r words_f) res.1 (wX6_word G a_eb a_desk a_desk_boxes a_desk_boxes_a a_desk_words a_desk_words_a a_kept a_tape a_text a_plan a_mat a_desk_weeks a_desk_routes a_desk_offers a_desk_wants a_desk_leaves a_desk_leases a_desk_uses isKept planStands today lack rate free boxes_r boxes_f res.2.1 res.2.2) := by
  refine CtI.mk (cc := cX6_word) (maxL := 6) (ret := (some .int)) (own := RX6) (by decide) rfl rfl (Nat.le_of_ble_eq_true rfl) ?_
  intro p e s m below meth c A X ls hl hW
  obtain ⟨hx, hb, -⟩ := id X.1
  have hl : lv_has ls 6 [(0, .ref a_eb), (1, .int v1), (2, .int v2), (3, .int v3), (4, .int v4)] := hl
  generalize hH : s.heap = H at hW ⊢
  generalize hLo : ([] : List Loc) = locs at hW ⊢
  rw [fX6_word] at h
  refine lv_aload_n hx hb dX6_word_0 rfl (lv_at hl 0 rfl) ?_
  refine g_get X hW eX6_word_12 0 rfl rfl dX6_word_1 ?_
  refine g_get X hW eX6_word_82 1 rfl rfl dX6_word_4 ?_
  refine lv_iload_n hx hb dX6_word_7 rfl (lv_at hl 1 rfl) ?_
  obtain ⟨r5, hq, h⟩ := bn1_some h
  refine g_cvi X hW (As := [.int v1]) (ws' := (wX6_word G a_eb a_desk a_desk_boxes a_desk_boxes_a a_desk_words a_desk_words_a a_kept a_tape a_text a_plan a_mat a_desk_weeks a_desk_routes a_desk_offers a_desk_wants a_desk_leaves a_desk_leases a_desk_uses isKept planStands today lack rate free boxes_r boxes_f words_r words_f)) ckX6_word_X4_has_110 (kcX4_has (l := l) G a_desk_boxes a_desk_boxes_a v1 (9 : Int32) (24 : Int32) boxes_r hq) ⟨rfl, rfl, Nat.le_of_ble_eq_true rfl, Nat.le_of_ble_eq_true rfl⟩ [2] rfl rfl rfl rfl rfl rfl rfl hl.1 (Nat.le_of_ble_eq_true rfl) ⟨Nat.zero_le _, Nat.zero_le _⟩ dX6_word_8 (fun H locs hW => ?_)
  refine lv_if_eq (tgt := 39) hx hb dX6_word_11 (by decide) (fun c6 => ?_) (fun c6 => ?_)
  · have h := (if_pos c6).symm.trans h
    refine lv_iconst hx hb dX6_word_39 qI_m1 ?_
    obtain rfl := Option.some.inj h
    exact g_iret X hW dX6_word_40
  · have h := (if_neg c6).symm.trans h
    refine lv_aload_n hx hb dX6_word_14 rfl (lv_at hl 0 rfl) ?_
    refine lv_iload_n hx hb dX6_word_15 rfl (lv_at hl 2 rfl) ?_
    obtain ⟨r11, hq, h⟩ := bn1_some h
    refine g_cvi X hW (As := [.int v2]) (ws' := (wX6_word G a_eb a_desk a_desk_boxes a_desk_boxes_a a_desk_words a_desk_words_a a_kept a_tape a_text a_plan a_mat a_desk_weeks a_desk_routes a_desk_offers a_desk_wants a_desk_leaves a_desk_leases a_desk_uses isKept planStands today lack rate free boxes_r boxes_f words_r words_f)) ckX6_word_X6_isPastDay_123 (kcX6_isPastDay (l := l) G a_eb a_desk a_kept a_tape a_text a_plan a_mat a_desk_boxes a_desk_words a_desk_weeks a_desk_routes a_desk_offers a_desk_wants a_desk_leaves a_desk_leases a_desk_uses v2 isKept planStands today lack rate free hq) ⟨rfl, rfl, Nat.le_of_ble_eq_true rfl, Nat.le_of_ble_eq_true rfl⟩ [0, 1] rfl rfl rfl rfl rfl rfl rfl hl.1 (Nat.le_of_ble_eq_true rfl) ⟨Nat.zero_le _, Nat.zero_le _⟩ dX6_word_16 (fun H locs hW => ?_)
    refine lv_if_eq (tgt := 39) hx hb dX6_word_19 (by decide) (fun c12 => ?_) (fun c12 => ?_)
    · have h := (if_pos c12).symm.trans h
      refine lv_iconst hx hb dX6_word_39 qI_m1 ?_
      obtain rfl := Option.some.inj h
      exact g_iret X hW dX6_word_40
    · have h := (if_neg c12).symm.trans h
      refine lv_iload_n hx hb dX6_word_22 rfl (lv_at hl 3 rfl) ?_
      obtain ⟨r16, hq, h⟩ := bn1_some h
      refine g_csi X hW (As := [.int v3]) (ws' := (wX6_word G a_eb a_desk a_desk_boxes a_desk_boxes_a a_desk_words a_desk_words_a a_kept a_tape a_text a_plan a_mat a_desk_weeks a_desk_routes a_desk_offers a_desk_wants a_desk_leaves a_desk_leases a_desk_uses isKept planStands today lack rate free boxes_r boxes_f words_r words_f)) ckX6_word_X6_isPlace_126 (kcX6_isPlace (l := l) G v3 hq) ⟨rfl, rfl, Nat.le_of_ble_eq_true rfl, Nat.le_of_ble_eq_true rfl⟩ [] rfl rfl rfl rfl rfl rfl hl.1 (Nat.le_of_ble_eq_true rfl) ⟨Nat.zero_le _, Nat.zero_le _⟩ dX6_word_23 (fun H locs hW => ?_)
      refine lv_if_eq (tgt := 39) hx hb dX6_word_26 (by decide) (fun c17 => ?_) (fun c17 => ?_)
      · have h := (if_pos c17).symm.trans h
        refine lv_iconst hx hb dX6_word_39 qI_m1 ?_
        obtain rfl := Option.some.inj h
        exact g_iret X hW dX6_word_40
      · have h := (if_neg c17).symm.trans h
        refine lv_iload hx hb dX6_word_29 (lv_at hl 4 rfl) ?_
        refine lv_iconst hx hb dX6_word_31 qI_0 ?_
        refine lv_iconst hx hb dX6_word_32 qI_1 ?_
        obtain ⟨r23, hq, h⟩ := bn1_some h
        refine g_csi X hW (As := [.int v4, .int (0 : Int32), .int (1 : Int32)]) (ws' := (wX6_word G a_eb a_desk a_desk_boxes a_desk_boxes_a a_desk_words a_desk_words_a a_kept a_tape a_text a_plan a_mat a_desk_weeks a_desk_routes a_desk_offers a_desk_wants a_desk_leaves a_desk_leases a_desk_uses isKept planStands today lack rate free boxes_r boxes_f words_r words_f)) ckX6_word_X6_isWithin_54 (kcX6_isWithin (l := l) G v4 (0 : Int32) (1 : Int32) hq) ⟨rfl, rfl, Nat.le_of_ble_eq_true rfl, Nat.le_of_ble_eq_true rfl⟩ [] rfl rfl rfl rfl rfl rfl hl.1 (Nat.le_of_ble_eq_true rfl) ⟨Nat.zero_le _, Nat.zero_le _⟩ dX6_word_33 (fun H locs hW => ?_)
        refine lv_if_ne (tgt := 41) hx hb dX6_word_36 (by decide) (fun c24 => ?_) (fun c24 => ?_)
        · have h := (if_neg c24).symm.trans h
          refine lv_aload_n hx hb dX6_word_41 rfl (lv_at hl 0 rfl) ?_
          refine lv_iload_n hx hb dX6_word_42 rfl (lv_at hl 1 rfl) ?_
          obtain ⟨r27, hq, h⟩ := bn1_some h
          refine g_cvi X hW (As := [.int v1]) (ws' := (wX6_word G a_eb a_desk a_desk_boxes a_desk_boxes_a a_desk_words a_desk_words_a a_kept a_tape a_text a_plan a_mat a_desk_weeks a_desk_routes a_desk_offers a_desk_wants a_desk_leaves a_desk_leases a_desk_uses isKept planStands today lack rate free boxes_r boxes_f words_r words_f)) ckX6_word_X6_isWithLine_129 (kcX6_isWithLine (l := l) G a_eb a_desk a_desk_boxes a_desk_boxes_a a_kept a_tape a_text a_plan a_mat a_desk_words a_desk_weeks a_desk_routes a_desk_offers a_desk_wants a_desk_leaves a_desk_leases a_desk_uses v1 isKept planStands today lack rate free boxes_r boxes_f hq) ⟨rfl, rfl, Nat.le_of_ble_eq_true rfl, Nat.le_of_ble_eq_true rfl⟩ [0, 1, 2, 3] rfl rfl rfl rfl rfl rfl rfl hl.1 (Nat.le_of_ble_eq_true rfl) ⟨Nat.zero_le _, Nat.zero_le _⟩ dX6_word_43 (fun H locs hW => ?_)
          refine lv_if_ne (tgt := 52) hx hb dX6_word_46 (by decide) (fun c28 => ?_) (fun c28 => ?_)
          · have h := (if_neg c28).symm.trans h
            refine lv_aload_n hx hb dX6_word_52 rfl (lv_at hl 0 rfl) ?_
            refine g_get X hW eX6_word_12 0 rfl rfl dX6_word_53 ?_
            refine g_get X hW eX6_word_132 1 rfl rfl dX6_word_56 ?_
            obtain ⟨r32, hq, h⟩ := bn1_some h
            refine g_cvi X hW (As := []) (ws' := (wX6_word G a_eb a_desk a_desk_boxes a_desk_boxes_a a_desk_words a_desk_words_a a_kept a_tape a_text a_plan a_mat a_desk_weeks a_desk_routes a_desk_offers a_desk_wants a_desk_leaves a_desk_leases a_desk_uses isKept planStands today lack rate free boxes_r boxes_f words_r words_f)) ckX6_word_X4_isFull_86 (kcX4_isFull (l := l) G a_desk_words a_desk_words_a (5 : Int32) (60 : Int32) words_r hq) ⟨rfl, rfl, Nat.le_of_ble_eq_true rfl, Nat.le_of_ble_eq_true rfl⟩ [4] rfl rfl rfl rfl rfl rfl rfl hl.1 (Nat.le_of_ble_eq_true rfl) ⟨Nat.zero_le _, Nat.zero_le _⟩ dX6_word_59 (fun H locs hW => ?_)
            refine lv_if_eq (tgt := 68) hx hb dX6_word_62 (by decide) (fun c33 => ?_) (fun c33 => ?_)
            · have h := (if_pos c33).symm.trans h
              refine lv_aload_n hx hb dX6_word_68 rfl (lv_at hl 0 rfl) ?_
              refine g_get X hW eX6_word_12 0 rfl rfl dX6_word_69 ?_
              refine g_get X hW eX6_word_132 1 rfl rfl dX6_word_72 ?_
              obtain ⟨r37, o37_tb_r, hq, h⟩ := bn2_some h
              refine g_cvi X hW (As := []) (ws' := (wX6_word G a_eb a_desk a_desk_boxes a_desk_boxes_a a_desk_words a_desk_words_a a_kept a_tape a_text a_plan a_mat a_desk_weeks a_desk_routes a_desk_offers a_desk_wants a_desk_leaves a_desk_leases a_desk_uses isKept planStands today lack rate free boxes_r boxes_f o37_tb_r words_f)) ckX6_word_X4_grow_92 (kcX4_grow (l := l) G a_desk_words a_desk_words_a (5 : Int32) (60 : Int32) words_r hq) ⟨rfl, rfl, Nat.le_of_ble_eq_true rfl, Nat.le_of_ble_eq_true rfl⟩ [4] rfl rfl rfl rfl rfl rfl rfl hl.1 (Nat.le_of_ble_eq_true rfl) ⟨Nat.zero_le _, Nat.zero_le _⟩ dX6_word_75 (fun H locs hW => ?_)
              refine lv_istore (lv' := [(5, .int r37), (0, .ref a_eb), (1, .int v1), (2, .int v2), (3, .int v3), (4, .int v4)]) hx hb dX6_word_78 hl (by decide) rfl (fun ls hl => ?_)
              refine lv_aload_n hx hb dX6_word_80 rfl (lv_at hl 1 rfl) ?_
              refine g_get X hW eX6_word_12 0 rfl rfl dX6_word_81 ?_
              refine g_get X hW eX6_word_132 1 rfl rfl dX6_word_84 ?_
              refine lv_iload hx hb dX6_word_87 (lv_at hl 0 rfl) ?_
              refine lv_iconst hx hb dX6_word_89 qI_0 ?_
              refine lv_iload_n hx hb dX6_word_90 rfl (lv_at hl 2 rfl) ?_
              obtain ⟨o45_tb_f, hq, h⟩ := bn1_some h
              refine g_cvv X hW (As := [.int r37, .int (0 : Int32), .int v1]) (ws' := (wX6_word G a_eb a_desk a_desk_boxes a_desk_boxes_a a_desk_words a_desk_words_a a_kept a_tape a_text a_plan a_mat a_desk_weeks a_desk_routes a_desk_offers a_desk_wants a_desk_leaves a_desk_leases a_desk_uses isKept planStands today lack rate free boxes_r boxes_f o37_tb_r o45_tb_f)) ckX6_word_X4_put_96 (kcX4_put (l := l) G a_desk_words a_desk_words_a r37 (0 : Int32) v1 (5 : Int32) (60 : Int32) o37_tb_r 300 words_f hq) ⟨rfl, rfl, Nat.le_of_ble_eq_true rfl, Nat.le_of_ble_eq_true rfl⟩ [4, 5] rfl rfl rfl rfl rfl rfl rfl hl.1 (Nat.le_of_ble_eq_true rfl) ⟨Nat.zero_le _, Nat.zero_le _⟩ dX6_word_91 (fun H locs hW => ?_)
              refine lv_aload_n hx hb dX6_word_94 rfl (lv_at hl 1 rfl) ?_
              refine g_get X hW eX6_word_12 0 rfl rfl dX6_word_95 ?_
              refine g_get X hW eX6_word_132 1 rfl rfl dX6_word_98 ?_
              refine lv_iload hx hb dX6_word_101 (lv_at hl 0 rfl) ?_
              refine lv_iconst hx hb dX6_word_103 qI_1 ?_
              refine lv_iload_n hx hb dX6_word_104 rfl (lv_at hl 3 rfl) ?_
              obtain ⟨o52_tb_f, hq, h⟩ := bn1_some h
              refine g_cvv X hW (As := [.int r37, .int (1 : Int32), .int v2]) (ws' := (wX6_word G a_eb a_desk a_desk_boxes a_desk_boxes_a a_desk_words a_desk_words_a a_kept a_tape a_text a_plan a_mat a_desk_weeks a_desk_routes a_desk_offers a_desk_wants a_desk_leaves a_desk_leases a_desk_uses isKept planStands today lack rate free boxes_r boxes_f o37_tb_r o52_tb_f)) ckX6_word_X4_put_96 (kcX4_put (l := l) G a_desk_words a_desk_words_a r37 (1 : Int32) v2 (5 : Int32) (60 : Int32) o37_tb_r 300 o45_tb_f hq) ⟨rfl, rfl, Nat.le_of_ble_eq_true rfl, Nat.le_of_ble_eq_true rfl⟩ [4, 5] rfl rfl rfl rfl rfl rfl rfl hl.1 (Nat.le_of_ble_eq_true rfl) ⟨Nat.zero_le _, Nat.zero_le _⟩ dX6_word_105 (fun H locs hW => ?_)
              refine lv_aload_n hx hb dX6_word_108 rfl (lv_at hl 1 rfl) ?_
              refine g_get X hW eX6_word_12 0 rfl rfl dX6_word_109 ?_
              refine g_get X hW eX6_word_132 1 rfl rfl dX6_word_112 ?_
              refine lv_iload hx hb dX6_word_115 (lv_at hl 0 rfl) ?_
              refine lv_iconst hx hb dX6_word_117 qI_2 ?_
              refine lv_iload_n hx hb dX6_word_118 rfl (lv_at hl 4 rfl) ?_
              obtain ⟨o59_tb_f, hq, h⟩ := bn1_some h
              refine g_cvv X hW (As := [.int r37, .int (2 : Int32), .int v3]) (ws' := (wX6_word G a_eb a_desk a_desk_boxes a_desk_boxes_a a_desk_words a_desk_words_a a_kept a_tape a_text a_plan a_mat a_desk_weeks a_desk_routes a_desk_offers a_desk_wants a_desk_leaves a_desk_leases a_desk_uses isKept planStands today lack rate free boxes_r boxes_f o37_tb_r o59_tb_f)) ckX6_word_X4_put_96 (kcX4_put (l := l) G a_desk_words a_desk_words_a r37 (2 : Int32) v3 (5 : Int32) (60 : Int32) o37_tb_r 300 o52_tb_f hq) ⟨rfl, rfl, Nat.le_of_ble_eq_true rfl, Nat.le_of_ble_eq_true rfl⟩ [4, 5] rfl rfl rfl rfl rfl rfl rfl hl.1 (Nat.le_of_ble_eq_true rfl) ⟨Nat.zero_le _, Nat.zero_le _⟩ dX6_word_119 (fun H locs hW => ?_)
              refine lv_aload_n hx hb dX6_word_122 rfl (lv_at hl 1 rfl) ?_
              refine g_get X hW eX6_word_12 0 rfl rfl dX6_word_123 ?_
              refine g_get X hW eX6_word_132 1 rfl rfl dX6_word_126 ?_
              refine lv_iload hx hb dX6_word_129 (lv_at hl 0 rfl) ?_
              refine lv_iconst hx hb dX6_word_131 qI_3 ?_
              refine lv_iload hx hb dX6_word_132 (lv_at hl 5 rfl) ?_
              obtain ⟨o66_tb_f, hq, h⟩ := bn1_some h
              refine g_cvv X hW (As := [.int r37, .int (3 : Int32), .int v4]) (ws' := (wX6_word G a_eb a_desk a_desk_boxes a_desk_boxes_a a_desk_words a_desk_words_a a_kept a_tape a_text a_plan a_mat a_desk_weeks a_desk_routes a_desk_offers a_desk_wants a_desk_leaves a_desk_leases a_desk_uses isKept planStands today lack rate free boxes_r boxes_f o37_tb_r o66_tb_f)) ckX6_word_X4_put_96 (kcX4_put (l := l) G a_desk_words a_desk_words_a r37 (3 : Int32) v4 (5 : Int32) (60 : Int32) o37_tb_r 300 o59_tb_f hq) ⟨rfl, rfl, Nat.le_of_ble_eq_true rfl, Nat.le_of_ble_eq_true rfl⟩ [4, 5] rfl rfl rfl rfl rfl rfl rfl hl.1 (Nat.le_of_ble_eq_true rfl) ⟨Nat.zero_le _, Nat.zero_le _⟩ dX6_word_134 (fun H locs hW => ?_)
              refine lv_aload_n hx hb dX6_word_137 rfl (lv_at hl 1 rfl) ?_
              refine g_get X hW eX6_word_12 0 rfl rfl dX6_word_138 ?_
              refine g_get X hW eX6_word_132 1 rfl rfl dX6_word_141 ?_
              refine lv_iload hx hb dX6_word_144 (lv_at hl 0 rfl) ?_
              refine lv_iconst hx hb dX6_word_146 qI_4 ?_
              refine lv_aload_n hx hb dX6_word_147 rfl (lv_at hl 1 rfl) ?_
              refine g_get X hW eX6_word_12 0 rfl rfl dX6_word_148 ?_
              refine g_get X hW eX6_word_58 1 rfl rfl dX6_word_151 ?_
              obtain ⟨o75_tb_f, hq, h⟩ := bn1_some h
              refine g_cvv X hW (As := [.int r37, .int (4 : Int32), .int today]) (ws' := (wX6_word G a_eb a_desk a_desk_boxes a_desk_boxes_a a_desk_words a_desk_words_a a_kept a_tape a_text a_plan a_mat a_desk_weeks a_desk_routes a_desk_offers a_desk_wants a_desk_leaves a_desk_leases a_desk_uses isKept planStands today lack rate free boxes_r boxes_f o37_tb_r o75_tb_f)) ckX6_word_X4_put_96 (kcX4_put (l := l) G a_desk_words a_desk_words_a r37 (4 : Int32) today (5 : Int32) (60 : Int32) o37_tb_r 300 o66_tb_f hq) ⟨rfl, rfl, Nat.le_of_ble_eq_true rfl, Nat.le_of_ble_eq_true rfl⟩ [4, 5] rfl rfl rfl rfl rfl rfl rfl hl.1 (Nat.le_of_ble_eq_true rfl) ⟨Nat.zero_le _, Nat.zero_le _⟩ dX6_word_154 (fun H locs hW => ?_)
              refine lv_iload hx hb dX6_word_157 (lv_at hl 0 rfl) ?_
              obtain rfl := Option.some.inj h
              exact g_iret X hW dX6_word_159
            · have h := (if_neg c33).symm.trans h
              refine lv_bipush hx hb dX6_word_65 qB_m2 ?_
              obtain rfl := Option.some.inj h
              exact g_iret X hW dX6_word_67
          · have h := (if_pos c28).symm.trans h
            refine lv_bipush hx hb dX6_word_49 qB_m4 ?_
            obtain rfl := Option.some.inj h
            exact g_iret X hW dX6_word_51
        · have h := (if_pos c24).symm.trans h
          refine lv_iconst hx hb dX6_word_39 qI_m1 ?_
          obtain rfl := Option.some.inj h
          exact g_iret X hW dX6_word_40
theorem kcX6_word {l : Launch} (G : Gt) (a_eb a_desk a_desk_boxes a_desk_boxes_a a_desk_words a_desk_words_a a_kept a_tape a_text a_plan a_mat a_desk_weeks a_desk_routes a_desk_offers a_desk_wants a_desk_leaves a_desk_leases a_desk_uses : Nat) (v1 : Int32) (v2 : Int32) (v3 : Int32) (v4 : Int32) (isKept : Int32) (planStands : Int32) (today : Int32) (lack : Int32) (rate : Int32) (free : Int32) (boxes_r : Int32) (boxes_f : (Nat → Int32)) (words_r : Int32) (words_f : (Nat → Int32)) {r : Int32} {z_words_r : Int32} {z_words_f : (Nat → Int32)} (h : fX6_word v1 v2 v3 v4 today boxes_r boxes_f words_r words_f = some (r, z_words_r, z_words_f)) : CtI G l yX6_word wsX6_word rmX6_word [.ref a_eb, .int v1, .int v2, .int v3, .int v4] (wX6_word G a_eb a_desk a_desk_boxes a_desk_boxes_a a_desk_words a_desk_words_a a_kept a_tape a_text a_plan a_mat a_desk_weeks a_desk_routes a_desk_offers a_desk_wants a_desk_leaves a_desk_leases a_desk_uses isKept planStands today lack rate free boxes_r boxes_f words_r words_f) r (wX6_word G a_eb a_desk a_desk_boxes a_desk_boxes_a a_desk_words a_desk_words_a a_kept a_tape a_text a_plan a_mat a_desk_weeks a_desk_routes a_desk_offers a_desk_wants a_desk_leaves a_desk_leases a_desk_uses isKept planStands today lack rate free boxes_r boxes_f z_words_r z_words_f) := k0X6_word G a_eb a_desk a_desk_boxes a_desk_boxes_a a_desk_words a_desk_words_a a_kept a_tape a_text a_plan a_mat a_desk_weeks a_desk_routes a_desk_offers a_desk_wants a_desk_leaves a_desk_leases a_desk_uses v1 v2 v3 v4 isKept planStands today lack rate free boxes_r boxes_f words_r words_f h
end MX6_word
/-! EmptyBoxes.isHeard -/
section MX6_isHeard
theorem hdX6_isHeard : yX6_isHeard.cls = RX6 ∧ yX6_isHeard.cls ≠ "java/lang/invoke/MethodHandle" ∧ yX6_isHeard.cls ≠ "java/lang/invoke/VarHandle" ∧ (parseMethodDescriptor yX6_isHeard.desc).map (fun d => d.parameters.length) = some 3 := by decide +kernel
abbrev wX6_isHeard (G : Gt) (a_eb a_desk a_desk_words a_desk_words_a a_kept a_tape a_text a_plan a_mat a_desk_boxes a_desk_weeks a_desk_routes a_desk_offers a_desk_wants a_desk_leaves a_desk_leases a_desk_uses : Nat) (isKept : Int32) (planStands : Int32) (today : Int32) (lack : Int32) (rate : Int32) (free : Int32) (words_r : Int32) (words_f : (Nat → Int32)) : va_W := [(a_eb, .inr (6, [.ref a_desk, .ref a_kept, .ref a_tape, .ref a_text, .ref a_plan, .ref a_mat, .int isKept, .int planStands])), (a_desk, .inr (0, [.ref a_desk_boxes, .ref a_desk_words, .ref a_desk_weeks, .ref a_desk_routes, .ref a_desk_offers, .ref a_desk_wants, .ref a_desk_leaves, .ref a_desk_leases, .ref a_desk_uses, .int today, .int lack, .int rate, .int free])), (a_desk_words, .inr (4, [.ref a_desk_words_a, .int (5 : Int32), .int (60 : Int32), .int words_r])), (a_desk_words_a, .inl (G.2.1, 300, .inl words_f))]
abbrev rmX6_isHeard : Room := { frames := 2, cells := 0, slots := 0, locals := 44 }
theorem iX6_isHeard_X0 : ∀ w ∈ wsX00, w ∈ wsX6_isHeard := by decide +kernel
theorem iX6_isHeard_X6 : ∀ w ∈ wsX60, w ∈ wsX6_isHeard := by decide +kernel
theorem eX6_isHeard_12 : Fk wsX6_isHeard RX6 12 6 0 := ⟨RX6, TX6, 8, rfl, iX6_isHeard_X6, by decide, by decide +kernel⟩
theorem eX6_isHeard_132 : Fk wsX6_isHeard RX6 132 0 1 := ⟨RX0, TX0, 13, rfl, iX6_isHeard_X0, by decide, by decide +kernel⟩
theorem ckX6_isHeard_X4_cell_113 : CkV wsX6_isHeard RX6 113 yX4_cell wsX4_cell cX4_cell 3 (some .int) 2 4 := ⟨RX4, TX4, 4, _, rfl, gX6_isHeard_X4_cell, rfl, hdX4_cell⟩
variable {p : Program} {l : Launch} {e : Env} {s : State} {m : MethodId} {args : Array Value} {below : List Frame} {meth : Method} {c : Code} {A : Nat → Prop} {G : Gt} {a_eb a_desk a_desk_words a_desk_words_a a_kept a_tape a_text a_plan a_mat a_desk_boxes a_desk_weeks a_desk_routes a_desk_offers a_desk_wants a_desk_leaves a_desk_leases a_desk_uses : Nat} {isKept : Int32} {planStands : Int32} {today : Int32} {lack : Int32} {rate : Int32} {free : Int32} {words_r : Int32} {words_f : (Nat → Int32)} {res : Int32}
set_option maxHeartbeats 4000000 in
set_option maxRecDepth 100000 in
theorem k0X6_isHeard {l : Launch} (G : Gt) (a_eb a_desk a_desk_words a_desk_words_a a_kept a_tape a_text a_plan a_mat a_desk_boxes a_desk_weeks a_desk_routes a_desk_offers a_desk_wants a_desk_leaves a_desk_leases a_desk_uses : Nat) (v1 : Int32) (v2 : Int32) (v3 : Int32) (isKept : Int32) (planStands : Int32) (today : Int32) (lack : Int32) (rate : Int32) (free : Int32) (words_r : Int32) (words_f : (Nat → Int32)) {res : Int32} (h : fX6_isHeard v1 v2 v3 words_r words_f = some res) : CtI G l yX6_isHeard wsX6_isHeard rmX6_isHeard [.ref a_eb, .int v1, .int v2, .int v3] (wX6_isHeard G a_eb a_desk a_desk_words a_desk_words_a a_kept a_tape a_text a_plan a_mat a_desk_boxes a_desk_weeks a_desk_routes a_desk_offers a_desk_wants a_desk_leaves a_desk_leases a_desk_uses isKept planStands today lack rate free words_r words_f) res (wX6_isHeard G a_eb a_desk a_desk_words a_desk_words_a a_kept a_tape a_text a_plan a_mat a_desk_boxes a_desk_weeks a_desk_routes a_desk_offers a_desk_wants a_desk_leaves a_desk_leases a_desk_uses isKept planStands today lack rate free words_r words_f) := by
  refine CtI.mk (cc := cX6_isHeard) (maxL := 4) (ret := (some .boolean)) (own := RX6) (by decide) rfl rfl (Nat.le_of_ble_eq_true rfl) ?_
  intro p e s m below meth c A X ls hl hW
  obtain ⟨hx, hb, -⟩ := id X.1
  have hl : lv_has ls 4 [(0, .ref a_eb), (1, .int v1), (2, .int v2), (3, .int v3)] := hl
  generalize hH : s.heap = H at hW ⊢
  generalize hLo : ([] : List Loc) = locs at hW ⊢
  rw [fX6_isHeard] at h
  refine lv_aload_n hx hb dX6_isHeard_0 rfl (lv_at hl 0 rfl) ?_
  refine g_get X hW eX6_isHeard_12 0 rfl rfl dX6_isHeard_1 ?_
  refine g_get X hW eX6_isHeard_132 1 rfl rfl dX6_isHeard_4 ?_
  refine lv_iload_n hx hb dX6_isHeard_7 rfl (lv_at hl 1 rfl) ?_
  refine lv_iconst hx hb dX6_isHeard_8 qI_0 ?_
  obtain ⟨r6, hq, h⟩ := bn1_some h
  refine g_cvi X hW (As := [.int v1, .int (0 : Int32)]) (ws' := (wX6_isHeard G a_eb a_desk a_desk_words a_desk_words_a a_kept a_tape a_text a_plan a_mat a_desk_boxes a_desk_weeks a_desk_routes a_desk_offers a_desk_wants a_desk_leaves a_desk_leases a_desk_uses isKept planStands today lack rate free words_r words_f)) ckX6_isHeard_X4_cell_113 (kcX4_cell (l := l) G a_desk_words a_desk_words_a v1 (0 : Int32) (5 : Int32) (60 : Int32) words_r 300 words_f hq) ⟨rfl, rfl, Nat.le_of_ble_eq_true rfl, Nat.le_of_ble_eq_true rfl⟩ [2, 3] rfl rfl rfl rfl rfl rfl rfl hl.1 (Nat.le_of_ble_eq_true rfl) ⟨Nat.zero_le _, Nat.zero_le _⟩ dX6_isHeard_9 (fun H locs hW => ?_)
  refine lv_iload_n hx hb dX6_isHeard_12 rfl (lv_at hl 2 rfl) ?_
  refine lv_icmp_ne (tgt := 36) hx hb dX6_isHeard_13 (by decide) (fun c8 => ?_) (fun c8 => ?_)
  · have h := (if_neg c8).symm.trans h
    refine lv_iconst hx hb dX6_isHeard_36 qI_0 ?_
    obtain rfl := Option.some.inj h
    exact g_zret X hW rfl dX6_isHeard_37
  · have h := (if_pos c8).symm.trans h
    refine lv_aload_n hx hb dX6_isHeard_16 rfl (lv_at hl 0 rfl) ?_
    refine g_get X hW eX6_isHeard_12 0 rfl rfl dX6_isHeard_17 ?_
    refine g_get X hW eX6_isHeard_132 1 rfl rfl dX6_isHeard_20 ?_
    refine lv_iload_n hx hb dX6_isHeard_23 rfl (lv_at hl 1 rfl) ?_
    refine lv_iconst hx hb dX6_isHeard_24 qI_4 ?_
    obtain ⟨r16, hq, h⟩ := bn1_some h
    refine g_cvi X hW (As := [.int v1, .int (4 : Int32)]) (ws' := (wX6_isHeard G a_eb a_desk a_desk_words a_desk_words_a a_kept a_tape a_text a_plan a_mat a_desk_boxes a_desk_weeks a_desk_routes a_desk_offers a_desk_wants a_desk_leaves a_desk_leases a_desk_uses isKept planStands today lack rate free words_r words_f)) ckX6_isHeard_X4_cell_113 (kcX4_cell (l := l) G a_desk_words a_desk_words_a v1 (4 : Int32) (5 : Int32) (60 : Int32) words_r 300 words_f hq) ⟨rfl, rfl, Nat.le_of_ble_eq_true rfl, Nat.le_of_ble_eq_true rfl⟩ [2, 3] rfl rfl rfl rfl rfl rfl rfl hl.1 (Nat.le_of_ble_eq_true rfl) ⟨Nat.zero_le _, Nat.zero_le _⟩ dX6_isHeard_25 (fun H locs hW => ?_)
    refine lv_iload_n hx hb dX6_isHeard_28 rfl (lv_at hl 3 rfl) ?_
    refine lv_icmp_gt (tgt := 36) hx hb dX6_isHeard_29 (by decide) (fun c18 => ?_) (fun c18 => ?_)
    · have h := (if_pos c18).symm.trans h
      refine lv_iconst hx hb dX6_isHeard_36 qI_0 ?_
      obtain rfl := Option.some.inj h
      exact g_zret X hW rfl dX6_isHeard_37
    · have h := (if_neg c18).symm.trans h
      refine lv_iconst hx hb dX6_isHeard_32 qI_1 ?_
      refine lv_goto (tgt := 37) hx hb dX6_isHeard_33 (by decide) ?_
      obtain rfl := Option.some.inj h
      exact g_zret X hW rfl dX6_isHeard_37
theorem kcX6_isHeard {l : Launch} (G : Gt) (a_eb a_desk a_desk_words a_desk_words_a a_kept a_tape a_text a_plan a_mat a_desk_boxes a_desk_weeks a_desk_routes a_desk_offers a_desk_wants a_desk_leaves a_desk_leases a_desk_uses : Nat) (v1 : Int32) (v2 : Int32) (v3 : Int32) (isKept : Int32) (planStands : Int32) (today : Int32) (lack : Int32) (rate : Int32) (free : Int32) (words_r : Int32) (words_f : (Nat → Int32)) {r : Int32}  (h : fX6_isHeard v1 v2 v3 words_r words_f = some r) : CtI G l yX6_isHeard wsX6_isHeard rmX6_isHeard [.ref a_eb, .int v1, .int v2, .int v3] (wX6_isHeard G a_eb a_desk a_desk_words a_desk_words_a a_kept a_tape a_text a_plan a_mat a_desk_boxes a_desk_weeks a_desk_routes a_desk_offers a_desk_wants a_desk_leaves a_desk_leases a_desk_uses isKept planStands today lack rate free words_r words_f) r (wX6_isHeard G a_eb a_desk a_desk_words a_desk_words_a a_kept a_tape a_text a_plan a_mat a_desk_boxes a_desk_weeks a_desk_routes a_desk_offers a_desk_wants a_desk_leaves a_desk_leases a_desk_uses isKept planStands today lack rate free words_r words_f) := k0X6_isHeard G a_eb a_desk a_desk_words a_desk_words_a a_kept a_tape a_text a_plan a_mat a_desk_boxes a_desk_weeks a_desk_routes a_desk_offers a_desk_wants a_desk_leaves a_desk_leases a_desk_uses v1 v2 v3 isKept planStands today lack rate free words_r words_f h
end MX6_isHeard
/-! EmptyBoxes.latestWord -/
section MX6_latestWord
theorem hdX6_latestWord : yX6_latestWord.cls = RX6 ∧ yX6_latestWord.cls ≠ "java/lang/invoke/MethodHandle" ∧ yX6_latestWord.cls ≠ "java/lang/invoke/VarHandle" ∧ (parseMethodDescriptor yX6_latestWord.desc).map (fun d => d.parameters.length) = some 3 := by decide +kernel
abbrev wX6_latestWord (G : Gt) (a_eb a_desk a_desk_words a_desk_words_a a_kept a_tape a_text a_plan a_mat a_desk_boxes a_desk_weeks a_desk_routes a_desk_offers a_desk_wants a_desk_leaves a_desk_leases a_desk_uses : Nat) (isKept : Int32) (planStands : Int32) (today : Int32) (lack : Int32) (rate : Int32) (free : Int32) (words_r : Int32) (words_f : (Nat → Int32)) : va_W := [(a_eb, .inr (6, [.ref a_desk, .ref a_kept, .ref a_tape, .ref a_text, .ref a_plan, .ref a_mat, .int isKept, .int planStands])), (a_desk, .inr (0, [.ref a_desk_boxes, .ref a_desk_words, .ref a_desk_weeks, .ref a_desk_routes, .ref a_desk_offers, .ref a_desk_wants, .ref a_desk_leaves, .ref a_desk_leases, .ref a_desk_uses, .int today, .int lack, .int rate, .int free])), (a_desk_words, .inr (4, [.ref a_desk_words_a, .int (5 : Int32), .int (60 : Int32), .int words_r])), (a_desk_words_a, .inl (G.2.1, 300, .inl words_f))]
abbrev rmX6_latestWord : Room := { frames := 3, cells := 0, slots := 0, locals := 67 }
theorem iX6_latestWord_X0 : ∀ w ∈ wsX00, w ∈ wsX6_latestWord := by decide +kernel
theorem iX6_latestWord_X6 : ∀ w ∈ wsX60, w ∈ wsX6_latestWord := by decide +kernel
theorem eX6_latestWord_12 : Fk wsX6_latestWord RX6 12 6 0 := ⟨RX6, TX6, 8, rfl, iX6_latestWord_X6, by decide, by decide +kernel⟩
theorem eX6_latestWord_132 : Fk wsX6_latestWord RX6 132 0 1 := ⟨RX0, TX0, 13, rfl, iX6_latestWord_X0, by decide, by decide +kernel⟩
theorem ckX6_latestWord_X4_cell_113 : CkV wsX6_latestWord RX6 113 yX4_cell wsX4_cell cX4_cell 3 (some .int) 2 4 := ⟨RX4, TX4, 4, _, rfl, gX6_latestWord_X4_cell, rfl, hdX4_cell⟩
theorem ckX6_latestWord_X4_size_117 : CkV wsX6_latestWord RX6 117 yX4_size wsX4_size cX4_size 1 (some .int) 0 4 := ⟨RX4, TX4, 4, _, rfl, gX6_latestWord_X4_size, rfl, hdX4_size⟩
theorem ckX6_latestWord_X6_isHeard_145 : CkV wsX6_latestWord RX6 145 yX6_isHeard wsX6_isHeard cX6_isHeard 4 (some .boolean) 3 6 := ⟨RX6, TX6, 8, _, rfl, gX6_latestWord_X6_isHeard, rfl, hdX6_isHeard⟩
variable {p : Program} {l : Launch} {e : Env} {s : State} {m : MethodId} {args : Array Value} {below : List Frame} {meth : Method} {c : Code} {A : Nat → Prop} {G : Gt} {a_eb a_desk a_desk_words a_desk_words_a a_kept a_tape a_text a_plan a_mat a_desk_boxes a_desk_weeks a_desk_routes a_desk_offers a_desk_wants a_desk_leaves a_desk_leases a_desk_uses : Nat} {isKept : Int32} {planStands : Int32} {today : Int32} {lack : Int32} {rate : Int32} {free : Int32} {words_r : Int32} {words_f : (Nat → Int32)} {res : Int32}
set_option maxHeartbeats 4000000 in
set_option maxRecDepth 100000 in
theorem tX6_latestWord_72 (X : Bx p s m args meth c cX6_latestWord 8 wsX6_latestWord RX6 (some .int)) (v1 : Int32) (v2 : Int32) (v3 : Int32) (v4 : Int32) (v5 : Int32) (v6 : Int32) (k_10 : Int32 → Int32 → Int32 → Option (Int32)) (Hk_10 : ∀ (v4 : Int32) (v5 : Int32) (v6 : Int32), k_10 v4 v5 v6 = some res → ∀ (H : Heap) (locs : List Loc), Wo G A s (wX6_latestWord G a_eb a_desk a_desk_words a_desk_words_a a_kept a_tape a_text a_plan a_mat a_desk_boxes a_desk_weeks a_desk_routes a_desk_offers a_desk_wants a_desk_leaves a_desk_leases a_desk_uses isKept planStands today lack rate free words_r words_f) H locs → ∀ ls : Array Slot, lv_has ls 8 [(0, .ref a_eb), (1, .int v1), (2, .int v2), (3, .int v3), (4, .int v4), (5, .int v5), (6, .int v6)] → W p l e rmX6_latestWord s m args below meth c H locs 0 0 (QI G A below args s res (wX6_latestWord G a_eb a_desk a_desk_words a_desk_words_a a_kept a_tape a_text a_plan a_mat a_desk_boxes a_desk_weeks a_desk_routes a_desk_offers a_desk_wants a_desk_leaves a_desk_leases a_desk_uses isKept planStands today lack rate free words_r words_f)) (F0 m 10 ls [])) (h : fX6_latestWord_72 k_10 v4 v5 v6 = some res) : ∀ (H : Heap) (locs : List Loc), Wo G A s (wX6_latestWord G a_eb a_desk a_desk_words a_desk_words_a a_kept a_tape a_text a_plan a_mat a_desk_boxes a_desk_weeks a_desk_routes a_desk_offers a_desk_wants a_desk_leaves a_desk_leases a_desk_uses isKept planStands today lack rate free words_r words_f) H locs → ∀ ls : Array Slot, lv_has ls 8 [(0, .ref a_eb), (1, .int v1), (2, .int v2), (3, .int v3), (4, .int v4), (5, .int v5), (6, .int v6)] → W p l e rmX6_latestWord s m args below meth c H locs 0 0 (QI G A below args s res (wX6_latestWord G a_eb a_desk a_desk_words a_desk_words_a a_kept a_tape a_text a_plan a_mat a_desk_boxes a_desk_weeks a_desk_routes a_desk_offers a_desk_wants a_desk_leaves a_desk_leases a_desk_uses isKept planStands today lack rate free words_r words_f)) (F0 m 72 ls []) := by
  obtain ⟨hx, hb, -⟩ := id X.1
  intro H locs hW ls hl
  rw [fX6_latestWord_72] at h
  refine lv_iinc (v := (v6 + (1 : Int32))) (lv' := [(6, .int (v6 + (1 : Int32))), (0, .ref a_eb), (1, .int v1), (2, .int v2), (3, .int v3), (4, .int v4), (5, .int v5)]) hx hb dX6_latestWord_72 hl (k := 6) rfl (congrArg (fun z => v6 + z) qI_1) (by decide) rfl (fun ls hl => ?_)
  refine lv_goto (tgt := 10) hx hb dX6_latestWord_75 (by decide) ?_
  exact Hk_10 v4 v5 (v6 + (1 : Int32)) h H locs hW ls (lv_sub hl [1, 2, 3, 4, 5, 6, 0] rfl)
set_option maxHeartbeats 4000000 in
set_option maxRecDepth 100000 in
theorem tX6_latestWord_10 (X : Bx p s m args meth c cX6_latestWord 8 wsX6_latestWord RX6 (some .int)) (v1 : Int32) (v2 : Int32) (v3 : Int32)   : ∀ (n : Nat) (v4 : Int32) (v5 : Int32) (v6 : Int32), fX6_latestWord_10 v1 v2 v3 words_r words_f n v4 v5 v6 = some res → ∀ (H : Heap) (locs : List Loc), Wo G A s (wX6_latestWord G a_eb a_desk a_desk_words a_desk_words_a a_kept a_tape a_text a_plan a_mat a_desk_boxes a_desk_weeks a_desk_routes a_desk_offers a_desk_wants a_desk_leaves a_desk_leases a_desk_uses isKept planStands today lack rate free words_r words_f) H locs → ∀ ls : Array Slot, lv_has ls 8 [(0, .ref a_eb), (1, .int v1), (2, .int v2), (3, .int v3), (4, .int v4), (5, .int v5), (6, .int v6)] → W p l e rmX6_latestWord s m args below meth c H locs 0 0 (QI G A below args s res (wX6_latestWord G a_eb a_desk a_desk_words a_desk_words_a a_kept a_tape a_text a_plan a_mat a_desk_boxes a_desk_weeks a_desk_routes a_desk_offers a_desk_wants a_desk_leaves a_desk_leases a_desk_uses isKept planStands today lack rate free words_r words_f)) (F0 m 10 ls []) := by
  obtain ⟨hx, hb, -⟩ := id X.1
  intro n
  induction n with
  | zero => intro v4 v5 v6 h; rw [fX6_latestWord_10] at h; cases h
  | succ n ih =>
    intro v4 v5 v6 h H locs hW ls hl
    rw [fX6_latestWord_10] at h
    refine lv_iload hx hb dX6_latestWord_10 (lv_at hl 6 rfl) ?_
    refine lv_aload_n hx hb dX6_latestWord_12 rfl (lv_at hl 0 rfl) ?_
    refine g_get X hW eX6_latestWord_12 0 rfl rfl dX6_latestWord_13 ?_
    refine g_get X hW eX6_latestWord_132 1 rfl rfl dX6_latestWord_16 ?_
    obtain ⟨r7, hq, h⟩ := bn1_some h
    refine g_cvi X hW (As := []) (ws' := (wX6_latestWord G a_eb a_desk a_desk_words a_desk_words_a a_kept a_tape a_text a_plan a_mat a_desk_boxes a_desk_weeks a_desk_routes a_desk_offers a_desk_wants a_desk_leaves a_desk_leases a_desk_uses isKept planStands today lack rate free words_r words_f)) ckX6_latestWord_X4_size_117 (kcX4_size (l := l) G a_desk_words a_desk_words_a (5 : Int32) (60 : Int32) words_r hq) ⟨rfl, rfl, Nat.le_of_ble_eq_true rfl, Nat.le_of_ble_eq_true rfl⟩ [2] rfl rfl rfl rfl rfl rfl rfl hl.1 (Nat.le_of_ble_eq_true rfl) ⟨Nat.zero_le _, Nat.zero_le _⟩ dX6_latestWord_19 (fun H locs hW => ?_)
    refine lv_icmp_ge (tgt := 78) hx hb dX6_latestWord_22 (by decide) (fun c8 => ?_) (fun c8 => ?_)
    · have h := (if_pos c8).symm.trans h
      refine lv_iload hx hb dX6_latestWord_78 (lv_at hl 4 rfl) ?_
      obtain rfl := Option.some.inj h
      exact g_iret X hW dX6_latestWord_80
    · have h := (if_neg c8).symm.trans h
      refine lv_aload_n hx hb dX6_latestWord_25 rfl (lv_at hl 0 rfl) ?_
      refine g_get X hW eX6_latestWord_12 0 rfl rfl dX6_latestWord_26 ?_
      refine g_get X hW eX6_latestWord_132 1 rfl rfl dX6_latestWord_29 ?_
      refine lv_iload hx hb dX6_latestWord_32 (lv_at hl 6 rfl) ?_
      refine lv_iconst hx hb dX6_latestWord_34 qI_1 ?_
      obtain ⟨r16, hq, h⟩ := bn1_some h
      refine g_cvi X hW (As := [.int v6, .int (1 : Int32)]) (ws' := (wX6_latestWord G a_eb a_desk a_desk_words a_desk_words_a a_kept a_tape a_text a_plan a_mat a_desk_boxes a_desk_weeks a_desk_routes a_desk_offers a_desk_wants a_desk_leaves a_desk_leases a_desk_uses isKept planStands today lack rate free words_r words_f)) ckX6_latestWord_X4_cell_113 (kcX4_cell (l := l) G a_desk_words a_desk_words_a v6 (1 : Int32) (5 : Int32) (60 : Int32) words_r 300 words_f hq) ⟨rfl, rfl, Nat.le_of_ble_eq_true rfl, Nat.le_of_ble_eq_true rfl⟩ [2, 3] rfl rfl rfl rfl rfl rfl rfl hl.1 (Nat.le_of_ble_eq_true rfl) ⟨Nat.zero_le _, Nat.zero_le _⟩ dX6_latestWord_35 (fun H locs hW => ?_)
      refine lv_istore (lv' := [(7, .int r16), (0, .ref a_eb), (1, .int v1), (2, .int v2), (3, .int v3), (4, .int v4), (5, .int v5), (6, .int v6)]) hx hb dX6_latestWord_38 hl (by decide) rfl (fun ls hl => ?_)
      refine lv_aload_n hx hb dX6_latestWord_40 rfl (lv_at hl 1 rfl) ?_
      refine lv_iload hx hb dX6_latestWord_41 (lv_at hl 7 rfl) ?_
      refine lv_iload_n hx hb dX6_latestWord_43 rfl (lv_at hl 2 rfl) ?_
      refine lv_iload_n hx hb dX6_latestWord_44 rfl (lv_at hl 4 rfl) ?_
      obtain ⟨r22, hq, h⟩ := bn1_some h
      refine g_cvi X hW (As := [.int v6, .int v1, .int v3]) (ws' := (wX6_latestWord G a_eb a_desk a_desk_words a_desk_words_a a_kept a_tape a_text a_plan a_mat a_desk_boxes a_desk_weeks a_desk_routes a_desk_offers a_desk_wants a_desk_leaves a_desk_leases a_desk_uses isKept planStands today lack rate free words_r words_f)) ckX6_latestWord_X6_isHeard_145 (kcX6_isHeard (l := l) G a_eb a_desk a_desk_words a_desk_words_a a_kept a_tape a_text a_plan a_mat a_desk_boxes a_desk_weeks a_desk_routes a_desk_offers a_desk_wants a_desk_leaves a_desk_leases a_desk_uses v6 v1 v3 isKept planStands today lack rate free words_r words_f hq) ⟨rfl, rfl, Nat.le_of_ble_eq_true rfl, Nat.le_of_ble_eq_true rfl⟩ [0, 1, 2, 3] rfl rfl rfl rfl rfl rfl rfl hl.1 (Nat.le_of_ble_eq_true rfl) ⟨Nat.zero_le _, Nat.zero_le _⟩ dX6_latestWord_45 (fun H locs hW => ?_)
      refine lv_if_eq (tgt := 72) hx hb dX6_latestWord_48 (by decide) (fun c23 => ?_) (fun c23 => ?_)
      · have h := (if_pos c23).symm.trans h
        exact tX6_latestWord_72 X v1 v2 v3 v4 v5 v6 (fun v4 v5 v6 => fX6_latestWord_10 v1 v2 v3 words_r words_f n v4 v5 v6) ih h H locs hW ls (lv_sub hl [1, 2, 3, 4, 5, 6, 7] rfl)
      · have h := (if_neg c23).symm.trans h
        refine lv_iload hx hb dX6_latestWord_51 (lv_at hl 0 rfl) ?_
        refine lv_iload_n hx hb dX6_latestWord_53 rfl (lv_at hl 3 rfl) ?_
        refine lv_icmp_gt (tgt := 72) hx hb dX6_latestWord_54 (by decide) (fun c26 => ?_) (fun c26 => ?_)
        · have h := (if_pos c26).symm.trans h
          exact tX6_latestWord_72 X v1 v2 v3 v4 v5 v6 (fun v4 v5 v6 => fX6_latestWord_10 v1 v2 v3 words_r words_f n v4 v5 v6) ih h H locs hW ls (lv_sub hl [1, 2, 3, 4, 5, 6, 7] rfl)
        · have h := (if_neg c26).symm.trans h
          refine lv_iload hx hb dX6_latestWord_57 (lv_at hl 0 rfl) ?_
          refine lv_iload hx hb dX6_latestWord_59 (lv_at hl 6 rfl) ?_
          refine lv_icmp_lt (tgt := 72) hx hb dX6_latestWord_61 (by decide) (fun c29 => ?_) (fun c29 => ?_)
          · have h := (if_pos c29).symm.trans h
            exact tX6_latestWord_72 X v1 v2 v3 v4 v5 v6 (fun v4 v5 v6 => fX6_latestWord_10 v1 v2 v3 words_r words_f n v4 v5 v6) ih h H locs hW ls (lv_sub hl [1, 2, 3, 4, 5, 6, 7] rfl)
          · have h := (if_neg c29).symm.trans h
            refine lv_iload hx hb dX6_latestWord_64 (lv_at hl 7 rfl) ?_
            refine lv_istore (lv' := [(4, .int v6), (7, .int r16), (0, .ref a_eb), (1, .int v1), (2, .int v2), (3, .int v3), (5, .int v5), (6, .int v6)]) hx hb dX6_latestWord_66 hl (by decide) rfl (fun ls hl => ?_)
            refine lv_iload hx hb dX6_latestWord_68 (lv_at hl 1 rfl) ?_
            refine lv_istore (lv' := [(5, .int r16), (4, .int v6), (7, .int r16), (0, .ref a_eb), (1, .int v1), (2, .int v2), (3, .int v3), (6, .int v6)]) hx hb dX6_latestWord_70 hl (by decide) rfl (fun ls hl => ?_)
            exact tX6_latestWord_72 X v1 v2 v3 v6 r16 v6 (fun v4 v5 v6 => fX6_latestWord_10 v1 v2 v3 words_r words_f n v4 v5 v6) ih h H locs hW ls (lv_sub hl [3, 4, 5, 6, 1, 0, 7] rfl)
set_option maxHeartbeats 4000000 in
set_option maxRecDepth 100000 in
theorem k0X6_latestWord {l : Launch} (G : Gt) (a_eb a_desk a_desk_words a_desk_words_a a_kept a_tape a_text a_plan a_mat a_desk_boxes a_desk_weeks a_desk_routes a_desk_offers a_desk_wants a_desk_leaves a_desk_leases a_desk_uses : Nat) (v1 : Int32) (v2 : Int32) (v3 : Int32) (isKept : Int32) (planStands : Int32) (today : Int32) (lack : Int32) (rate : Int32) (free : Int32) (words_r : Int32) (words_f : (Nat → Int32)) {res : Int32} (h : fX6_latestWord v1 v2 v3 words_r words_f = some res) : CtI G l yX6_latestWord wsX6_latestWord rmX6_latestWord [.ref a_eb, .int v1, .int v2, .int v3] (wX6_latestWord G a_eb a_desk a_desk_words a_desk_words_a a_kept a_tape a_text a_plan a_mat a_desk_boxes a_desk_weeks a_desk_routes a_desk_offers a_desk_wants a_desk_leaves a_desk_leases a_desk_uses isKept planStands today lack rate free words_r words_f) res (wX6_latestWord G a_eb a_desk a_desk_words a_desk_words_a a_kept a_tape a_text a_plan a_mat a_desk_boxes a_desk_weeks a_desk_routes a_desk_offers a_desk_wants a_desk_leaves a_desk_leases a_desk_uses isKept planStands today lack rate free words_r words_f) := by
  refine CtI.mk (cc := cX6_latestWord) (maxL := 8) (ret := (some .int)) (own := RX6) (by decide) rfl rfl (Nat.le_of_ble_eq_true rfl) ?_
  intro p e s m below meth c A X ls hl hW
  obtain ⟨hx, hb, -⟩ := id X.1
  have hl : lv_has ls 8 [(0, .ref a_eb), (1, .int v1), (2, .int v2), (3, .int v3)] := hl
  generalize hH : s.heap = H at hW ⊢
  generalize hLo : ([] : List Loc) = locs at hW ⊢
  rw [fX6_latestWord] at h
  refine lv_bipush hx hb dX6_latestWord_0 qB_m3 ?_
  refine lv_istore (lv' := [(4, .int (-3 : Int32)), (0, .ref a_eb), (1, .int v1), (2, .int v2), (3, .int v3)]) hx hb dX6_latestWord_2 hl (by decide) rfl (fun ls hl => ?_)
  refine lv_iconst hx hb dX6_latestWord_4 qI_0 ?_
  refine lv_istore (lv' := [(5, .int (0 : Int32)), (4, .int (-3 : Int32)), (0, .ref a_eb), (1, .int v1), (2, .int v2), (3, .int v3)]) hx hb dX6_latestWord_5 hl (by decide) rfl (fun ls hl => ?_)
  refine lv_iconst hx hb dX6_latestWord_7 qI_0 ?_
  refine lv_istore (lv' := [(6, .int (0 : Int32)), (5, .int (0 : Int32)), (4, .int (-3 : Int32)), (0, .ref a_eb), (1, .int v1), (2, .int v2), (3, .int v3)]) hx hb dX6_latestWord_8 hl (by decide) rfl (fun ls hl => ?_)
  exact tX6_latestWord_10 X v1 v2 v3 FU (-3 : Int32) (0 : Int32) (0 : Int32) h H locs hW ls (lv_sub hl [3, 4, 5, 6, 2, 1, 0] rfl)
theorem kcX6_latestWord {l : Launch} (G : Gt) (a_eb a_desk a_desk_words a_desk_words_a a_kept a_tape a_text a_plan a_mat a_desk_boxes a_desk_weeks a_desk_routes a_desk_offers a_desk_wants a_desk_leaves a_desk_leases a_desk_uses : Nat) (v1 : Int32) (v2 : Int32) (v3 : Int32) (isKept : Int32) (planStands : Int32) (today : Int32) (lack : Int32) (rate : Int32) (free : Int32) (words_r : Int32) (words_f : (Nat → Int32)) {r : Int32}  (h : fX6_latestWord v1 v2 v3 words_r words_f = some r) : CtI G l yX6_latestWord wsX6_latestWord rmX6_latestWord [.ref a_eb, .int v1, .int v2, .int v3] (wX6_latestWord G a_eb a_desk a_desk_words a_desk_words_a a_kept a_tape a_text a_plan a_mat a_desk_boxes a_desk_weeks a_desk_routes a_desk_offers a_desk_wants a_desk_leaves a_desk_leases a_desk_uses isKept planStands today lack rate free words_r words_f) r (wX6_latestWord G a_eb a_desk a_desk_words a_desk_words_a a_kept a_tape a_text a_plan a_mat a_desk_boxes a_desk_weeks a_desk_routes a_desk_offers a_desk_wants a_desk_leaves a_desk_leases a_desk_uses isKept planStands today lack rate free words_r words_f) := k0X6_latestWord G a_eb a_desk a_desk_words a_desk_words_a a_kept a_tape a_text a_plan a_mat a_desk_boxes a_desk_weeks a_desk_routes a_desk_offers a_desk_wants a_desk_leaves a_desk_leases a_desk_uses v1 v2 v3 isKept planStands today lack rate free words_r words_f h
end MX6_latestWord
/-! EmptyBoxes.isOut -/
section MX6_isOut
theorem hdX6_isOut : yX6_isOut.cls = RX6 ∧ yX6_isOut.cls ≠ "java/lang/invoke/MethodHandle" ∧ yX6_isOut.cls ≠ "java/lang/invoke/VarHandle" ∧ (parseMethodDescriptor yX6_isOut.desc).map (fun d => d.parameters.length) = some 1 := by decide +kernel
abbrev wX6_isOut (G : Gt) (a_eb a_desk a_desk_words a_desk_words_a a_kept a_tape a_text a_plan a_mat a_desk_boxes a_desk_weeks a_desk_routes a_desk_offers a_desk_wants a_desk_leaves a_desk_leases a_desk_uses : Nat) (isKept : Int32) (planStands : Int32) (today : Int32) (lack : Int32) (rate : Int32) (free : Int32) (words_r : Int32) (words_f : (Nat → Int32)) : va_W := [(a_eb, .inr (6, [.ref a_desk, .ref a_kept, .ref a_tape, .ref a_text, .ref a_plan, .ref a_mat, .int isKept, .int planStands])), (a_desk, .inr (0, [.ref a_desk_boxes, .ref a_desk_words, .ref a_desk_weeks, .ref a_desk_routes, .ref a_desk_offers, .ref a_desk_wants, .ref a_desk_leaves, .ref a_desk_leases, .ref a_desk_uses, .int today, .int lack, .int rate, .int free])), (a_desk_words, .inr (4, [.ref a_desk_words_a, .int (5 : Int32), .int (60 : Int32), .int words_r])), (a_desk_words_a, .inl (G.2.1, 300, .inl words_f))]
abbrev rmX6_isOut : Room := { frames := 2, cells := 0, slots := 0, locals := 44 }
theorem iX6_isOut_X0 : ∀ w ∈ wsX00, w ∈ wsX6_isOut := by decide +kernel
theorem iX6_isOut_X6 : ∀ w ∈ wsX60, w ∈ wsX6_isOut := by decide +kernel
theorem eX6_isOut_12 : Fk wsX6_isOut RX6 12 6 0 := ⟨RX6, TX6, 8, rfl, iX6_isOut_X6, by decide, by decide +kernel⟩
theorem eX6_isOut_132 : Fk wsX6_isOut RX6 132 0 1 := ⟨RX0, TX0, 13, rfl, iX6_isOut_X0, by decide, by decide +kernel⟩
theorem ckX6_isOut_X4_cell_113 : CkV wsX6_isOut RX6 113 yX4_cell wsX4_cell cX4_cell 3 (some .int) 2 4 := ⟨RX4, TX4, 4, _, rfl, gX6_isOut_X4_cell, rfl, hdX4_cell⟩
variable {p : Program} {l : Launch} {e : Env} {s : State} {m : MethodId} {args : Array Value} {below : List Frame} {meth : Method} {c : Code} {A : Nat → Prop} {G : Gt} {a_eb a_desk a_desk_words a_desk_words_a a_kept a_tape a_text a_plan a_mat a_desk_boxes a_desk_weeks a_desk_routes a_desk_offers a_desk_wants a_desk_leaves a_desk_leases a_desk_uses : Nat} {isKept : Int32} {planStands : Int32} {today : Int32} {lack : Int32} {rate : Int32} {free : Int32} {words_r : Int32} {words_f : (Nat → Int32)} {res : Int32}
set_option maxHeartbeats 4000000 in
set_option maxRecDepth 100000 in
theorem k0X6_isOut {l : Launch} (G : Gt) (a_eb a_desk a_desk_words a_desk_words_a a_kept a_tape a_text a_plan a_mat a_desk_boxes a_desk_weeks a_desk_routes a_desk_offers a_desk_wants a_desk_leaves a_desk_leases a_desk_uses : Nat) (v1 : Int32) (isKept : Int32) (planStands : Int32) (today : Int32) (lack : Int32) (rate : Int32) (free : Int32) (words_r : Int32) (words_f : (Nat → Int32)) {res : Int32} (h : fX6_isOut v1 words_r words_f = some res) : CtI G l yX6_isOut wsX6_isOut rmX6_isOut [.ref a_eb, .int v1] (wX6_isOut G a_eb a_desk a_desk_words a_desk_words_a a_kept a_tape a_text a_plan a_mat a_desk_boxes a_desk_weeks a_desk_routes a_desk_offers a_desk_wants a_desk_leaves a_desk_leases a_desk_uses isKept planStands today lack rate free words_r words_f) res (wX6_isOut G a_eb a_desk a_desk_words a_desk_words_a a_kept a_tape a_text a_plan a_mat a_desk_boxes a_desk_weeks a_desk_routes a_desk_offers a_desk_wants a_desk_leaves a_desk_leases a_desk_uses isKept planStands today lack rate free words_r words_f) := by
  refine CtI.mk (cc := cX6_isOut) (maxL := 2) (ret := (some .boolean)) (own := RX6) (by decide) rfl rfl (Nat.le_of_ble_eq_true rfl) ?_
  intro p e s m below meth c A X ls hl hW
  obtain ⟨hx, hb, -⟩ := id X.1
  have hl : lv_has ls 2 [(0, .ref a_eb), (1, .int v1)] := hl
  generalize hH : s.heap = H at hW ⊢
  generalize hLo : ([] : List Loc) = locs at hW ⊢
  rw [fX6_isOut] at h
  refine lv_aload_n hx hb dX6_isOut_0 rfl (lv_at hl 0 rfl) ?_
  refine g_get X hW eX6_isOut_12 0 rfl rfl dX6_isOut_1 ?_
  refine g_get X hW eX6_isOut_132 1 rfl rfl dX6_isOut_4 ?_
  refine lv_iload_n hx hb dX6_isOut_7 rfl (lv_at hl 1 rfl) ?_
  refine lv_iconst hx hb dX6_isOut_8 qI_3 ?_
  obtain ⟨r6, hq, h⟩ := bn1_some h
  refine g_cvi X hW (As := [.int v1, .int (3 : Int32)]) (ws' := (wX6_isOut G a_eb a_desk a_desk_words a_desk_words_a a_kept a_tape a_text a_plan a_mat a_desk_boxes a_desk_weeks a_desk_routes a_desk_offers a_desk_wants a_desk_leaves a_desk_leases a_desk_uses isKept planStands today lack rate free words_r words_f)) ckX6_isOut_X4_cell_113 (kcX4_cell (l := l) G a_desk_words a_desk_words_a v1 (3 : Int32) (5 : Int32) (60 : Int32) words_r 300 words_f hq) ⟨rfl, rfl, Nat.le_of_ble_eq_true rfl, Nat.le_of_ble_eq_true rfl⟩ [2, 3] rfl rfl rfl rfl rfl rfl rfl hl.1 (Nat.le_of_ble_eq_true rfl) ⟨Nat.zero_le _, Nat.zero_le _⟩ dX6_isOut_9 (fun H locs hW => ?_)
  refine lv_iconst hx hb dX6_isOut_12 qI_1 ?_
  refine lv_icmp_ne (tgt := 20) hx hb dX6_isOut_13 (by decide) (fun c8 => ?_) (fun c8 => ?_)
  · have h := (if_neg c8).symm.trans h
    refine lv_iconst hx hb dX6_isOut_20 qI_0 ?_
    obtain rfl := Option.some.inj h
    exact g_zret X hW rfl dX6_isOut_21
  · have h := (if_pos c8).symm.trans h
    refine lv_iconst hx hb dX6_isOut_16 qI_1 ?_
    refine lv_goto (tgt := 21) hx hb dX6_isOut_17 (by decide) ?_
    obtain rfl := Option.some.inj h
    exact g_zret X hW rfl dX6_isOut_21
theorem kcX6_isOut {l : Launch} (G : Gt) (a_eb a_desk a_desk_words a_desk_words_a a_kept a_tape a_text a_plan a_mat a_desk_boxes a_desk_weeks a_desk_routes a_desk_offers a_desk_wants a_desk_leaves a_desk_leases a_desk_uses : Nat) (v1 : Int32) (isKept : Int32) (planStands : Int32) (today : Int32) (lack : Int32) (rate : Int32) (free : Int32) (words_r : Int32) (words_f : (Nat → Int32)) {r : Int32}  (h : fX6_isOut v1 words_r words_f = some r) : CtI G l yX6_isOut wsX6_isOut rmX6_isOut [.ref a_eb, .int v1] (wX6_isOut G a_eb a_desk a_desk_words a_desk_words_a a_kept a_tape a_text a_plan a_mat a_desk_boxes a_desk_weeks a_desk_routes a_desk_offers a_desk_wants a_desk_leaves a_desk_leases a_desk_uses isKept planStands today lack rate free words_r words_f) r (wX6_isOut G a_eb a_desk a_desk_words a_desk_words_a a_kept a_tape a_text a_plan a_mat a_desk_boxes a_desk_weeks a_desk_routes a_desk_offers a_desk_wants a_desk_leaves a_desk_leases a_desk_uses isKept planStands today lack rate free words_r words_f) := k0X6_isOut G a_eb a_desk a_desk_words a_desk_words_a a_kept a_tape a_text a_plan a_mat a_desk_boxes a_desk_weeks a_desk_routes a_desk_offers a_desk_wants a_desk_leaves a_desk_leases a_desk_uses v1 isKept planStands today lack rate free words_r words_f h
end MX6_isOut
/-! EmptyBoxes.standing -/
section MX6_standing
theorem hdX6_standing : yX6_standing.cls = RX6 ∧ yX6_standing.cls ≠ "java/lang/invoke/MethodHandle" ∧ yX6_standing.cls ≠ "java/lang/invoke/VarHandle" ∧ (parseMethodDescriptor yX6_standing.desc).map (fun d => d.parameters.length) = some 3 := by decide +kernel
abbrev wX6_standing (G : Gt) (a_eb a_desk a_desk_words a_desk_words_a a_kept a_tape a_text a_plan a_mat a_desk_boxes a_desk_weeks a_desk_routes a_desk_offers a_desk_wants a_desk_leaves a_desk_leases a_desk_uses : Nat) (isKept : Int32) (planStands : Int32) (today : Int32) (lack : Int32) (rate : Int32) (free : Int32) (words_r : Int32) (words_f : (Nat → Int32)) : va_W := [(a_eb, .inr (6, [.ref a_desk, .ref a_kept, .ref a_tape, .ref a_text, .ref a_plan, .ref a_mat, .int isKept, .int planStands])), (a_desk, .inr (0, [.ref a_desk_boxes, .ref a_desk_words, .ref a_desk_weeks, .ref a_desk_routes, .ref a_desk_offers, .ref a_desk_wants, .ref a_desk_leaves, .ref a_desk_leases, .ref a_desk_uses, .int today, .int lack, .int rate, .int free])), (a_desk_words, .inr (4, [.ref a_desk_words_a, .int (5 : Int32), .int (60 : Int32), .int words_r])), (a_desk_words_a, .inl (G.2.1, 300, .inl words_f))]
abbrev rmX6_standing : Room := { frames := 4, cells := 0, slots := 0, locals := 94 }
theorem iX6_standing_X0 : ∀ w ∈ wsX00, w ∈ wsX6_standing := by decide +kernel
theorem iX6_standing_X6 : ∀ w ∈ wsX60, w ∈ wsX6_standing := by decide +kernel
theorem eX6_standing_12 : Fk wsX6_standing RX6 12 6 0 := ⟨RX6, TX6, 8, rfl, iX6_standing_X6, by decide, by decide +kernel⟩
theorem eX6_standing_132 : Fk wsX6_standing RX6 132 0 1 := ⟨RX0, TX0, 13, rfl, iX6_standing_X0, by decide, by decide +kernel⟩
theorem ckX6_standing_X4_cell_113 : CkV wsX6_standing RX6 113 yX4_cell wsX4_cell cX4_cell 3 (some .int) 2 4 := ⟨RX4, TX4, 4, _, rfl, gX6_standing_X4_cell, rfl, hdX4_cell⟩
theorem ckX6_standing_X6_isOut_158 : CkV wsX6_standing RX6 158 yX6_isOut wsX6_isOut cX6_isOut 2 (some .boolean) 1 6 := ⟨RX6, TX6, 8, _, rfl, gX6_standing_X6_isOut, rfl, hdX6_isOut⟩
theorem ckX6_standing_X6_latestWord_142 : CkV wsX6_standing RX6 142 yX6_latestWord wsX6_latestWord cX6_latestWord 8 (some .int) 3 6 := ⟨RX6, TX6, 8, _, rfl, gX6_standing_X6_latestWord, rfl, hdX6_latestWord⟩
variable {p : Program} {l : Launch} {e : Env} {s : State} {m : MethodId} {args : Array Value} {below : List Frame} {meth : Method} {c : Code} {A : Nat → Prop} {G : Gt} {a_eb a_desk a_desk_words a_desk_words_a a_kept a_tape a_text a_plan a_mat a_desk_boxes a_desk_weeks a_desk_routes a_desk_offers a_desk_wants a_desk_leaves a_desk_leases a_desk_uses : Nat} {isKept : Int32} {planStands : Int32} {today : Int32} {lack : Int32} {rate : Int32} {free : Int32} {words_r : Int32} {words_f : (Nat → Int32)} {res : Int32}
set_option maxHeartbeats 4000000 in
set_option maxRecDepth 100000 in
theorem k0X6_standing {l : Launch} (G : Gt) (a_eb a_desk a_desk_words a_desk_words_a a_kept a_tape a_text a_plan a_mat a_desk_boxes a_desk_weeks a_desk_routes a_desk_offers a_desk_wants a_desk_leaves a_desk_leases a_desk_uses : Nat) (v1 : Int32) (v2 : Int32) (v3 : Int32) (isKept : Int32) (planStands : Int32) (today : Int32) (lack : Int32) (rate : Int32) (free : Int32) (words_r : Int32) (words_f : (Nat → Int32)) {res : Int32} (h : fX6_standing v1 v2 v3 words_r words_f = some res) : CtI G l yX6_standing wsX6_standing rmX6_standing [.ref a_eb, .int v1, .int v2, .int v3] (wX6_standing G a_eb a_desk a_desk_words a_desk_words_a a_kept a_tape a_text a_plan a_mat a_desk_boxes a_desk_weeks a_desk_routes a_desk_offers a_desk_wants a_desk_leaves a_desk_leases a_desk_uses isKept planStands today lack rate free words_r words_f) res (wX6_standing G a_eb a_desk a_desk_words a_desk_words_a a_kept a_tape a_text a_plan a_mat a_desk_boxes a_desk_weeks a_desk_routes a_desk_offers a_desk_wants a_desk_leaves a_desk_leases a_desk_uses isKept planStands today lack rate free words_r words_f) := by
  refine CtI.mk (cc := cX6_standing) (maxL := 6) (ret := (some .int)) (own := RX6) (by decide) rfl rfl (Nat.le_of_ble_eq_true rfl) ?_
  intro p e s m below meth c A X ls hl hW
  obtain ⟨hx, hb, -⟩ := id X.1
  have hl : lv_has ls 6 [(0, .ref a_eb), (1, .int v1), (2, .int v2), (3, .int v3)] := hl
  generalize hH : s.heap = H at hW ⊢
  generalize hLo : ([] : List Loc) = locs at hW ⊢
  rw [fX6_standing] at h
  refine lv_aload_n hx hb dX6_standing_0 rfl (lv_at hl 0 rfl) ?_
  refine lv_iload_n hx hb dX6_standing_1 rfl (lv_at hl 1 rfl) ?_
  refine lv_iload_n hx hb dX6_standing_2 rfl (lv_at hl 2 rfl) ?_
  refine lv_iload_n hx hb dX6_standing_3 rfl (lv_at hl 3 rfl) ?_
  obtain ⟨r5, hq, h⟩ := bn1_some h
  refine g_cvi X hW (As := [.int v1, .int v2, .int v3]) (ws' := (wX6_standing G a_eb a_desk a_desk_words a_desk_words_a a_kept a_tape a_text a_plan a_mat a_desk_boxes a_desk_weeks a_desk_routes a_desk_offers a_desk_wants a_desk_leaves a_desk_leases a_desk_uses isKept planStands today lack rate free words_r words_f)) ckX6_standing_X6_latestWord_142 (kcX6_latestWord (l := l) G a_eb a_desk a_desk_words a_desk_words_a a_kept a_tape a_text a_plan a_mat a_desk_boxes a_desk_weeks a_desk_routes a_desk_offers a_desk_wants a_desk_leaves a_desk_leases a_desk_uses v1 v2 v3 isKept planStands today lack rate free words_r words_f hq) ⟨rfl, rfl, Nat.le_of_ble_eq_true rfl, Nat.le_of_ble_eq_true rfl⟩ [0, 1, 2, 3] rfl rfl rfl rfl rfl rfl rfl hl.1 (Nat.le_of_ble_eq_true rfl) ⟨Nat.zero_le _, Nat.zero_le _⟩ dX6_standing_4 (fun H locs hW => ?_)
  refine lv_istore (lv' := [(4, .int r5), (0, .ref a_eb), (1, .int v1), (2, .int v2), (3, .int v3)]) hx hb dX6_standing_7 hl (by decide) rfl (fun ls hl => ?_)
  refine lv_iload hx hb dX6_standing_9 (lv_at hl 0 rfl) ?_
  refine lv_if_ge (tgt := 17) hx hb dX6_standing_11 (by decide) (fun c8 => ?_) (fun c8 => ?_)
  · have h := (if_pos c8).symm.trans h
    refine lv_aload_n hx hb dX6_standing_17 rfl (lv_at hl 1 rfl) ?_
    refine g_get X hW eX6_standing_12 0 rfl rfl dX6_standing_18 ?_
    refine g_get X hW eX6_standing_132 1 rfl rfl dX6_standing_21 ?_
    refine lv_iload hx hb dX6_standing_24 (lv_at hl 0 rfl) ?_
    refine lv_iconst hx hb dX6_standing_26 qI_2 ?_
    obtain ⟨r14, hq, h⟩ := bn1_some h
    refine g_cvi X hW (As := [.int r5, .int (2 : Int32)]) (ws' := (wX6_standing G a_eb a_desk a_desk_words a_desk_words_a a_kept a_tape a_text a_plan a_mat a_desk_boxes a_desk_weeks a_desk_routes a_desk_offers a_desk_wants a_desk_leaves a_desk_leases a_desk_uses isKept planStands today lack rate free words_r words_f)) ckX6_standing_X4_cell_113 (kcX4_cell (l := l) G a_desk_words a_desk_words_a r5 (2 : Int32) (5 : Int32) (60 : Int32) words_r 300 words_f hq) ⟨rfl, rfl, Nat.le_of_ble_eq_true rfl, Nat.le_of_ble_eq_true rfl⟩ [2, 3] rfl rfl rfl rfl rfl rfl rfl hl.1 (Nat.le_of_ble_eq_true rfl) ⟨Nat.zero_le _, Nat.zero_le _⟩ dX6_standing_27 (fun H locs hW => ?_)
    refine lv_istore (lv' := [(5, .int r14), (4, .int r5), (0, .ref a_eb), (1, .int v1), (2, .int v2), (3, .int v3)]) hx hb dX6_standing_30 hl (by decide) rfl (fun ls hl => ?_)
    refine lv_aload_n hx hb dX6_standing_32 rfl (lv_at hl 2 rfl) ?_
    refine lv_iload hx hb dX6_standing_33 (lv_at hl 1 rfl) ?_
    obtain ⟨r18, hq, h⟩ := bn1_some h
    refine g_cvi X hW (As := [.int r5]) (ws' := (wX6_standing G a_eb a_desk a_desk_words a_desk_words_a a_kept a_tape a_text a_plan a_mat a_desk_boxes a_desk_weeks a_desk_routes a_desk_offers a_desk_wants a_desk_leaves a_desk_leases a_desk_uses isKept planStands today lack rate free words_r words_f)) ckX6_standing_X6_isOut_158 (kcX6_isOut (l := l) G a_eb a_desk a_desk_words a_desk_words_a a_kept a_tape a_text a_plan a_mat a_desk_boxes a_desk_weeks a_desk_routes a_desk_offers a_desk_wants a_desk_leaves a_desk_leases a_desk_uses r5 isKept planStands today lack rate free words_r words_f hq) ⟨rfl, rfl, Nat.le_of_ble_eq_true rfl, Nat.le_of_ble_eq_true rfl⟩ [0, 1, 2, 3] rfl rfl rfl rfl rfl rfl rfl hl.1 (Nat.le_of_ble_eq_true rfl) ⟨Nat.zero_le _, Nat.zero_le _⟩ dX6_standing_35 (fun H locs hW => ?_)
    refine lv_if_eq (tgt := 49) hx hb dX6_standing_38 (by decide) (fun c19 => ?_) (fun c19 => ?_)
    · have h := (if_pos c19).symm.trans h
      refine lv_iload hx hb dX6_standing_49 (lv_at hl 0 rfl) ?_
      obtain rfl := Option.some.inj h
      exact g_iret X hW dX6_standing_51
    · have h := (if_neg c19).symm.trans h
      refine lv_bipush hx hb dX6_standing_41 qB_10 ?_
      refine lv_iload hx hb dX6_standing_43 (lv_at hl 0 rfl) ?_
      refine lv_iadd hx hb dX6_standing_45 ?_
      refine lv_goto (tgt := 51) hx hb dX6_standing_46 (by decide) ?_
      obtain rfl := Option.some.inj h
      exact g_iret X hW dX6_standing_51
  · have h := (if_neg c8).symm.trans h
    refine lv_bipush hx hb dX6_standing_14 qB_20 ?_
    obtain rfl := Option.some.inj h
    exact g_iret X hW dX6_standing_16
theorem kcX6_standing {l : Launch} (G : Gt) (a_eb a_desk a_desk_words a_desk_words_a a_kept a_tape a_text a_plan a_mat a_desk_boxes a_desk_weeks a_desk_routes a_desk_offers a_desk_wants a_desk_leaves a_desk_leases a_desk_uses : Nat) (v1 : Int32) (v2 : Int32) (v3 : Int32) (isKept : Int32) (planStands : Int32) (today : Int32) (lack : Int32) (rate : Int32) (free : Int32) (words_r : Int32) (words_f : (Nat → Int32)) {r : Int32}  (h : fX6_standing v1 v2 v3 words_r words_f = some r) : CtI G l yX6_standing wsX6_standing rmX6_standing [.ref a_eb, .int v1, .int v2, .int v3] (wX6_standing G a_eb a_desk a_desk_words a_desk_words_a a_kept a_tape a_text a_plan a_mat a_desk_boxes a_desk_weeks a_desk_routes a_desk_offers a_desk_wants a_desk_leaves a_desk_leases a_desk_uses isKept planStands today lack rate free words_r words_f) r (wX6_standing G a_eb a_desk a_desk_words a_desk_words_a a_kept a_tape a_text a_plan a_mat a_desk_boxes a_desk_weeks a_desk_routes a_desk_offers a_desk_wants a_desk_leaves a_desk_leases a_desk_uses isKept planStands today lack rate free words_r words_f) := k0X6_standing G a_eb a_desk a_desk_words a_desk_words_a a_kept a_tape a_text a_plan a_mat a_desk_boxes a_desk_weeks a_desk_routes a_desk_offers a_desk_wants a_desk_leaves a_desk_leases a_desk_uses v1 v2 v3 isKept planStands today lack rate free words_r words_f h
end MX6_standing
/-! EmptyBoxes.where -/
section MX6_where
theorem hdX6_where : yX6_where.cls = RX6 ∧ yX6_where.cls ≠ "java/lang/invoke/MethodHandle" ∧ yX6_where.cls ≠ "java/lang/invoke/VarHandle" ∧ (parseMethodDescriptor yX6_where.desc).map (fun d => d.parameters.length) = some 3 := by decide +kernel
abbrev wX6_where (G : Gt) (a_eb a_desk a_desk_boxes a_desk_words a_desk_words_a a_kept a_tape a_text a_plan a_mat a_desk_weeks a_desk_routes a_desk_offers a_desk_wants a_desk_leaves a_desk_leases a_desk_uses a_desk_boxes_a : Nat) (isKept : Int32) (planStands : Int32) (today : Int32) (lack : Int32) (rate : Int32) (free : Int32) (boxes_r : Int32) (words_r : Int32) (words_f : (Nat → Int32)) : va_W := [(a_eb, .inr (6, [.ref a_desk, .ref a_kept, .ref a_tape, .ref a_text, .ref a_plan, .ref a_mat, .int isKept, .int planStands])), (a_desk, .inr (0, [.ref a_desk_boxes, .ref a_desk_words, .ref a_desk_weeks, .ref a_desk_routes, .ref a_desk_offers, .ref a_desk_wants, .ref a_desk_leaves, .ref a_desk_leases, .ref a_desk_uses, .int today, .int lack, .int rate, .int free])), (a_desk_boxes, .inr (4, [.ref a_desk_boxes_a, .int (9 : Int32), .int (24 : Int32), .int boxes_r])), (a_desk_words, .inr (4, [.ref a_desk_words_a, .int (5 : Int32), .int (60 : Int32), .int words_r])), (a_desk_words_a, .inl (G.2.1, 300, .inl words_f))]
abbrev rmX6_where : Room := { frames := 5, cells := 0, slots := 0, locals := 119 }
theorem iX6_where_X0 : ∀ w ∈ wsX00, w ∈ wsX6_where := by decide +kernel
theorem iX6_where_X6 : ∀ w ∈ wsX60, w ∈ wsX6_where := by decide +kernel
theorem eX6_where_12 : Fk wsX6_where RX6 12 6 0 := ⟨RX6, TX6, 8, rfl, iX6_where_X6, by decide, by decide +kernel⟩
theorem eX6_where_82 : Fk wsX6_where RX6 82 0 0 := ⟨RX0, TX0, 13, rfl, iX6_where_X0, by decide, by decide +kernel⟩
theorem ckX6_where_X4_has_110 : CkV wsX6_where RX6 110 yX4_has wsX4_has cX4_has 2 (some .boolean) 1 4 := ⟨RX4, TX4, 4, _, rfl, gX6_where_X4_has, rfl, hdX4_has⟩
theorem ckX6_where_X6_isDay_135 : CkS wsX6_where RX6 135 yX6_isDay wsX6_isDay cX6_isDay 1 (some .boolean) 1 := ⟨_, gX6_where_X6_isDay, rfl, hdX6_isDay.2⟩
theorem ckX6_where_X6_isPastDay_123 : CkV wsX6_where RX6 123 yX6_isPastDay wsX6_isPastDay cX6_isPastDay 2 (some .boolean) 1 6 := ⟨RX6, TX6, 8, _, rfl, gX6_where_X6_isPastDay, rfl, hdX6_isPastDay⟩
theorem ckX6_where_X6_standing_138 : CkV wsX6_where RX6 138 yX6_standing wsX6_standing cX6_standing 6 (some .int) 3 6 := ⟨RX6, TX6, 8, _, rfl, gX6_where_X6_standing, rfl, hdX6_standing⟩
variable {p : Program} {l : Launch} {e : Env} {s : State} {m : MethodId} {args : Array Value} {below : List Frame} {meth : Method} {c : Code} {A : Nat → Prop} {G : Gt} {a_eb a_desk a_desk_boxes a_desk_words a_desk_words_a a_kept a_tape a_text a_plan a_mat a_desk_weeks a_desk_routes a_desk_offers a_desk_wants a_desk_leaves a_desk_leases a_desk_uses a_desk_boxes_a : Nat} {isKept : Int32} {planStands : Int32} {today : Int32} {lack : Int32} {rate : Int32} {free : Int32} {boxes_r : Int32} {words_r : Int32} {words_f : (Nat → Int32)} {res : Int32}
set_option maxHeartbeats 4000000 in
set_option maxRecDepth 100000 in
theorem k0X6_where {l : Launch} (G : Gt) (a_eb a_desk a_desk_boxes a_desk_words a_desk_words_a a_kept a_tape a_text a_plan a_mat a_desk_weeks a_desk_routes a_desk_offers a_desk_wants a_desk_leaves a_desk_leases a_desk_uses a_desk_boxes_a : Nat) (v1 : Int32) (v2 : Int32) (v3 : Int32) (isKept : Int32) (planStands : Int32) (today : Int32) (lack : Int32) (rate : Int32) (free : Int32) (boxes_r : Int32) (words_r : Int32) (words_f : (Nat → Int32)) {res : Int32} (h : fX6_where v1 v2 v3 today boxes_r words_r words_f = some res) : CtI G l yX6_where wsX6_where rmX6_where [.ref a_eb, .int v1, .int v2, .int v3] (wX6_where G a_eb a_desk a_desk_boxes a_desk_words a_desk_words_a a_kept a_tape a_text a_plan a_mat a_desk_weeks a_desk_routes a_desk_offers a_desk_wants a_desk_leaves a_desk_leases a_desk_uses a_desk_boxes_a isKept planStands today lack rate free boxes_r words_r words_f) res (wX6_where G a_eb a_desk a_desk_boxes a_desk_words a_desk_words_a a_kept a_tape a_text a_plan a_mat a_desk_weeks a_desk_routes a_desk_offers a_desk_wants a_desk_leaves a_desk_leases a_desk_uses a_desk_boxes_a isKept planStands today lack rate free boxes_r words_r words_f) := by
  refine CtI.mk (cc := cX6_where) (maxL := 4) (ret := (some .int)) (own := RX6) (by decide) rfl rfl (Nat.le_of_ble_eq_true rfl) ?_
  intro p e s m below meth c A X ls hl hW
  obtain ⟨hx, hb, -⟩ := id X.1
  have hl : lv_has ls 4 [(0, .ref a_eb), (1, .int v1), (2, .int v2), (3, .int v3)] := hl
  generalize hH : s.heap = H at hW ⊢
  generalize hLo : ([] : List Loc) = locs at hW ⊢
  rw [fX6_where] at h
  refine lv_aload_n hx hb dX6_where_0 rfl (lv_at hl 0 rfl) ?_
  refine g_get X hW eX6_where_12 0 rfl rfl dX6_where_1 ?_
  refine g_get X hW eX6_where_82 1 rfl rfl dX6_where_4 ?_
  refine lv_iload_n hx hb dX6_where_7 rfl (lv_at hl 1 rfl) ?_
  obtain ⟨r5, hq, h⟩ := bn1_some h
  refine g_cvi X hW (As := [.int v1]) (ws' := (wX6_where G a_eb a_desk a_desk_boxes a_desk_words a_desk_words_a a_kept a_tape a_text a_plan a_mat a_desk_weeks a_desk_routes a_desk_offers a_desk_wants a_desk_leaves a_desk_leases a_desk_uses a_desk_boxes_a isKept planStands today lack rate free boxes_r words_r words_f)) ckX6_where_X4_has_110 (kcX4_has (l := l) G a_desk_boxes a_desk_boxes_a v1 (9 : Int32) (24 : Int32) boxes_r hq) ⟨rfl, rfl, Nat.le_of_ble_eq_true rfl, Nat.le_of_ble_eq_true rfl⟩ [2] rfl rfl rfl rfl rfl rfl rfl hl.1 (Nat.le_of_ble_eq_true rfl) ⟨Nat.zero_le _, Nat.zero_le _⟩ dX6_where_8 (fun H locs hW => ?_)
  refine lv_if_eq (tgt := 29) hx hb dX6_where_11 (by decide) (fun c6 => ?_) (fun c6 => ?_)
  · have h := (if_pos c6).symm.trans h
    refine lv_iconst hx hb dX6_where_29 qI_m1 ?_
    obtain rfl := Option.some.inj h
    exact g_iret X hW dX6_where_30
  · have h := (if_neg c6).symm.trans h
    refine lv_iload_n hx hb dX6_where_14 rfl (lv_at hl 2 rfl) ?_
    obtain ⟨r10, hq, h⟩ := bn1_some h
    refine g_csi X hW (As := [.int v2]) (ws' := (wX6_where G a_eb a_desk a_desk_boxes a_desk_words a_desk_words_a a_kept a_tape a_text a_plan a_mat a_desk_weeks a_desk_routes a_desk_offers a_desk_wants a_desk_leaves a_desk_leases a_desk_uses a_desk_boxes_a isKept planStands today lack rate free boxes_r words_r words_f)) ckX6_where_X6_isDay_135 (kcX6_isDay (l := l) G v2 hq) ⟨rfl, rfl, Nat.le_of_ble_eq_true rfl, Nat.le_of_ble_eq_true rfl⟩ [] rfl rfl rfl rfl rfl rfl hl.1 (Nat.le_of_ble_eq_true rfl) ⟨Nat.zero_le _, Nat.zero_le _⟩ dX6_where_15 (fun H locs hW => ?_)
    refine lv_if_eq (tgt := 29) hx hb dX6_where_18 (by decide) (fun c11 => ?_) (fun c11 => ?_)
    · have h := (if_pos c11).symm.trans h
      refine lv_iconst hx hb dX6_where_29 qI_m1 ?_
      obtain rfl := Option.some.inj h
      exact g_iret X hW dX6_where_30
    · have h := (if_neg c11).symm.trans h
      refine lv_aload_n hx hb dX6_where_21 rfl (lv_at hl 0 rfl) ?_
      refine lv_iload_n hx hb dX6_where_22 rfl (lv_at hl 3 rfl) ?_
      obtain ⟨r16, hq, h⟩ := bn1_some h
      refine g_cvi X hW (As := [.int v3]) (ws' := (wX6_where G a_eb a_desk a_desk_boxes a_desk_words a_desk_words_a a_kept a_tape a_text a_plan a_mat a_desk_weeks a_desk_routes a_desk_offers a_desk_wants a_desk_leaves a_desk_leases a_desk_uses a_desk_boxes_a isKept planStands today lack rate free boxes_r words_r words_f)) ckX6_where_X6_isPastDay_123 (kcX6_isPastDay (l := l) G a_eb a_desk a_kept a_tape a_text a_plan a_mat a_desk_boxes a_desk_words a_desk_weeks a_desk_routes a_desk_offers a_desk_wants a_desk_leaves a_desk_leases a_desk_uses v3 isKept planStands today lack rate free hq) ⟨rfl, rfl, Nat.le_of_ble_eq_true rfl, Nat.le_of_ble_eq_true rfl⟩ [0, 1] rfl rfl rfl rfl rfl rfl rfl hl.1 (Nat.le_of_ble_eq_true rfl) ⟨Nat.zero_le _, Nat.zero_le _⟩ dX6_where_23 (fun H locs hW => ?_)
      refine lv_if_ne (tgt := 31) hx hb dX6_where_26 (by decide) (fun c17 => ?_) (fun c17 => ?_)
      · have h := (if_neg c17).symm.trans h
        refine lv_aload_n hx hb dX6_where_31 rfl (lv_at hl 0 rfl) ?_
        refine lv_iload_n hx hb dX6_where_32 rfl (lv_at hl 1 rfl) ?_
        refine lv_iload_n hx hb dX6_where_33 rfl (lv_at hl 2 rfl) ?_
        refine lv_iload_n hx hb dX6_where_34 rfl (lv_at hl 3 rfl) ?_
        obtain ⟨r22, hq, h⟩ := bn1_some h
        refine g_cvi X hW (As := [.int v1, .int v2, .int v3]) (ws' := (wX6_where G a_eb a_desk a_desk_boxes a_desk_words a_desk_words_a a_kept a_tape a_text a_plan a_mat a_desk_weeks a_desk_routes a_desk_offers a_desk_wants a_desk_leaves a_desk_leases a_desk_uses a_desk_boxes_a isKept planStands today lack rate free boxes_r words_r words_f)) ckX6_where_X6_standing_138 (kcX6_standing (l := l) G a_eb a_desk a_desk_words a_desk_words_a a_kept a_tape a_text a_plan a_mat a_desk_boxes a_desk_weeks a_desk_routes a_desk_offers a_desk_wants a_desk_leaves a_desk_leases a_desk_uses v1 v2 v3 isKept planStands today lack rate free words_r words_f hq) ⟨rfl, rfl, Nat.le_of_ble_eq_true rfl, Nat.le_of_ble_eq_true rfl⟩ [0, 1, 3, 4] rfl rfl rfl rfl rfl rfl rfl hl.1 (Nat.le_of_ble_eq_true rfl) ⟨Nat.zero_le _, Nat.zero_le _⟩ dX6_where_35 (fun H locs hW => ?_)
        obtain rfl := Option.some.inj h
        exact g_iret X hW dX6_where_38
      · have h := (if_pos c17).symm.trans h
        refine lv_iconst hx hb dX6_where_29 qI_m1 ?_
        obtain rfl := Option.some.inj h
        exact g_iret X hW dX6_where_30
theorem kcX6_where {l : Launch} (G : Gt) (a_eb a_desk a_desk_boxes a_desk_words a_desk_words_a a_kept a_tape a_text a_plan a_mat a_desk_weeks a_desk_routes a_desk_offers a_desk_wants a_desk_leaves a_desk_leases a_desk_uses a_desk_boxes_a : Nat) (v1 : Int32) (v2 : Int32) (v3 : Int32) (isKept : Int32) (planStands : Int32) (today : Int32) (lack : Int32) (rate : Int32) (free : Int32) (boxes_r : Int32) (words_r : Int32) (words_f : (Nat → Int32)) {r : Int32}  (h : fX6_where v1 v2 v3 today boxes_r words_r words_f = some r) : CtI G l yX6_where wsX6_where rmX6_where [.ref a_eb, .int v1, .int v2, .int v3] (wX6_where G a_eb a_desk a_desk_boxes a_desk_words a_desk_words_a a_kept a_tape a_text a_plan a_mat a_desk_weeks a_desk_routes a_desk_offers a_desk_wants a_desk_leaves a_desk_leases a_desk_uses a_desk_boxes_a isKept planStands today lack rate free boxes_r words_r words_f) r (wX6_where G a_eb a_desk a_desk_boxes a_desk_words a_desk_words_a a_kept a_tape a_text a_plan a_mat a_desk_weeks a_desk_routes a_desk_offers a_desk_wants a_desk_leaves a_desk_leases a_desk_uses a_desk_boxes_a isKept planStands today lack rate free boxes_r words_r words_f) := k0X6_where G a_eb a_desk a_desk_boxes a_desk_words a_desk_words_a a_kept a_tape a_text a_plan a_mat a_desk_weeks a_desk_routes a_desk_offers a_desk_wants a_desk_leaves a_desk_leases a_desk_uses a_desk_boxes_a v1 v2 v3 isKept planStands today lack rate free boxes_r words_r words_f h
end MX6_where
/-! EmptyBoxes.since -/
section MX6_since
theorem hdX6_since : yX6_since.cls = RX6 ∧ yX6_since.cls ≠ "java/lang/invoke/MethodHandle" ∧ yX6_since.cls ≠ "java/lang/invoke/VarHandle" ∧ (parseMethodDescriptor yX6_since.desc).map (fun d => d.parameters.length) = some 3 := by decide +kernel
abbrev wX6_since (G : Gt) (a_eb a_desk a_desk_boxes a_desk_words a_desk_words_a a_kept a_tape a_text a_plan a_mat a_desk_weeks a_desk_routes a_desk_offers a_desk_wants a_desk_leaves a_desk_leases a_desk_uses a_desk_boxes_a : Nat) (isKept : Int32) (planStands : Int32) (today : Int32) (lack : Int32) (rate : Int32) (free : Int32) (boxes_r : Int32) (words_r : Int32) (words_f : (Nat → Int32)) : va_W := [(a_eb, .inr (6, [.ref a_desk, .ref a_kept, .ref a_tape, .ref a_text, .ref a_plan, .ref a_mat, .int isKept, .int planStands])), (a_desk, .inr (0, [.ref a_desk_boxes, .ref a_desk_words, .ref a_desk_weeks, .ref a_desk_routes, .ref a_desk_offers, .ref a_desk_wants, .ref a_desk_leaves, .ref a_desk_leases, .ref a_desk_uses, .int today, .int lack, .int rate, .int free])), (a_desk_boxes, .inr (4, [.ref a_desk_boxes_a, .int (9 : Int32), .int (24 : Int32), .int boxes_r])), (a_desk_words, .inr (4, [.ref a_desk_words_a, .int (5 : Int32), .int (60 : Int32), .int words_r])), (a_desk_words_a, .inl (G.2.1, 300, .inl words_f))]
abbrev rmX6_since : Room := { frames := 4, cells := 0, slots := 0, locals := 94 }
theorem iX6_since_X0 : ∀ w ∈ wsX00, w ∈ wsX6_since := by decide +kernel
theorem iX6_since_X6 : ∀ w ∈ wsX60, w ∈ wsX6_since := by decide +kernel
theorem eX6_since_12 : Fk wsX6_since RX6 12 6 0 := ⟨RX6, TX6, 8, rfl, iX6_since_X6, by decide, by decide +kernel⟩
theorem eX6_since_132 : Fk wsX6_since RX6 132 0 1 := ⟨RX0, TX0, 13, rfl, iX6_since_X0, by decide, by decide +kernel⟩
theorem eX6_since_82 : Fk wsX6_since RX6 82 0 0 := ⟨RX0, TX0, 13, rfl, iX6_since_X0, by decide, by decide +kernel⟩
theorem ckX6_since_X4_cell_113 : CkV wsX6_since RX6 113 yX4_cell wsX4_cell cX4_cell 3 (some .int) 2 4 := ⟨RX4, TX4, 4, _, rfl, gX6_since_X4_cell, rfl, hdX4_cell⟩
theorem ckX6_since_X4_has_110 : CkV wsX6_since RX6 110 yX4_has wsX4_has cX4_has 2 (some .boolean) 1 4 := ⟨RX4, TX4, 4, _, rfl, gX6_since_X4_has, rfl, hdX4_has⟩
theorem ckX6_since_X6_isDay_135 : CkS wsX6_since RX6 135 yX6_isDay wsX6_isDay cX6_isDay 1 (some .boolean) 1 := ⟨_, gX6_since_X6_isDay, rfl, hdX6_isDay.2⟩
theorem ckX6_since_X6_isPastDay_123 : CkV wsX6_since RX6 123 yX6_isPastDay wsX6_isPastDay cX6_isPastDay 2 (some .boolean) 1 6 := ⟨RX6, TX6, 8, _, rfl, gX6_since_X6_isPastDay, rfl, hdX6_isPastDay⟩
theorem ckX6_since_X6_latestWord_142 : CkV wsX6_since RX6 142 yX6_latestWord wsX6_latestWord cX6_latestWord 8 (some .int) 3 6 := ⟨RX6, TX6, 8, _, rfl, gX6_since_X6_latestWord, rfl, hdX6_latestWord⟩
variable {p : Program} {l : Launch} {e : Env} {s : State} {m : MethodId} {args : Array Value} {below : List Frame} {meth : Method} {c : Code} {A : Nat → Prop} {G : Gt} {a_eb a_desk a_desk_boxes a_desk_words a_desk_words_a a_kept a_tape a_text a_plan a_mat a_desk_weeks a_desk_routes a_desk_offers a_desk_wants a_desk_leaves a_desk_leases a_desk_uses a_desk_boxes_a : Nat} {isKept : Int32} {planStands : Int32} {today : Int32} {lack : Int32} {rate : Int32} {free : Int32} {boxes_r : Int32} {words_r : Int32} {words_f : (Nat → Int32)} {res : Int32}
set_option maxHeartbeats 4000000 in
set_option maxRecDepth 100000 in
theorem k0X6_since {l : Launch} (G : Gt) (a_eb a_desk a_desk_boxes a_desk_words a_desk_words_a a_kept a_tape a_text a_plan a_mat a_desk_weeks a_desk_routes a_desk_offers a_desk_wants a_desk_leaves a_desk_leases a_desk_uses a_desk_boxes_a : Nat) (v1 : Int32) (v2 : Int32) (v3 : Int32) (isKept : Int32) (planStands : Int32) (today : Int32) (lack : Int32) (rate : Int32) (free : Int32) (boxes_r : Int32) (words_r : Int32) (words_f : (Nat → Int32)) {res : Int32} (h : fX6_since v1 v2 v3 today boxes_r words_r words_f = some res) : CtI G l yX6_since wsX6_since rmX6_since [.ref a_eb, .int v1, .int v2, .int v3] (wX6_since G a_eb a_desk a_desk_boxes a_desk_words a_desk_words_a a_kept a_tape a_text a_plan a_mat a_desk_weeks a_desk_routes a_desk_offers a_desk_wants a_desk_leaves a_desk_leases a_desk_uses a_desk_boxes_a isKept planStands today lack rate free boxes_r words_r words_f) res (wX6_since G a_eb a_desk a_desk_boxes a_desk_words a_desk_words_a a_kept a_tape a_text a_plan a_mat a_desk_weeks a_desk_routes a_desk_offers a_desk_wants a_desk_leaves a_desk_leases a_desk_uses a_desk_boxes_a isKept planStands today lack rate free boxes_r words_r words_f) := by
  refine CtI.mk (cc := cX6_since) (maxL := 5) (ret := (some .int)) (own := RX6) (by decide) rfl rfl (Nat.le_of_ble_eq_true rfl) ?_
  intro p e s m below meth c A X ls hl hW
  obtain ⟨hx, hb, -⟩ := id X.1
  have hl : lv_has ls 5 [(0, .ref a_eb), (1, .int v1), (2, .int v2), (3, .int v3)] := hl
  generalize hH : s.heap = H at hW ⊢
  generalize hLo : ([] : List Loc) = locs at hW ⊢
  rw [fX6_since] at h
  refine lv_aload_n hx hb dX6_since_0 rfl (lv_at hl 0 rfl) ?_
  refine g_get X hW eX6_since_12 0 rfl rfl dX6_since_1 ?_
  refine g_get X hW eX6_since_82 1 rfl rfl dX6_since_4 ?_
  refine lv_iload_n hx hb dX6_since_7 rfl (lv_at hl 1 rfl) ?_
  obtain ⟨r5, hq, h⟩ := bn1_some h
  refine g_cvi X hW (As := [.int v1]) (ws' := (wX6_since G a_eb a_desk a_desk_boxes a_desk_words a_desk_words_a a_kept a_tape a_text a_plan a_mat a_desk_weeks a_desk_routes a_desk_offers a_desk_wants a_desk_leaves a_desk_leases a_desk_uses a_desk_boxes_a isKept planStands today lack rate free boxes_r words_r words_f)) ckX6_since_X4_has_110 (kcX4_has (l := l) G a_desk_boxes a_desk_boxes_a v1 (9 : Int32) (24 : Int32) boxes_r hq) ⟨rfl, rfl, Nat.le_of_ble_eq_true rfl, Nat.le_of_ble_eq_true rfl⟩ [2] rfl rfl rfl rfl rfl rfl rfl hl.1 (Nat.le_of_ble_eq_true rfl) ⟨Nat.zero_le _, Nat.zero_le _⟩ dX6_since_8 (fun H locs hW => ?_)
  refine lv_if_eq (tgt := 29) hx hb dX6_since_11 (by decide) (fun c6 => ?_) (fun c6 => ?_)
  · have h := (if_pos c6).symm.trans h
    refine lv_iconst hx hb dX6_since_29 qI_m1 ?_
    obtain rfl := Option.some.inj h
    exact g_iret X hW dX6_since_30
  · have h := (if_neg c6).symm.trans h
    refine lv_iload_n hx hb dX6_since_14 rfl (lv_at hl 2 rfl) ?_
    obtain ⟨r10, hq, h⟩ := bn1_some h
    refine g_csi X hW (As := [.int v2]) (ws' := (wX6_since G a_eb a_desk a_desk_boxes a_desk_words a_desk_words_a a_kept a_tape a_text a_plan a_mat a_desk_weeks a_desk_routes a_desk_offers a_desk_wants a_desk_leaves a_desk_leases a_desk_uses a_desk_boxes_a isKept planStands today lack rate free boxes_r words_r words_f)) ckX6_since_X6_isDay_135 (kcX6_isDay (l := l) G v2 hq) ⟨rfl, rfl, Nat.le_of_ble_eq_true rfl, Nat.le_of_ble_eq_true rfl⟩ [] rfl rfl rfl rfl rfl rfl hl.1 (Nat.le_of_ble_eq_true rfl) ⟨Nat.zero_le _, Nat.zero_le _⟩ dX6_since_15 (fun H locs hW => ?_)
    refine lv_if_eq (tgt := 29) hx hb dX6_since_18 (by decide) (fun c11 => ?_) (fun c11 => ?_)
    · have h := (if_pos c11).symm.trans h
      refine lv_iconst hx hb dX6_since_29 qI_m1 ?_
      obtain rfl := Option.some.inj h
      exact g_iret X hW dX6_since_30
    · have h := (if_neg c11).symm.trans h
      refine lv_aload_n hx hb dX6_since_21 rfl (lv_at hl 0 rfl) ?_
      refine lv_iload_n hx hb dX6_since_22 rfl (lv_at hl 3 rfl) ?_
      obtain ⟨r16, hq, h⟩ := bn1_some h
      refine g_cvi X hW (As := [.int v3]) (ws' := (wX6_since G a_eb a_desk a_desk_boxes a_desk_words a_desk_words_a a_kept a_tape a_text a_plan a_mat a_desk_weeks a_desk_routes a_desk_offers a_desk_wants a_desk_leaves a_desk_leases a_desk_uses a_desk_boxes_a isKept planStands today lack rate free boxes_r words_r words_f)) ckX6_since_X6_isPastDay_123 (kcX6_isPastDay (l := l) G a_eb a_desk a_kept a_tape a_text a_plan a_mat a_desk_boxes a_desk_words a_desk_weeks a_desk_routes a_desk_offers a_desk_wants a_desk_leaves a_desk_leases a_desk_uses v3 isKept planStands today lack rate free hq) ⟨rfl, rfl, Nat.le_of_ble_eq_true rfl, Nat.le_of_ble_eq_true rfl⟩ [0, 1] rfl rfl rfl rfl rfl rfl rfl hl.1 (Nat.le_of_ble_eq_true rfl) ⟨Nat.zero_le _, Nat.zero_le _⟩ dX6_since_23 (fun H locs hW => ?_)
      refine lv_if_ne (tgt := 31) hx hb dX6_since_26 (by decide) (fun c17 => ?_) (fun c17 => ?_)
      · have h := (if_neg c17).symm.trans h
        refine lv_aload_n hx hb dX6_since_31 rfl (lv_at hl 0 rfl) ?_
        refine lv_iload_n hx hb dX6_since_32 rfl (lv_at hl 1 rfl) ?_
        refine lv_iload_n hx hb dX6_since_33 rfl (lv_at hl 2 rfl) ?_
        refine lv_iload_n hx hb dX6_since_34 rfl (lv_at hl 3 rfl) ?_
        obtain ⟨r22, hq, h⟩ := bn1_some h
        refine g_cvi X hW (As := [.int v1, .int v2, .int v3]) (ws' := (wX6_since G a_eb a_desk a_desk_boxes a_desk_words a_desk_words_a a_kept a_tape a_text a_plan a_mat a_desk_weeks a_desk_routes a_desk_offers a_desk_wants a_desk_leaves a_desk_leases a_desk_uses a_desk_boxes_a isKept planStands today lack rate free boxes_r words_r words_f)) ckX6_since_X6_latestWord_142 (kcX6_latestWord (l := l) G a_eb a_desk a_desk_words a_desk_words_a a_kept a_tape a_text a_plan a_mat a_desk_boxes a_desk_weeks a_desk_routes a_desk_offers a_desk_wants a_desk_leaves a_desk_leases a_desk_uses v1 v2 v3 isKept planStands today lack rate free words_r words_f hq) ⟨rfl, rfl, Nat.le_of_ble_eq_true rfl, Nat.le_of_ble_eq_true rfl⟩ [0, 1, 3, 4] rfl rfl rfl rfl rfl rfl rfl hl.1 (Nat.le_of_ble_eq_true rfl) ⟨Nat.zero_le _, Nat.zero_le _⟩ dX6_since_35 (fun H locs hW => ?_)
        refine lv_istore (lv' := [(4, .int r22), (0, .ref a_eb), (1, .int v1), (2, .int v2), (3, .int v3)]) hx hb dX6_since_38 hl (by decide) rfl (fun ls hl => ?_)
        refine lv_iload hx hb dX6_since_40 (lv_at hl 0 rfl) ?_
        refine lv_if_lt (tgt := 61) hx hb dX6_since_42 (by decide) (fun c25 => ?_) (fun c25 => ?_)
        · have h := (if_pos c25).symm.trans h
          refine lv_bipush hx hb dX6_since_61 qB_m3 ?_
          obtain rfl := Option.some.inj h
          exact g_iret X hW dX6_since_63
        · have h := (if_neg c25).symm.trans h
          refine lv_aload_n hx hb dX6_since_45 rfl (lv_at hl 1 rfl) ?_
          refine g_get X hW eX6_since_12 0 rfl rfl dX6_since_46 ?_
          refine g_get X hW eX6_since_132 1 rfl rfl dX6_since_49 ?_
          refine lv_iload hx hb dX6_since_52 (lv_at hl 0 rfl) ?_
          refine lv_iconst hx hb dX6_since_54 qI_1 ?_
          obtain ⟨r33, hq, h⟩ := bn1_some h
          refine g_cvi X hW (As := [.int r22, .int (1 : Int32)]) (ws' := (wX6_since G a_eb a_desk a_desk_boxes a_desk_words a_desk_words_a a_kept a_tape a_text a_plan a_mat a_desk_weeks a_desk_routes a_desk_offers a_desk_wants a_desk_leaves a_desk_leases a_desk_uses a_desk_boxes_a isKept planStands today lack rate free boxes_r words_r words_f)) ckX6_since_X4_cell_113 (kcX4_cell (l := l) G a_desk_words a_desk_words_a r22 (1 : Int32) (5 : Int32) (60 : Int32) words_r 300 words_f hq) ⟨rfl, rfl, Nat.le_of_ble_eq_true rfl, Nat.le_of_ble_eq_true rfl⟩ [3, 4] rfl rfl rfl rfl rfl rfl rfl hl.1 (Nat.le_of_ble_eq_true rfl) ⟨Nat.zero_le _, Nat.zero_le _⟩ dX6_since_55 (fun H locs hW => ?_)
          refine lv_goto (tgt := 63) hx hb dX6_since_58 (by decide) ?_
          obtain rfl := Option.some.inj h
          exact g_iret X hW dX6_since_63
      · have h := (if_pos c17).symm.trans h
        refine lv_iconst hx hb dX6_since_29 qI_m1 ?_
        obtain rfl := Option.some.inj h
        exact g_iret X hW dX6_since_30
theorem kcX6_since {l : Launch} (G : Gt) (a_eb a_desk a_desk_boxes a_desk_words a_desk_words_a a_kept a_tape a_text a_plan a_mat a_desk_weeks a_desk_routes a_desk_offers a_desk_wants a_desk_leaves a_desk_leases a_desk_uses a_desk_boxes_a : Nat) (v1 : Int32) (v2 : Int32) (v3 : Int32) (isKept : Int32) (planStands : Int32) (today : Int32) (lack : Int32) (rate : Int32) (free : Int32) (boxes_r : Int32) (words_r : Int32) (words_f : (Nat → Int32)) {r : Int32}  (h : fX6_since v1 v2 v3 today boxes_r words_r words_f = some r) : CtI G l yX6_since wsX6_since rmX6_since [.ref a_eb, .int v1, .int v2, .int v3] (wX6_since G a_eb a_desk a_desk_boxes a_desk_words a_desk_words_a a_kept a_tape a_text a_plan a_mat a_desk_weeks a_desk_routes a_desk_offers a_desk_wants a_desk_leaves a_desk_leases a_desk_uses a_desk_boxes_a isKept planStands today lack rate free boxes_r words_r words_f) r (wX6_since G a_eb a_desk a_desk_boxes a_desk_words a_desk_words_a a_kept a_tape a_text a_plan a_mat a_desk_weeks a_desk_routes a_desk_offers a_desk_wants a_desk_leaves a_desk_leases a_desk_uses a_desk_boxes_a isKept planStands today lack rate free boxes_r words_r words_f) := k0X6_since G a_eb a_desk a_desk_boxes a_desk_words a_desk_words_a a_kept a_tape a_text a_plan a_mat a_desk_weeks a_desk_routes a_desk_offers a_desk_wants a_desk_leaves a_desk_leases a_desk_uses a_desk_boxes_a v1 v2 v3 isKept planStands today lack rate free boxes_r words_r words_f h
end MX6_since
/-! EmptyBoxes.isBehind -/
section MX6_isBehind
theorem hdX6_isBehind : yX6_isBehind.cls = RX6 ∧ yX6_isBehind.cls ≠ "java/lang/invoke/MethodHandle" ∧ yX6_isBehind.cls ≠ "java/lang/invoke/VarHandle" ∧ (parseMethodDescriptor yX6_isBehind.desc).map (fun d => d.parameters.length) = some 2 := by decide +kernel
abbrev wX6_isBehind (G : Gt) (a_eb a_desk a_desk_words a_desk_words_a a_kept a_tape a_text a_plan a_mat a_desk_boxes a_desk_weeks a_desk_routes a_desk_offers a_desk_wants a_desk_leaves a_desk_leases a_desk_uses : Nat) (isKept : Int32) (planStands : Int32) (today : Int32) (lack : Int32) (rate : Int32) (free : Int32) (words_r : Int32) (words_f : (Nat → Int32)) : va_W := [(a_eb, .inr (6, [.ref a_desk, .ref a_kept, .ref a_tape, .ref a_text, .ref a_plan, .ref a_mat, .int isKept, .int planStands])), (a_desk, .inr (0, [.ref a_desk_boxes, .ref a_desk_words, .ref a_desk_weeks, .ref a_desk_routes, .ref a_desk_offers, .ref a_desk_wants, .ref a_desk_leaves, .ref a_desk_leases, .ref a_desk_uses, .int today, .int lack, .int rate, .int free])), (a_desk_words, .inr (4, [.ref a_desk_words_a, .int (5 : Int32), .int (60 : Int32), .int words_r])), (a_desk_words_a, .inl (G.2.1, 300, .inl words_f))]
abbrev rmX6_isBehind : Room := { frames := 2, cells := 0, slots := 0, locals := 44 }
theorem iX6_isBehind_X0 : ∀ w ∈ wsX00, w ∈ wsX6_isBehind := by decide +kernel
theorem iX6_isBehind_X6 : ∀ w ∈ wsX60, w ∈ wsX6_isBehind := by decide +kernel
theorem eX6_isBehind_12 : Fk wsX6_isBehind RX6 12 6 0 := ⟨RX6, TX6, 8, rfl, iX6_isBehind_X6, by decide, by decide +kernel⟩
theorem eX6_isBehind_132 : Fk wsX6_isBehind RX6 132 0 1 := ⟨RX0, TX0, 13, rfl, iX6_isBehind_X0, by decide, by decide +kernel⟩
theorem ckX6_isBehind_X4_cell_113 : CkV wsX6_isBehind RX6 113 yX4_cell wsX4_cell cX4_cell 3 (some .int) 2 4 := ⟨RX4, TX4, 4, _, rfl, gX6_isBehind_X4_cell, rfl, hdX4_cell⟩
variable {p : Program} {l : Launch} {e : Env} {s : State} {m : MethodId} {args : Array Value} {below : List Frame} {meth : Method} {c : Code} {A : Nat → Prop} {G : Gt} {a_eb a_desk a_desk_words a_desk_words_a a_kept a_tape a_text a_plan a_mat a_desk_boxes a_desk_weeks a_desk_routes a_desk_offers a_desk_wants a_desk_leaves a_desk_leases a_desk_uses : Nat} {isKept : Int32} {planStands : Int32} {today : Int32} {lack : Int32} {rate : Int32} {free : Int32} {words_r : Int32} {words_f : (Nat → Int32)} {res : Int32}
set_option maxHeartbeats 4000000 in
set_option maxRecDepth 100000 in
theorem k0X6_isBehind {l : Launch} (G : Gt) (a_eb a_desk a_desk_words a_desk_words_a a_kept a_tape a_text a_plan a_mat a_desk_boxes a_desk_weeks a_desk_routes a_desk_offers a_desk_wants a_desk_leaves a_desk_leases a_desk_uses : Nat) (v1 : Int32) (v2 : Int32) (isKept : Int32) (planStands : Int32) (today : Int32) (lack : Int32) (rate : Int32) (free : Int32) (words_r : Int32) (words_f : (Nat → Int32)) {res : Int32} (h : fX6_isBehind v1 v2 words_r words_f = some res) : CtI G l yX6_isBehind wsX6_isBehind rmX6_isBehind [.ref a_eb, .int v1, .int v2] (wX6_isBehind G a_eb a_desk a_desk_words a_desk_words_a a_kept a_tape a_text a_plan a_mat a_desk_boxes a_desk_weeks a_desk_routes a_desk_offers a_desk_wants a_desk_leaves a_desk_leases a_desk_uses isKept planStands today lack rate free words_r words_f) res (wX6_isBehind G a_eb a_desk a_desk_words a_desk_words_a a_kept a_tape a_text a_plan a_mat a_desk_boxes a_desk_weeks a_desk_routes a_desk_offers a_desk_wants a_desk_leaves a_desk_leases a_desk_uses isKept planStands today lack rate free words_r words_f) := by
  refine CtI.mk (cc := cX6_isBehind) (maxL := 5) (ret := (some .boolean)) (own := RX6) (by decide) rfl rfl (Nat.le_of_ble_eq_true rfl) ?_
  intro p e s m below meth c A X ls hl hW
  obtain ⟨hx, hb, -⟩ := id X.1
  have hl : lv_has ls 5 [(0, .ref a_eb), (1, .int v1), (2, .int v2)] := hl
  generalize hH : s.heap = H at hW ⊢
  generalize hLo : ([] : List Loc) = locs at hW ⊢
  rw [fX6_isBehind] at h
  refine lv_aload_n hx hb dX6_isBehind_0 rfl (lv_at hl 0 rfl) ?_
  refine g_get X hW eX6_isBehind_12 0 rfl rfl dX6_isBehind_1 ?_
  refine g_get X hW eX6_isBehind_132 1 rfl rfl dX6_isBehind_4 ?_
  refine lv_iload_n hx hb dX6_isBehind_7 rfl (lv_at hl 1 rfl) ?_
  refine lv_iconst hx hb dX6_isBehind_8 qI_1 ?_
  obtain ⟨r6, hq, h⟩ := bn1_some h
  refine g_cvi X hW (As := [.int v1, .int (1 : Int32)]) (ws' := (wX6_isBehind G a_eb a_desk a_desk_words a_desk_words_a a_kept a_tape a_text a_plan a_mat a_desk_boxes a_desk_weeks a_desk_routes a_desk_offers a_desk_wants a_desk_leaves a_desk_leases a_desk_uses isKept planStands today lack rate free words_r words_f)) ckX6_isBehind_X4_cell_113 (kcX4_cell (l := l) G a_desk_words a_desk_words_a v1 (1 : Int32) (5 : Int32) (60 : Int32) words_r 300 words_f hq) ⟨rfl, rfl, Nat.le_of_ble_eq_true rfl, Nat.le_of_ble_eq_true rfl⟩ [2, 3] rfl rfl rfl rfl rfl rfl rfl hl.1 (Nat.le_of_ble_eq_true rfl) ⟨Nat.zero_le _, Nat.zero_le _⟩ dX6_isBehind_9 (fun H locs hW => ?_)
  refine lv_istore_n (lv' := [(3, .int r6), (0, .ref a_eb), (1, .int v1), (2, .int v2)]) hx hb dX6_isBehind_12 rfl hl (by decide) rfl (fun ls hl => ?_)
  refine lv_aload_n hx hb dX6_isBehind_13 rfl (lv_at hl 1 rfl) ?_
  refine g_get X hW eX6_isBehind_12 0 rfl rfl dX6_isBehind_14 ?_
  refine g_get X hW eX6_isBehind_132 1 rfl rfl dX6_isBehind_17 ?_
  refine lv_iload_n hx hb dX6_isBehind_20 rfl (lv_at hl 3 rfl) ?_
  refine lv_iconst hx hb dX6_isBehind_21 qI_1 ?_
  obtain ⟨r13, hq, h⟩ := bn1_some h
  refine g_cvi X hW (As := [.int v2, .int (1 : Int32)]) (ws' := (wX6_isBehind G a_eb a_desk a_desk_words a_desk_words_a a_kept a_tape a_text a_plan a_mat a_desk_boxes a_desk_weeks a_desk_routes a_desk_offers a_desk_wants a_desk_leaves a_desk_leases a_desk_uses isKept planStands today lack rate free words_r words_f)) ckX6_isBehind_X4_cell_113 (kcX4_cell (l := l) G a_desk_words a_desk_words_a v2 (1 : Int32) (5 : Int32) (60 : Int32) words_r 300 words_f hq) ⟨rfl, rfl, Nat.le_of_ble_eq_true rfl, Nat.le_of_ble_eq_true rfl⟩ [2, 3] rfl rfl rfl rfl rfl rfl rfl hl.1 (Nat.le_of_ble_eq_true rfl) ⟨Nat.zero_le _, Nat.zero_le _⟩ dX6_isBehind_22 (fun H locs hW => ?_)
  refine lv_istore (lv' := [(4, .int r13), (3, .int r6), (0, .ref a_eb), (1, .int v1), (2, .int v2)]) hx hb dX6_isBehind_25 hl (by decide) rfl (fun ls hl => ?_)
  refine lv_iload_n hx hb dX6_isBehind_27 rfl (lv_at hl 1 rfl) ?_
  refine lv_iload hx hb dX6_isBehind_28 (lv_at hl 0 rfl) ?_
  refine lv_icmp_gt (tgt := 44) hx hb dX6_isBehind_30 (by decide) (fun c17 => ?_) (fun c17 => ?_)
  · have h := (if_pos c17).symm.trans h
    refine lv_iconst hx hb dX6_isBehind_44 qI_1 ?_
    refine lv_goto (tgt := 49) hx hb dX6_isBehind_45 (by decide) ?_
    obtain rfl := Option.some.inj h
    exact g_zret X hW rfl dX6_isBehind_49
  · have h := (if_neg c17).symm.trans h
    refine lv_iload_n hx hb dX6_isBehind_33 rfl (lv_at hl 1 rfl) ?_
    refine lv_iload hx hb dX6_isBehind_34 (lv_at hl 0 rfl) ?_
    refine lv_icmp_ne (tgt := 48) hx hb dX6_isBehind_36 (by decide) (fun c23 => ?_) (fun c23 => ?_)
    · have h := (if_neg c23).symm.trans h
      refine lv_iconst hx hb dX6_isBehind_48 qI_0 ?_
      obtain rfl := Option.some.inj h
      exact g_zret X hW rfl dX6_isBehind_49
    · have h := (if_pos c23).symm.trans h
      refine lv_iload_n hx hb dX6_isBehind_39 rfl (lv_at hl 3 rfl) ?_
      refine lv_iload_n hx hb dX6_isBehind_40 rfl (lv_at hl 4 rfl) ?_
      refine lv_icmp_le (tgt := 48) hx hb dX6_isBehind_41 (by decide) (fun c28 => ?_) (fun c28 => ?_)
      · have h := (if_pos c28).symm.trans h
        refine lv_iconst hx hb dX6_isBehind_48 qI_0 ?_
        obtain rfl := Option.some.inj h
        exact g_zret X hW rfl dX6_isBehind_49
      · have h := (if_neg c28).symm.trans h
        refine lv_iconst hx hb dX6_isBehind_44 qI_1 ?_
        refine lv_goto (tgt := 49) hx hb dX6_isBehind_45 (by decide) ?_
        obtain rfl := Option.some.inj h
        exact g_zret X hW rfl dX6_isBehind_49
theorem kcX6_isBehind {l : Launch} (G : Gt) (a_eb a_desk a_desk_words a_desk_words_a a_kept a_tape a_text a_plan a_mat a_desk_boxes a_desk_weeks a_desk_routes a_desk_offers a_desk_wants a_desk_leaves a_desk_leases a_desk_uses : Nat) (v1 : Int32) (v2 : Int32) (isKept : Int32) (planStands : Int32) (today : Int32) (lack : Int32) (rate : Int32) (free : Int32) (words_r : Int32) (words_f : (Nat → Int32)) {r : Int32}  (h : fX6_isBehind v1 v2 words_r words_f = some r) : CtI G l yX6_isBehind wsX6_isBehind rmX6_isBehind [.ref a_eb, .int v1, .int v2] (wX6_isBehind G a_eb a_desk a_desk_words a_desk_words_a a_kept a_tape a_text a_plan a_mat a_desk_boxes a_desk_weeks a_desk_routes a_desk_offers a_desk_wants a_desk_leaves a_desk_leases a_desk_uses isKept planStands today lack rate free words_r words_f) r (wX6_isBehind G a_eb a_desk a_desk_words a_desk_words_a a_kept a_tape a_text a_plan a_mat a_desk_boxes a_desk_weeks a_desk_routes a_desk_offers a_desk_wants a_desk_leaves a_desk_leases a_desk_uses isKept planStands today lack rate free words_r words_f) := k0X6_isBehind G a_eb a_desk a_desk_words a_desk_words_a a_kept a_tape a_text a_plan a_mat a_desk_boxes a_desk_weeks a_desk_routes a_desk_offers a_desk_wants a_desk_leaves a_desk_leases a_desk_uses v1 v2 isKept planStands today lack rate free words_r words_f h
end MX6_isBehind
/-! EmptyBoxes.wordBehind -/
section MX6_wordBehind
theorem hdX6_wordBehind : yX6_wordBehind.cls = RX6 ∧ yX6_wordBehind.cls ≠ "java/lang/invoke/MethodHandle" ∧ yX6_wordBehind.cls ≠ "java/lang/invoke/VarHandle" ∧ (parseMethodDescriptor yX6_wordBehind.desc).map (fun d => d.parameters.length) = some 3 := by decide +kernel
abbrev wX6_wordBehind (G : Gt) (a_eb a_desk a_desk_words a_desk_words_a a_kept a_tape a_text a_plan a_mat a_desk_boxes a_desk_weeks a_desk_routes a_desk_offers a_desk_wants a_desk_leaves a_desk_leases a_desk_uses : Nat) (isKept : Int32) (planStands : Int32) (today : Int32) (lack : Int32) (rate : Int32) (free : Int32) (words_r : Int32) (words_f : (Nat → Int32)) : va_W := [(a_eb, .inr (6, [.ref a_desk, .ref a_kept, .ref a_tape, .ref a_text, .ref a_plan, .ref a_mat, .int isKept, .int planStands])), (a_desk, .inr (0, [.ref a_desk_boxes, .ref a_desk_words, .ref a_desk_weeks, .ref a_desk_routes, .ref a_desk_offers, .ref a_desk_wants, .ref a_desk_leaves, .ref a_desk_leases, .ref a_desk_uses, .int today, .int lack, .int rate, .int free])), (a_desk_words, .inr (4, [.ref a_desk_words_a, .int (5 : Int32), .int (60 : Int32), .int words_r])), (a_desk_words_a, .inl (G.2.1, 300, .inl words_f))]
abbrev rmX6_wordBehind : Room := { frames := 3, cells := 0, slots := 0, locals := 68 }
theorem iX6_wordBehind_X0 : ∀ w ∈ wsX00, w ∈ wsX6_wordBehind := by decide +kernel
theorem iX6_wordBehind_X6 : ∀ w ∈ wsX60, w ∈ wsX6_wordBehind := by decide +kernel
theorem eX6_wordBehind_12 : Fk wsX6_wordBehind RX6 12 6 0 := ⟨RX6, TX6, 8, rfl, iX6_wordBehind_X6, by decide, by decide +kernel⟩
theorem eX6_wordBehind_132 : Fk wsX6_wordBehind RX6 132 0 1 := ⟨RX0, TX0, 13, rfl, iX6_wordBehind_X0, by decide, by decide +kernel⟩
theorem ckX6_wordBehind_X4_size_117 : CkV wsX6_wordBehind RX6 117 yX4_size wsX4_size cX4_size 1 (some .int) 0 4 := ⟨RX4, TX4, 4, _, rfl, gX6_wordBehind_X4_size, rfl, hdX4_size⟩
theorem ckX6_wordBehind_X6_isBehind_164 : CkV wsX6_wordBehind RX6 164 yX6_isBehind wsX6_isBehind cX6_isBehind 5 (some .boolean) 2 6 := ⟨RX6, TX6, 8, _, rfl, gX6_wordBehind_X6_isBehind, rfl, hdX6_isBehind⟩
theorem ckX6_wordBehind_X6_isHeard_145 : CkV wsX6_wordBehind RX6 145 yX6_isHeard wsX6_isHeard cX6_isHeard 4 (some .boolean) 3 6 := ⟨RX6, TX6, 8, _, rfl, gX6_wordBehind_X6_isHeard, rfl, hdX6_isHeard⟩
variable {p : Program} {l : Launch} {e : Env} {s : State} {m : MethodId} {args : Array Value} {below : List Frame} {meth : Method} {c : Code} {A : Nat → Prop} {G : Gt} {a_eb a_desk a_desk_words a_desk_words_a a_kept a_tape a_text a_plan a_mat a_desk_boxes a_desk_weeks a_desk_routes a_desk_offers a_desk_wants a_desk_leaves a_desk_leases a_desk_uses : Nat} {isKept : Int32} {planStands : Int32} {today : Int32} {lack : Int32} {rate : Int32} {free : Int32} {words_r : Int32} {words_f : (Nat → Int32)} {res : Int32}
set_option maxHeartbeats 4000000 in
set_option maxRecDepth 100000 in
theorem tX6_wordBehind_63 (X : Bx p s m args meth c cX6_wordBehind 6 wsX6_wordBehind RX6 (some .int)) (v1 : Int32) (v2 : Int32) (v3 : Int32) (v4 : Int32) (v5 : Int32) (k_7 : Int32 → Int32 → Option (Int32)) (Hk_7 : ∀ (v4 : Int32) (v5 : Int32), k_7 v4 v5 = some res → ∀ (H : Heap) (locs : List Loc), Wo G A s (wX6_wordBehind G a_eb a_desk a_desk_words a_desk_words_a a_kept a_tape a_text a_plan a_mat a_desk_boxes a_desk_weeks a_desk_routes a_desk_offers a_desk_wants a_desk_leaves a_desk_leases a_desk_uses isKept planStands today lack rate free words_r words_f) H locs → ∀ ls : Array Slot, lv_has ls 6 [(0, .ref a_eb), (1, .int v1), (2, .int v2), (3, .int v3), (4, .int v4), (5, .int v5)] → W p l e rmX6_wordBehind s m args below meth c H locs 0 0 (QI G A below args s res (wX6_wordBehind G a_eb a_desk a_desk_words a_desk_words_a a_kept a_tape a_text a_plan a_mat a_desk_boxes a_desk_weeks a_desk_routes a_desk_offers a_desk_wants a_desk_leaves a_desk_leases a_desk_uses isKept planStands today lack rate free words_r words_f)) (F0 m 7 ls [])) (h : fX6_wordBehind_63 k_7 v4 v5 = some res) : ∀ (H : Heap) (locs : List Loc), Wo G A s (wX6_wordBehind G a_eb a_desk a_desk_words a_desk_words_a a_kept a_tape a_text a_plan a_mat a_desk_boxes a_desk_weeks a_desk_routes a_desk_offers a_desk_wants a_desk_leaves a_desk_leases a_desk_uses isKept planStands today lack rate free words_r words_f) H locs → ∀ ls : Array Slot, lv_has ls 6 [(0, .ref a_eb), (1, .int v1), (2, .int v2), (3, .int v3), (4, .int v4), (5, .int v5)] → W p l e rmX6_wordBehind s m args below meth c H locs 0 0 (QI G A below args s res (wX6_wordBehind G a_eb a_desk a_desk_words a_desk_words_a a_kept a_tape a_text a_plan a_mat a_desk_boxes a_desk_weeks a_desk_routes a_desk_offers a_desk_wants a_desk_leaves a_desk_leases a_desk_uses isKept planStands today lack rate free words_r words_f)) (F0 m 63 ls []) := by
  obtain ⟨hx, hb, -⟩ := id X.1
  intro H locs hW ls hl
  rw [fX6_wordBehind_63] at h
  refine lv_iinc (v := (v5 + (1 : Int32))) (lv' := [(5, .int (v5 + (1 : Int32))), (0, .ref a_eb), (1, .int v1), (2, .int v2), (3, .int v3), (4, .int v4)]) hx hb dX6_wordBehind_63 hl (k := 5) rfl (congrArg (fun z => v5 + z) qI_1) (by decide) rfl (fun ls hl => ?_)
  refine lv_goto (tgt := 7) hx hb dX6_wordBehind_66 (by decide) ?_
  exact Hk_7 v4 (v5 + (1 : Int32)) h H locs hW ls (lv_sub hl [1, 2, 3, 4, 5, 0] rfl)
set_option maxHeartbeats 4000000 in
set_option maxRecDepth 100000 in
theorem tX6_wordBehind_59 (X : Bx p s m args meth c cX6_wordBehind 6 wsX6_wordBehind RX6 (some .int)) (v1 : Int32) (v2 : Int32) (v3 : Int32) (v5 : Int32) (k_7 : Int32 → Int32 → Option (Int32)) (Hk_7 : ∀ (v4 : Int32) (v5 : Int32), k_7 v4 v5 = some res → ∀ (H : Heap) (locs : List Loc), Wo G A s (wX6_wordBehind G a_eb a_desk a_desk_words a_desk_words_a a_kept a_tape a_text a_plan a_mat a_desk_boxes a_desk_weeks a_desk_routes a_desk_offers a_desk_wants a_desk_leaves a_desk_leases a_desk_uses isKept planStands today lack rate free words_r words_f) H locs → ∀ ls : Array Slot, lv_has ls 6 [(0, .ref a_eb), (1, .int v1), (2, .int v2), (3, .int v3), (4, .int v4), (5, .int v5)] → W p l e rmX6_wordBehind s m args below meth c H locs 0 0 (QI G A below args s res (wX6_wordBehind G a_eb a_desk a_desk_words a_desk_words_a a_kept a_tape a_text a_plan a_mat a_desk_boxes a_desk_weeks a_desk_routes a_desk_offers a_desk_wants a_desk_leaves a_desk_leases a_desk_uses isKept planStands today lack rate free words_r words_f)) (F0 m 7 ls [])) (h : fX6_wordBehind_59 k_7 v5 = some res) : ∀ (H : Heap) (locs : List Loc), Wo G A s (wX6_wordBehind G a_eb a_desk a_desk_words a_desk_words_a a_kept a_tape a_text a_plan a_mat a_desk_boxes a_desk_weeks a_desk_routes a_desk_offers a_desk_wants a_desk_leaves a_desk_leases a_desk_uses isKept planStands today lack rate free words_r words_f) H locs → ∀ ls : Array Slot, lv_has ls 6 [(0, .ref a_eb), (1, .int v1), (2, .int v2), (3, .int v3), (5, .int v5)] → W p l e rmX6_wordBehind s m args below meth c H locs 0 0 (QI G A below args s res (wX6_wordBehind G a_eb a_desk a_desk_words a_desk_words_a a_kept a_tape a_text a_plan a_mat a_desk_boxes a_desk_weeks a_desk_routes a_desk_offers a_desk_wants a_desk_leaves a_desk_leases a_desk_uses isKept planStands today lack rate free words_r words_f)) (F0 m 59 ls []) := by
  obtain ⟨hx, hb, -⟩ := id X.1
  intro H locs hW ls hl
  rw [fX6_wordBehind_59] at h
  refine lv_iload hx hb dX6_wordBehind_59 (lv_at hl 4 rfl) ?_
  refine lv_istore (lv' := [(4, .int v5), (0, .ref a_eb), (1, .int v1), (2, .int v2), (3, .int v3), (5, .int v5)]) hx hb dX6_wordBehind_61 hl (by decide) rfl (fun ls hl => ?_)
  exact tX6_wordBehind_63 X v1 v2 v3 v5 v5 k_7 Hk_7 h H locs hW ls (lv_sub hl [1, 2, 3, 4, 0, 5] rfl)
set_option maxHeartbeats 4000000 in
set_option maxRecDepth 100000 in
theorem tX6_wordBehind_7 (X : Bx p s m args meth c cX6_wordBehind 6 wsX6_wordBehind RX6 (some .int)) (v1 : Int32) (v2 : Int32) (v3 : Int32)   : ∀ (n : Nat) (v4 : Int32) (v5 : Int32), fX6_wordBehind_7 v1 v2 v3 words_r words_f n v4 v5 = some res → ∀ (H : Heap) (locs : List Loc), Wo G A s (wX6_wordBehind G a_eb a_desk a_desk_words a_desk_words_a a_kept a_tape a_text a_plan a_mat a_desk_boxes a_desk_weeks a_desk_routes a_desk_offers a_desk_wants a_desk_leaves a_desk_leases a_desk_uses isKept planStands today lack rate free words_r words_f) H locs → ∀ ls : Array Slot, lv_has ls 6 [(0, .ref a_eb), (1, .int v1), (2, .int v2), (3, .int v3), (4, .int v4), (5, .int v5)] → W p l e rmX6_wordBehind s m args below meth c H locs 0 0 (QI G A below args s res (wX6_wordBehind G a_eb a_desk a_desk_words a_desk_words_a a_kept a_tape a_text a_plan a_mat a_desk_boxes a_desk_weeks a_desk_routes a_desk_offers a_desk_wants a_desk_leaves a_desk_leases a_desk_uses isKept planStands today lack rate free words_r words_f)) (F0 m 7 ls []) := by
  obtain ⟨hx, hb, -⟩ := id X.1
  intro n
  induction n with
  | zero => intro v4 v5 h; rw [fX6_wordBehind_7] at h; cases h
  | succ n ih =>
    intro v4 v5 h H locs hW ls hl
    rw [fX6_wordBehind_7] at h
    refine lv_iload hx hb dX6_wordBehind_7 (lv_at hl 5 rfl) ?_
    refine lv_aload_n hx hb dX6_wordBehind_9 rfl (lv_at hl 0 rfl) ?_
    refine g_get X hW eX6_wordBehind_12 0 rfl rfl dX6_wordBehind_10 ?_
    refine g_get X hW eX6_wordBehind_132 1 rfl rfl dX6_wordBehind_13 ?_
    obtain ⟨r9, hq, h⟩ := bn1_some h
    refine g_cvi X hW (As := []) (ws' := (wX6_wordBehind G a_eb a_desk a_desk_words a_desk_words_a a_kept a_tape a_text a_plan a_mat a_desk_boxes a_desk_weeks a_desk_routes a_desk_offers a_desk_wants a_desk_leaves a_desk_leases a_desk_uses isKept planStands today lack rate free words_r words_f)) ckX6_wordBehind_X4_size_117 (kcX4_size (l := l) G a_desk_words a_desk_words_a (5 : Int32) (60 : Int32) words_r hq) ⟨rfl, rfl, Nat.le_of_ble_eq_true rfl, Nat.le_of_ble_eq_true rfl⟩ [2] rfl rfl rfl rfl rfl rfl rfl hl.1 (Nat.le_of_ble_eq_true rfl) ⟨Nat.zero_le _, Nat.zero_le _⟩ dX6_wordBehind_16 (fun H locs hW => ?_)
    refine lv_icmp_ge (tgt := 69) hx hb dX6_wordBehind_19 (by decide) (fun c10 => ?_) (fun c10 => ?_)
    · have h := (if_pos c10).symm.trans h
      refine lv_iload hx hb dX6_wordBehind_69 (lv_at hl 4 rfl) ?_
      obtain rfl := Option.some.inj h
      exact g_iret X hW dX6_wordBehind_71
    · have h := (if_neg c10).symm.trans h
      refine lv_aload_n hx hb dX6_wordBehind_22 rfl (lv_at hl 0 rfl) ?_
      refine lv_iload hx hb dX6_wordBehind_23 (lv_at hl 5 rfl) ?_
      refine lv_iload_n hx hb dX6_wordBehind_25 rfl (lv_at hl 2 rfl) ?_
      refine lv_iload_n hx hb dX6_wordBehind_26 rfl (lv_at hl 3 rfl) ?_
      obtain ⟨r17, hq, h⟩ := bn1_some h
      refine g_cvi X hW (As := [.int v5, .int v2, .int v3]) (ws' := (wX6_wordBehind G a_eb a_desk a_desk_words a_desk_words_a a_kept a_tape a_text a_plan a_mat a_desk_boxes a_desk_weeks a_desk_routes a_desk_offers a_desk_wants a_desk_leaves a_desk_leases a_desk_uses isKept planStands today lack rate free words_r words_f)) ckX6_wordBehind_X6_isHeard_145 (kcX6_isHeard (l := l) G a_eb a_desk a_desk_words a_desk_words_a a_kept a_tape a_text a_plan a_mat a_desk_boxes a_desk_weeks a_desk_routes a_desk_offers a_desk_wants a_desk_leaves a_desk_leases a_desk_uses v5 v2 v3 isKept planStands today lack rate free words_r words_f hq) ⟨rfl, rfl, Nat.le_of_ble_eq_true rfl, Nat.le_of_ble_eq_true rfl⟩ [0, 1, 2, 3] rfl rfl rfl rfl rfl rfl rfl hl.1 (Nat.le_of_ble_eq_true rfl) ⟨Nat.zero_le _, Nat.zero_le _⟩ dX6_wordBehind_27 (fun H locs hW => ?_)
      refine lv_if_eq (tgt := 63) hx hb dX6_wordBehind_30 (by decide) (fun c18 => ?_) (fun c18 => ?_)
      · have h := (if_pos c18).symm.trans h
        exact tX6_wordBehind_63 X v1 v2 v3 v4 v5 (fun v4 v5 => fX6_wordBehind_7 v1 v2 v3 words_r words_f n v4 v5) ih h H locs hW ls hl
      · have h := (if_neg c18).symm.trans h
        refine lv_aload_n hx hb dX6_wordBehind_33 rfl (lv_at hl 0 rfl) ?_
        refine lv_iload hx hb dX6_wordBehind_34 (lv_at hl 5 rfl) ?_
        refine lv_iload_n hx hb dX6_wordBehind_36 rfl (lv_at hl 1 rfl) ?_
        obtain ⟨r22, hq, h⟩ := bn1_some h
        refine g_cvi X hW (As := [.int v5, .int v1]) (ws' := (wX6_wordBehind G a_eb a_desk a_desk_words a_desk_words_a a_kept a_tape a_text a_plan a_mat a_desk_boxes a_desk_weeks a_desk_routes a_desk_offers a_desk_wants a_desk_leaves a_desk_leases a_desk_uses isKept planStands today lack rate free words_r words_f)) ckX6_wordBehind_X6_isBehind_164 (kcX6_isBehind (l := l) G a_eb a_desk a_desk_words a_desk_words_a a_kept a_tape a_text a_plan a_mat a_desk_boxes a_desk_weeks a_desk_routes a_desk_offers a_desk_wants a_desk_leaves a_desk_leases a_desk_uses v5 v1 isKept planStands today lack rate free words_r words_f hq) ⟨rfl, rfl, Nat.le_of_ble_eq_true rfl, Nat.le_of_ble_eq_true rfl⟩ [0, 1, 2, 3] rfl rfl rfl rfl rfl rfl rfl hl.1 (Nat.le_of_ble_eq_true rfl) ⟨Nat.zero_le _, Nat.zero_le _⟩ dX6_wordBehind_37 (fun H locs hW => ?_)
        refine lv_if_eq (tgt := 63) hx hb dX6_wordBehind_40 (by decide) (fun c23 => ?_) (fun c23 => ?_)
        · have h := (if_pos c23).symm.trans h
          exact tX6_wordBehind_63 X v1 v2 v3 v4 v5 (fun v4 v5 => fX6_wordBehind_7 v1 v2 v3 words_r words_f n v4 v5) ih h H locs hW ls hl
        · have h := (if_neg c23).symm.trans h
          refine lv_iload hx hb dX6_wordBehind_43 (lv_at hl 4 rfl) ?_
          refine lv_if_lt (tgt := 59) hx hb dX6_wordBehind_45 (by decide) (fun c25 => ?_) (fun c25 => ?_)
          · have h := (if_pos c25).symm.trans h
            exact tX6_wordBehind_59 X v1 v2 v3 v5 (fun v4 v5 => fX6_wordBehind_7 v1 v2 v3 words_r words_f n v4 v5) ih h H locs hW ls (lv_sub hl [0, 1, 2, 3, 5] rfl)
          · have h := (if_neg c25).symm.trans h
            refine lv_aload_n hx hb dX6_wordBehind_48 rfl (lv_at hl 0 rfl) ?_
            refine lv_iload hx hb dX6_wordBehind_49 (lv_at hl 4 rfl) ?_
            refine lv_iload hx hb dX6_wordBehind_51 (lv_at hl 5 rfl) ?_
            obtain ⟨r29, hq, h⟩ := bn1_some h
            refine g_cvi X hW (As := [.int v4, .int v5]) (ws' := (wX6_wordBehind G a_eb a_desk a_desk_words a_desk_words_a a_kept a_tape a_text a_plan a_mat a_desk_boxes a_desk_weeks a_desk_routes a_desk_offers a_desk_wants a_desk_leaves a_desk_leases a_desk_uses isKept planStands today lack rate free words_r words_f)) ckX6_wordBehind_X6_isBehind_164 (kcX6_isBehind (l := l) G a_eb a_desk a_desk_words a_desk_words_a a_kept a_tape a_text a_plan a_mat a_desk_boxes a_desk_weeks a_desk_routes a_desk_offers a_desk_wants a_desk_leaves a_desk_leases a_desk_uses v4 v5 isKept planStands today lack rate free words_r words_f hq) ⟨rfl, rfl, Nat.le_of_ble_eq_true rfl, Nat.le_of_ble_eq_true rfl⟩ [0, 1, 2, 3] rfl rfl rfl rfl rfl rfl rfl hl.1 (Nat.le_of_ble_eq_true rfl) ⟨Nat.zero_le _, Nat.zero_le _⟩ dX6_wordBehind_53 (fun H locs hW => ?_)
            refine lv_if_eq (tgt := 63) hx hb dX6_wordBehind_56 (by decide) (fun c30 => ?_) (fun c30 => ?_)
            · have h := (if_pos c30).symm.trans h
              exact tX6_wordBehind_63 X v1 v2 v3 v4 v5 (fun v4 v5 => fX6_wordBehind_7 v1 v2 v3 words_r words_f n v4 v5) ih h H locs hW ls hl
            · have h := (if_neg c30).symm.trans h
              exact tX6_wordBehind_59 X v1 v2 v3 v5 (fun v4 v5 => fX6_wordBehind_7 v1 v2 v3 words_r words_f n v4 v5) ih h H locs hW ls (lv_sub hl [0, 1, 2, 3, 5] rfl)
set_option maxHeartbeats 4000000 in
set_option maxRecDepth 100000 in
theorem k0X6_wordBehind {l : Launch} (G : Gt) (a_eb a_desk a_desk_words a_desk_words_a a_kept a_tape a_text a_plan a_mat a_desk_boxes a_desk_weeks a_desk_routes a_desk_offers a_desk_wants a_desk_leaves a_desk_leases a_desk_uses : Nat) (v1 : Int32) (v2 : Int32) (v3 : Int32) (isKept : Int32) (planStands : Int32) (today : Int32) (lack : Int32) (rate : Int32) (free : Int32) (words_r : Int32) (words_f : (Nat → Int32)) {res : Int32} (h : fX6_wordBehind v1 v2 v3 words_r words_f = some res) : CtI G l yX6_wordBehind wsX6_wordBehind rmX6_wordBehind [.ref a_eb, .int v1, .int v2, .int v3] (wX6_wordBehind G a_eb a_desk a_desk_words a_desk_words_a a_kept a_tape a_text a_plan a_mat a_desk_boxes a_desk_weeks a_desk_routes a_desk_offers a_desk_wants a_desk_leaves a_desk_leases a_desk_uses isKept planStands today lack rate free words_r words_f) res (wX6_wordBehind G a_eb a_desk a_desk_words a_desk_words_a a_kept a_tape a_text a_plan a_mat a_desk_boxes a_desk_weeks a_desk_routes a_desk_offers a_desk_wants a_desk_leaves a_desk_leases a_desk_uses isKept planStands today lack rate free words_r words_f) := by
  refine CtI.mk (cc := cX6_wordBehind) (maxL := 6) (ret := (some .int)) (own := RX6) (by decide) rfl rfl (Nat.le_of_ble_eq_true rfl) ?_
  intro p e s m below meth c A X ls hl hW
  obtain ⟨hx, hb, -⟩ := id X.1
  have hl : lv_has ls 6 [(0, .ref a_eb), (1, .int v1), (2, .int v2), (3, .int v3)] := hl
  generalize hH : s.heap = H at hW ⊢
  generalize hLo : ([] : List Loc) = locs at hW ⊢
  rw [fX6_wordBehind] at h
  refine lv_bipush hx hb dX6_wordBehind_0 qB_m3 ?_
  refine lv_istore (lv' := [(4, .int (-3 : Int32)), (0, .ref a_eb), (1, .int v1), (2, .int v2), (3, .int v3)]) hx hb dX6_wordBehind_2 hl (by decide) rfl (fun ls hl => ?_)
  refine lv_iconst hx hb dX6_wordBehind_4 qI_0 ?_
  refine lv_istore (lv' := [(5, .int (0 : Int32)), (4, .int (-3 : Int32)), (0, .ref a_eb), (1, .int v1), (2, .int v2), (3, .int v3)]) hx hb dX6_wordBehind_5 hl (by decide) rfl (fun ls hl => ?_)
  exact tX6_wordBehind_7 X v1 v2 v3 FU (-3 : Int32) (0 : Int32) h H locs hW ls (lv_sub hl [2, 3, 4, 5, 1, 0] rfl)
theorem kcX6_wordBehind {l : Launch} (G : Gt) (a_eb a_desk a_desk_words a_desk_words_a a_kept a_tape a_text a_plan a_mat a_desk_boxes a_desk_weeks a_desk_routes a_desk_offers a_desk_wants a_desk_leaves a_desk_leases a_desk_uses : Nat) (v1 : Int32) (v2 : Int32) (v3 : Int32) (isKept : Int32) (planStands : Int32) (today : Int32) (lack : Int32) (rate : Int32) (free : Int32) (words_r : Int32) (words_f : (Nat → Int32)) {r : Int32}  (h : fX6_wordBehind v1 v2 v3 words_r words_f = some r) : CtI G l yX6_wordBehind wsX6_wordBehind rmX6_wordBehind [.ref a_eb, .int v1, .int v2, .int v3] (wX6_wordBehind G a_eb a_desk a_desk_words a_desk_words_a a_kept a_tape a_text a_plan a_mat a_desk_boxes a_desk_weeks a_desk_routes a_desk_offers a_desk_wants a_desk_leaves a_desk_leases a_desk_uses isKept planStands today lack rate free words_r words_f) r (wX6_wordBehind G a_eb a_desk a_desk_words a_desk_words_a a_kept a_tape a_text a_plan a_mat a_desk_boxes a_desk_weeks a_desk_routes a_desk_offers a_desk_wants a_desk_leaves a_desk_leases a_desk_uses isKept planStands today lack rate free words_r words_f) := k0X6_wordBehind G a_eb a_desk a_desk_words a_desk_words_a a_kept a_tape a_text a_plan a_mat a_desk_boxes a_desk_weeks a_desk_routes a_desk_offers a_desk_wants a_desk_leaves a_desk_leases a_desk_uses v1 v2 v3 isKept planStands today lack rate free words_r words_f h
end MX6_wordBehind
/-! EmptyBoxes.isQuarrel -/
section MX6_isQuarrel
theorem hdX6_isQuarrel : yX6_isQuarrel.cls = RX6 ∧ yX6_isQuarrel.cls ≠ "java/lang/invoke/MethodHandle" ∧ yX6_isQuarrel.cls ≠ "java/lang/invoke/VarHandle" ∧ (parseMethodDescriptor yX6_isQuarrel.desc).map (fun d => d.parameters.length) = some 2 := by decide +kernel
abbrev wX6_isQuarrel (G : Gt) (a_eb a_desk a_desk_words a_desk_words_a a_kept a_tape a_text a_plan a_mat a_desk_boxes a_desk_weeks a_desk_routes a_desk_offers a_desk_wants a_desk_leaves a_desk_leases a_desk_uses : Nat) (isKept : Int32) (planStands : Int32) (today : Int32) (lack : Int32) (rate : Int32) (free : Int32) (words_r : Int32) (words_f : (Nat → Int32)) : va_W := [(a_eb, .inr (6, [.ref a_desk, .ref a_kept, .ref a_tape, .ref a_text, .ref a_plan, .ref a_mat, .int isKept, .int planStands])), (a_desk, .inr (0, [.ref a_desk_boxes, .ref a_desk_words, .ref a_desk_weeks, .ref a_desk_routes, .ref a_desk_offers, .ref a_desk_wants, .ref a_desk_leaves, .ref a_desk_leases, .ref a_desk_uses, .int today, .int lack, .int rate, .int free])), (a_desk_words, .inr (4, [.ref a_desk_words_a, .int (5 : Int32), .int (60 : Int32), .int words_r])), (a_desk_words_a, .inl (G.2.1, 300, .inl words_f))]
abbrev rmX6_isQuarrel : Room := { frames := 3, cells := 0, slots := 0, locals := 65 }
theorem iX6_isQuarrel_X0 : ∀ w ∈ wsX00, w ∈ wsX6_isQuarrel := by decide +kernel
theorem iX6_isQuarrel_X6 : ∀ w ∈ wsX60, w ∈ wsX6_isQuarrel := by decide +kernel
theorem eX6_isQuarrel_12 : Fk wsX6_isQuarrel RX6 12 6 0 := ⟨RX6, TX6, 8, rfl, iX6_isQuarrel_X6, by decide, by decide +kernel⟩
theorem eX6_isQuarrel_132 : Fk wsX6_isQuarrel RX6 132 0 1 := ⟨RX0, TX0, 13, rfl, iX6_isQuarrel_X0, by decide, by decide +kernel⟩
theorem ckX6_isQuarrel_X4_cell_113 : CkV wsX6_isQuarrel RX6 113 yX4_cell wsX4_cell cX4_cell 3 (some .int) 2 4 := ⟨RX4, TX4, 4, _, rfl, gX6_isQuarrel_X4_cell, rfl, hdX4_cell⟩
theorem ckX6_isQuarrel_X6_isOut_158 : CkV wsX6_isQuarrel RX6 158 yX6_isOut wsX6_isOut cX6_isOut 2 (some .boolean) 1 6 := ⟨RX6, TX6, 8, _, rfl, gX6_isQuarrel_X6_isOut, rfl, hdX6_isOut⟩
variable {p : Program} {l : Launch} {e : Env} {s : State} {m : MethodId} {args : Array Value} {below : List Frame} {meth : Method} {c : Code} {A : Nat → Prop} {G : Gt} {a_eb a_desk a_desk_words a_desk_words_a a_kept a_tape a_text a_plan a_mat a_desk_boxes a_desk_weeks a_desk_routes a_desk_offers a_desk_wants a_desk_leaves a_desk_leases a_desk_uses : Nat} {isKept : Int32} {planStands : Int32} {today : Int32} {lack : Int32} {rate : Int32} {free : Int32} {words_r : Int32} {words_f : (Nat → Int32)} {res : Int32}
set_option maxHeartbeats 4000000 in
set_option maxRecDepth 100000 in
theorem k0X6_isQuarrel {l : Launch} (G : Gt) (a_eb a_desk a_desk_words a_desk_words_a a_kept a_tape a_text a_plan a_mat a_desk_boxes a_desk_weeks a_desk_routes a_desk_offers a_desk_wants a_desk_leaves a_desk_leases a_desk_uses : Nat) (v1 : Int32) (v2 : Int32) (isKept : Int32) (planStands : Int32) (today : Int32) (lack : Int32) (rate : Int32) (free : Int32) (words_r : Int32) (words_f : (Nat → Int32)) {res : Int32} (h : fX6_isQuarrel v1 v2 words_r words_f = some res) : CtI G l yX6_isQuarrel wsX6_isQuarrel rmX6_isQuarrel [.ref a_eb, .int v1, .int v2] (wX6_isQuarrel G a_eb a_desk a_desk_words a_desk_words_a a_kept a_tape a_text a_plan a_mat a_desk_boxes a_desk_weeks a_desk_routes a_desk_offers a_desk_wants a_desk_leaves a_desk_leases a_desk_uses isKept planStands today lack rate free words_r words_f) res (wX6_isQuarrel G a_eb a_desk a_desk_words a_desk_words_a a_kept a_tape a_text a_plan a_mat a_desk_boxes a_desk_weeks a_desk_routes a_desk_offers a_desk_wants a_desk_leaves a_desk_leases a_desk_uses isKept planStands today lack rate free words_r words_f) := by
  refine CtI.mk (cc := cX6_isQuarrel) (maxL := 3) (ret := (some .boolean)) (own := RX6) (by decide) rfl rfl (Nat.le_of_ble_eq_true rfl) ?_
  intro p e s m below meth c A X ls hl hW
  obtain ⟨hx, hb, -⟩ := id X.1
  have hl : lv_has ls 3 [(0, .ref a_eb), (1, .int v1), (2, .int v2)] := hl
  generalize hH : s.heap = H at hW ⊢
  generalize hLo : ([] : List Loc) = locs at hW ⊢
  rw [fX6_isQuarrel] at h
  refine lv_aload_n hx hb dX6_isQuarrel_0 rfl (lv_at hl 0 rfl) ?_
  refine lv_iload_n hx hb dX6_isQuarrel_1 rfl (lv_at hl 1 rfl) ?_
  obtain ⟨r3, hq, h⟩ := bn1_some h
  refine g_cvi X hW (As := [.int v1]) (ws' := (wX6_isQuarrel G a_eb a_desk a_desk_words a_desk_words_a a_kept a_tape a_text a_plan a_mat a_desk_boxes a_desk_weeks a_desk_routes a_desk_offers a_desk_wants a_desk_leaves a_desk_leases a_desk_uses isKept planStands today lack rate free words_r words_f)) ckX6_isQuarrel_X6_isOut_158 (kcX6_isOut (l := l) G a_eb a_desk a_desk_words a_desk_words_a a_kept a_tape a_text a_plan a_mat a_desk_boxes a_desk_weeks a_desk_routes a_desk_offers a_desk_wants a_desk_leaves a_desk_leases a_desk_uses v1 isKept planStands today lack rate free words_r words_f hq) ⟨rfl, rfl, Nat.le_of_ble_eq_true rfl, Nat.le_of_ble_eq_true rfl⟩ [0, 1, 2, 3] rfl rfl rfl rfl rfl rfl rfl hl.1 (Nat.le_of_ble_eq_true rfl) ⟨Nat.zero_le _, Nat.zero_le _⟩ dX6_isQuarrel_2 (fun H locs hW => ?_)
  refine lv_if_eq (tgt := 14) hx hb dX6_isQuarrel_5 (by decide) (fun c4 => ?_) (fun c4 => ?_)
  · have h := (if_pos c4).symm.trans h
    refine lv_aload_n hx hb dX6_isQuarrel_14 rfl (lv_at hl 0 rfl) ?_
    refine g_get X hW eX6_isQuarrel_12 0 rfl rfl dX6_isQuarrel_15 ?_
    refine g_get X hW eX6_isQuarrel_132 1 rfl rfl dX6_isQuarrel_18 ?_
    refine lv_iload_n hx hb dX6_isQuarrel_21 rfl (lv_at hl 1 rfl) ?_
    refine lv_iconst hx hb dX6_isQuarrel_22 qI_2 ?_
    obtain ⟨r10, hq, h⟩ := bn1_some h
    refine g_cvi X hW (As := [.int v1, .int (2 : Int32)]) (ws' := (wX6_isQuarrel G a_eb a_desk a_desk_words a_desk_words_a a_kept a_tape a_text a_plan a_mat a_desk_boxes a_desk_weeks a_desk_routes a_desk_offers a_desk_wants a_desk_leaves a_desk_leases a_desk_uses isKept planStands today lack rate free words_r words_f)) ckX6_isQuarrel_X4_cell_113 (kcX4_cell (l := l) G a_desk_words a_desk_words_a v1 (2 : Int32) (5 : Int32) (60 : Int32) words_r 300 words_f hq) ⟨rfl, rfl, Nat.le_of_ble_eq_true rfl, Nat.le_of_ble_eq_true rfl⟩ [2, 3] rfl rfl rfl rfl rfl rfl rfl hl.1 (Nat.le_of_ble_eq_true rfl) ⟨Nat.zero_le _, Nat.zero_le _⟩ dX6_isQuarrel_23 (fun H locs hW => ?_)
    refine lv_aload_n hx hb dX6_isQuarrel_26 rfl (lv_at hl 0 rfl) ?_
    refine g_get X hW eX6_isQuarrel_12 0 rfl rfl dX6_isQuarrel_27 ?_
    refine g_get X hW eX6_isQuarrel_132 1 rfl rfl dX6_isQuarrel_30 ?_
    refine lv_iload_n hx hb dX6_isQuarrel_33 rfl (lv_at hl 2 rfl) ?_
    refine lv_iconst hx hb dX6_isQuarrel_34 qI_2 ?_
    obtain ⟨r16, hq, h⟩ := bn1_some h
    refine g_cvi X hW (As := [.int v2, .int (2 : Int32)]) (ws' := (wX6_isQuarrel G a_eb a_desk a_desk_words a_desk_words_a a_kept a_tape a_text a_plan a_mat a_desk_boxes a_desk_weeks a_desk_routes a_desk_offers a_desk_wants a_desk_leaves a_desk_leases a_desk_uses isKept planStands today lack rate free words_r words_f)) ckX6_isQuarrel_X4_cell_113 (kcX4_cell (l := l) G a_desk_words a_desk_words_a v2 (2 : Int32) (5 : Int32) (60 : Int32) words_r 300 words_f hq) ⟨rfl, rfl, Nat.le_of_ble_eq_true rfl, Nat.le_of_ble_eq_true rfl⟩ [2, 3] rfl rfl rfl rfl rfl rfl rfl hl.1 (Nat.le_of_ble_eq_true rfl) ⟨Nat.zero_le _, Nat.zero_le _⟩ dX6_isQuarrel_35 (fun H locs hW => ?_)
    refine lv_icmp_eq (tgt := 45) hx hb dX6_isQuarrel_38 (by decide) (fun c17 => ?_) (fun c17 => ?_)
    · have h := (if_pos c17).symm.trans h
      refine lv_iconst hx hb dX6_isQuarrel_45 qI_0 ?_
      obtain rfl := Option.some.inj h
      exact g_zret X hW rfl dX6_isQuarrel_46
    · have h := (if_neg c17).symm.trans h
      refine lv_iconst hx hb dX6_isQuarrel_41 qI_1 ?_
      refine lv_goto (tgt := 46) hx hb dX6_isQuarrel_42 (by decide) ?_
      obtain rfl := Option.some.inj h
      exact g_zret X hW rfl dX6_isQuarrel_46
  · have h := (if_neg c4).symm.trans h
    refine lv_aload_n hx hb dX6_isQuarrel_8 rfl (lv_at hl 0 rfl) ?_
    refine lv_iload_n hx hb dX6_isQuarrel_9 rfl (lv_at hl 2 rfl) ?_
    obtain ⟨r25, hq, h⟩ := bn1_some h
    refine g_cvi X hW (As := [.int v2]) (ws' := (wX6_isQuarrel G a_eb a_desk a_desk_words a_desk_words_a a_kept a_tape a_text a_plan a_mat a_desk_boxes a_desk_weeks a_desk_routes a_desk_offers a_desk_wants a_desk_leaves a_desk_leases a_desk_uses isKept planStands today lack rate free words_r words_f)) ckX6_isQuarrel_X6_isOut_158 (kcX6_isOut (l := l) G a_eb a_desk a_desk_words a_desk_words_a a_kept a_tape a_text a_plan a_mat a_desk_boxes a_desk_weeks a_desk_routes a_desk_offers a_desk_wants a_desk_leaves a_desk_leases a_desk_uses v2 isKept planStands today lack rate free words_r words_f hq) ⟨rfl, rfl, Nat.le_of_ble_eq_true rfl, Nat.le_of_ble_eq_true rfl⟩ [0, 1, 2, 3] rfl rfl rfl rfl rfl rfl rfl hl.1 (Nat.le_of_ble_eq_true rfl) ⟨Nat.zero_le _, Nat.zero_le _⟩ dX6_isQuarrel_10 (fun H locs hW => ?_)
    obtain ⟨g26, h⟩ := gd_some h
    obtain rfl := Option.some.inj h
    exact g_zret X hW g26 dX6_isQuarrel_13
theorem kcX6_isQuarrel {l : Launch} (G : Gt) (a_eb a_desk a_desk_words a_desk_words_a a_kept a_tape a_text a_plan a_mat a_desk_boxes a_desk_weeks a_desk_routes a_desk_offers a_desk_wants a_desk_leaves a_desk_leases a_desk_uses : Nat) (v1 : Int32) (v2 : Int32) (isKept : Int32) (planStands : Int32) (today : Int32) (lack : Int32) (rate : Int32) (free : Int32) (words_r : Int32) (words_f : (Nat → Int32)) {r : Int32}  (h : fX6_isQuarrel v1 v2 words_r words_f = some r) : CtI G l yX6_isQuarrel wsX6_isQuarrel rmX6_isQuarrel [.ref a_eb, .int v1, .int v2] (wX6_isQuarrel G a_eb a_desk a_desk_words a_desk_words_a a_kept a_tape a_text a_plan a_mat a_desk_boxes a_desk_weeks a_desk_routes a_desk_offers a_desk_wants a_desk_leaves a_desk_leases a_desk_uses isKept planStands today lack rate free words_r words_f) r (wX6_isQuarrel G a_eb a_desk a_desk_words a_desk_words_a a_kept a_tape a_text a_plan a_mat a_desk_boxes a_desk_weeks a_desk_routes a_desk_offers a_desk_wants a_desk_leaves a_desk_leases a_desk_uses isKept planStands today lack rate free words_r words_f) := k0X6_isQuarrel G a_eb a_desk a_desk_words a_desk_words_a a_kept a_tape a_text a_plan a_mat a_desk_boxes a_desk_weeks a_desk_routes a_desk_offers a_desk_wants a_desk_leaves a_desk_leases a_desk_uses v1 v2 isKept planStands today lack rate free words_r words_f h
end MX6_isQuarrel
/-! EmptyBoxes.quarrels -/
section MX6_quarrels
theorem hdX6_quarrels : yX6_quarrels.cls = RX6 ∧ yX6_quarrels.cls ≠ "java/lang/invoke/MethodHandle" ∧ yX6_quarrels.cls ≠ "java/lang/invoke/VarHandle" ∧ (parseMethodDescriptor yX6_quarrels.desc).map (fun d => d.parameters.length) = some 2 := by decide +kernel
abbrev wX6_quarrels (G : Gt) (a_eb a_desk a_desk_boxes a_desk_words a_desk_words_a a_kept a_tape a_text a_plan a_mat a_desk_weeks a_desk_routes a_desk_offers a_desk_wants a_desk_leaves a_desk_leases a_desk_uses a_desk_boxes_a : Nat) (isKept : Int32) (planStands : Int32) (today : Int32) (lack : Int32) (rate : Int32) (free : Int32) (boxes_r : Int32) (words_r : Int32) (words_f : (Nat → Int32)) : va_W := [(a_eb, .inr (6, [.ref a_desk, .ref a_kept, .ref a_tape, .ref a_text, .ref a_plan, .ref a_mat, .int isKept, .int planStands])), (a_desk, .inr (0, [.ref a_desk_boxes, .ref a_desk_words, .ref a_desk_weeks, .ref a_desk_routes, .ref a_desk_offers, .ref a_desk_wants, .ref a_desk_leaves, .ref a_desk_leases, .ref a_desk_uses, .int today, .int lack, .int rate, .int free])), (a_desk_boxes, .inr (4, [.ref a_desk_boxes_a, .int (9 : Int32), .int (24 : Int32), .int boxes_r])), (a_desk_words, .inr (4, [.ref a_desk_words_a, .int (5 : Int32), .int (60 : Int32), .int words_r])), (a_desk_words_a, .inl (G.2.1, 300, .inl words_f))]
abbrev rmX6_quarrels : Room := { frames := 4, cells := 0, slots := 0, locals := 93 }
theorem iX6_quarrels_X0 : ∀ w ∈ wsX00, w ∈ wsX6_quarrels := by decide +kernel
theorem iX6_quarrels_X6 : ∀ w ∈ wsX60, w ∈ wsX6_quarrels := by decide +kernel
theorem eX6_quarrels_12 : Fk wsX6_quarrels RX6 12 6 0 := ⟨RX6, TX6, 8, rfl, iX6_quarrels_X6, by decide, by decide +kernel⟩
theorem eX6_quarrels_132 : Fk wsX6_quarrels RX6 132 0 1 := ⟨RX0, TX0, 13, rfl, iX6_quarrels_X0, by decide, by decide +kernel⟩
theorem eX6_quarrels_82 : Fk wsX6_quarrels RX6 82 0 0 := ⟨RX0, TX0, 13, rfl, iX6_quarrels_X0, by decide, by decide +kernel⟩
theorem ckX6_quarrels_X4_has_110 : CkV wsX6_quarrels RX6 110 yX4_has wsX4_has cX4_has 2 (some .boolean) 1 4 := ⟨RX4, TX4, 4, _, rfl, gX6_quarrels_X4_has, rfl, hdX4_has⟩
theorem ckX6_quarrels_X4_size_117 : CkV wsX6_quarrels RX6 117 yX4_size wsX4_size cX4_size 1 (some .int) 0 4 := ⟨RX4, TX4, 4, _, rfl, gX6_quarrels_X4_size, rfl, hdX4_size⟩
theorem ckX6_quarrels_X6_isHeard_145 : CkV wsX6_quarrels RX6 145 yX6_isHeard wsX6_isHeard cX6_isHeard 4 (some .boolean) 3 6 := ⟨RX6, TX6, 8, _, rfl, gX6_quarrels_X6_isHeard, rfl, hdX6_isHeard⟩
theorem ckX6_quarrels_X6_isPastDay_123 : CkV wsX6_quarrels RX6 123 yX6_isPastDay wsX6_isPastDay cX6_isPastDay 2 (some .boolean) 1 6 := ⟨RX6, TX6, 8, _, rfl, gX6_quarrels_X6_isPastDay, rfl, hdX6_isPastDay⟩
theorem ckX6_quarrels_X6_isQuarrel_151 : CkV wsX6_quarrels RX6 151 yX6_isQuarrel wsX6_isQuarrel cX6_isQuarrel 3 (some .boolean) 2 6 := ⟨RX6, TX6, 8, _, rfl, gX6_quarrels_X6_isQuarrel, rfl, hdX6_isQuarrel⟩
theorem ckX6_quarrels_X6_wordBehind_148 : CkV wsX6_quarrels RX6 148 yX6_wordBehind wsX6_wordBehind cX6_wordBehind 6 (some .int) 3 6 := ⟨RX6, TX6, 8, _, rfl, gX6_quarrels_X6_wordBehind, rfl, hdX6_wordBehind⟩
variable {p : Program} {l : Launch} {e : Env} {s : State} {m : MethodId} {args : Array Value} {below : List Frame} {meth : Method} {c : Code} {A : Nat → Prop} {G : Gt} {a_eb a_desk a_desk_boxes a_desk_words a_desk_words_a a_kept a_tape a_text a_plan a_mat a_desk_weeks a_desk_routes a_desk_offers a_desk_wants a_desk_leaves a_desk_leases a_desk_uses a_desk_boxes_a : Nat} {isKept : Int32} {planStands : Int32} {today : Int32} {lack : Int32} {rate : Int32} {free : Int32} {boxes_r : Int32} {words_r : Int32} {words_f : (Nat → Int32)} {res : Int32}
set_option maxHeartbeats 4000000 in
set_option maxRecDepth 100000 in
theorem tX6_quarrels_84 (X : Bx p s m args meth c cX6_quarrels 6 wsX6_quarrels RX6 (some .int)) (v1 : Int32) (v2 : Int32) (v3 : Int32) (v4 : Int32) (k_29 : Int32 → Int32 → Option (Int32)) (Hk_29 : ∀ (v3 : Int32) (v4 : Int32), k_29 v3 v4 = some res → ∀ (H : Heap) (locs : List Loc), Wo G A s (wX6_quarrels G a_eb a_desk a_desk_boxes a_desk_words a_desk_words_a a_kept a_tape a_text a_plan a_mat a_desk_weeks a_desk_routes a_desk_offers a_desk_wants a_desk_leaves a_desk_leases a_desk_uses a_desk_boxes_a isKept planStands today lack rate free boxes_r words_r words_f) H locs → ∀ ls : Array Slot, lv_has ls 6 [(0, .ref a_eb), (1, .int v1), (2, .int v2), (3, .int v3), (4, .int v4)] → W p l e rmX6_quarrels s m args below meth c H locs 0 0 (QI G A below args s res (wX6_quarrels G a_eb a_desk a_desk_boxes a_desk_words a_desk_words_a a_kept a_tape a_text a_plan a_mat a_desk_weeks a_desk_routes a_desk_offers a_desk_wants a_desk_leaves a_desk_leases a_desk_uses a_desk_boxes_a isKept planStands today lack rate free boxes_r words_r words_f)) (F0 m 29 ls [])) (h : fX6_quarrels_84 k_29 v3 v4 = some res) : ∀ (H : Heap) (locs : List Loc), Wo G A s (wX6_quarrels G a_eb a_desk a_desk_boxes a_desk_words a_desk_words_a a_kept a_tape a_text a_plan a_mat a_desk_weeks a_desk_routes a_desk_offers a_desk_wants a_desk_leaves a_desk_leases a_desk_uses a_desk_boxes_a isKept planStands today lack rate free boxes_r words_r words_f) H locs → ∀ ls : Array Slot, lv_has ls 6 [(0, .ref a_eb), (1, .int v1), (2, .int v2), (3, .int v3), (4, .int v4)] → W p l e rmX6_quarrels s m args below meth c H locs 0 0 (QI G A below args s res (wX6_quarrels G a_eb a_desk a_desk_boxes a_desk_words a_desk_words_a a_kept a_tape a_text a_plan a_mat a_desk_weeks a_desk_routes a_desk_offers a_desk_wants a_desk_leaves a_desk_leases a_desk_uses a_desk_boxes_a isKept planStands today lack rate free boxes_r words_r words_f)) (F0 m 84 ls []) := by
  obtain ⟨hx, hb, -⟩ := id X.1
  intro H locs hW ls hl
  rw [fX6_quarrels_84] at h
  refine lv_iinc (v := (v4 + (1 : Int32))) (lv' := [(4, .int (v4 + (1 : Int32))), (0, .ref a_eb), (1, .int v1), (2, .int v2), (3, .int v3)]) hx hb dX6_quarrels_84 hl (k := 4) rfl (congrArg (fun z => v4 + z) qI_1) (by decide) rfl (fun ls hl => ?_)
  refine lv_goto (tgt := 29) hx hb dX6_quarrels_87 (by decide) ?_
  exact Hk_29 v3 (v4 + (1 : Int32)) h H locs hW ls (lv_sub hl [1, 2, 3, 4, 0] rfl)
set_option maxHeartbeats 4000000 in
set_option maxRecDepth 100000 in
theorem tX6_quarrels_29 (X : Bx p s m args meth c cX6_quarrels 6 wsX6_quarrels RX6 (some .int)) (v1 : Int32) (v2 : Int32)   : ∀ (n : Nat) (v3 : Int32) (v4 : Int32), fX6_quarrels_29 v1 v2 words_r words_f n v3 v4 = some res → ∀ (H : Heap) (locs : List Loc), Wo G A s (wX6_quarrels G a_eb a_desk a_desk_boxes a_desk_words a_desk_words_a a_kept a_tape a_text a_plan a_mat a_desk_weeks a_desk_routes a_desk_offers a_desk_wants a_desk_leaves a_desk_leases a_desk_uses a_desk_boxes_a isKept planStands today lack rate free boxes_r words_r words_f) H locs → ∀ ls : Array Slot, lv_has ls 6 [(0, .ref a_eb), (1, .int v1), (2, .int v2), (3, .int v3), (4, .int v4)] → W p l e rmX6_quarrels s m args below meth c H locs 0 0 (QI G A below args s res (wX6_quarrels G a_eb a_desk a_desk_boxes a_desk_words a_desk_words_a a_kept a_tape a_text a_plan a_mat a_desk_weeks a_desk_routes a_desk_offers a_desk_wants a_desk_leaves a_desk_leases a_desk_uses a_desk_boxes_a isKept planStands today lack rate free boxes_r words_r words_f)) (F0 m 29 ls []) := by
  obtain ⟨hx, hb, -⟩ := id X.1
  intro n
  induction n with
  | zero => intro v3 v4 h; rw [fX6_quarrels_29] at h; cases h
  | succ n ih =>
    intro v3 v4 h H locs hW ls hl
    rw [fX6_quarrels_29] at h
    refine lv_iload hx hb dX6_quarrels_29 (lv_at hl 4 rfl) ?_
    refine lv_aload_n hx hb dX6_quarrels_31 rfl (lv_at hl 0 rfl) ?_
    refine g_get X hW eX6_quarrels_12 0 rfl rfl dX6_quarrels_32 ?_
    refine g_get X hW eX6_quarrels_132 1 rfl rfl dX6_quarrels_35 ?_
    obtain ⟨r7, hq, h⟩ := bn1_some h
    refine g_cvi X hW (As := []) (ws' := (wX6_quarrels G a_eb a_desk a_desk_boxes a_desk_words a_desk_words_a a_kept a_tape a_text a_plan a_mat a_desk_weeks a_desk_routes a_desk_offers a_desk_wants a_desk_leaves a_desk_leases a_desk_uses a_desk_boxes_a isKept planStands today lack rate free boxes_r words_r words_f)) ckX6_quarrels_X4_size_117 (kcX4_size (l := l) G a_desk_words a_desk_words_a (5 : Int32) (60 : Int32) words_r hq) ⟨rfl, rfl, Nat.le_of_ble_eq_true rfl, Nat.le_of_ble_eq_true rfl⟩ [3] rfl rfl rfl rfl rfl rfl rfl hl.1 (Nat.le_of_ble_eq_true rfl) ⟨Nat.zero_le _, Nat.zero_le _⟩ dX6_quarrels_38 (fun H locs hW => ?_)
    refine lv_icmp_ge (tgt := 90) hx hb dX6_quarrels_41 (by decide) (fun c8 => ?_) (fun c8 => ?_)
    · have h := (if_pos c8).symm.trans h
      refine lv_iload_n hx hb dX6_quarrels_90 rfl (lv_at hl 3 rfl) ?_
      obtain rfl := Option.some.inj h
      exact g_iret X hW dX6_quarrels_91
    · have h := (if_neg c8).symm.trans h
      refine lv_aload_n hx hb dX6_quarrels_44 rfl (lv_at hl 0 rfl) ?_
      refine lv_iload hx hb dX6_quarrels_45 (lv_at hl 4 rfl) ?_
      refine lv_iload_n hx hb dX6_quarrels_47 rfl (lv_at hl 1 rfl) ?_
      refine lv_iload_n hx hb dX6_quarrels_48 rfl (lv_at hl 2 rfl) ?_
      obtain ⟨r15, hq, h⟩ := bn1_some h
      refine g_cvi X hW (As := [.int v4, .int v1, .int v2]) (ws' := (wX6_quarrels G a_eb a_desk a_desk_boxes a_desk_words a_desk_words_a a_kept a_tape a_text a_plan a_mat a_desk_weeks a_desk_routes a_desk_offers a_desk_wants a_desk_leaves a_desk_leases a_desk_uses a_desk_boxes_a isKept planStands today lack rate free boxes_r words_r words_f)) ckX6_quarrels_X6_isHeard_145 (kcX6_isHeard (l := l) G a_eb a_desk a_desk_words a_desk_words_a a_kept a_tape a_text a_plan a_mat a_desk_boxes a_desk_weeks a_desk_routes a_desk_offers a_desk_wants a_desk_leaves a_desk_leases a_desk_uses v4 v1 v2 isKept planStands today lack rate free words_r words_f hq) ⟨rfl, rfl, Nat.le_of_ble_eq_true rfl, Nat.le_of_ble_eq_true rfl⟩ [0, 1, 3, 4] rfl rfl rfl rfl rfl rfl rfl hl.1 (Nat.le_of_ble_eq_true rfl) ⟨Nat.zero_le _, Nat.zero_le _⟩ dX6_quarrels_49 (fun H locs hW => ?_)
      refine lv_if_eq (tgt := 84) hx hb dX6_quarrels_52 (by decide) (fun c16 => ?_) (fun c16 => ?_)
      · have h := (if_pos c16).symm.trans h
        exact tX6_quarrels_84 X v1 v2 v3 v4 (fun v3 v4 => fX6_quarrels_29 v1 v2 words_r words_f n v3 v4) ih h H locs hW ls hl
      · have h := (if_neg c16).symm.trans h
        refine lv_aload_n hx hb dX6_quarrels_55 rfl (lv_at hl 0 rfl) ?_
        refine lv_iload hx hb dX6_quarrels_56 (lv_at hl 4 rfl) ?_
        refine lv_iload_n hx hb dX6_quarrels_58 rfl (lv_at hl 1 rfl) ?_
        refine lv_iload_n hx hb dX6_quarrels_59 rfl (lv_at hl 2 rfl) ?_
        obtain ⟨r21, hq, h⟩ := bn1_some h
        refine g_cvi X hW (As := [.int v4, .int v1, .int v2]) (ws' := (wX6_quarrels G a_eb a_desk a_desk_boxes a_desk_words a_desk_words_a a_kept a_tape a_text a_plan a_mat a_desk_weeks a_desk_routes a_desk_offers a_desk_wants a_desk_leaves a_desk_leases a_desk_uses a_desk_boxes_a isKept planStands today lack rate free boxes_r words_r words_f)) ckX6_quarrels_X6_wordBehind_148 (kcX6_wordBehind (l := l) G a_eb a_desk a_desk_words a_desk_words_a a_kept a_tape a_text a_plan a_mat a_desk_boxes a_desk_weeks a_desk_routes a_desk_offers a_desk_wants a_desk_leaves a_desk_leases a_desk_uses v4 v1 v2 isKept planStands today lack rate free words_r words_f hq) ⟨rfl, rfl, Nat.le_of_ble_eq_true rfl, Nat.le_of_ble_eq_true rfl⟩ [0, 1, 3, 4] rfl rfl rfl rfl rfl rfl rfl hl.1 (Nat.le_of_ble_eq_true rfl) ⟨Nat.zero_le _, Nat.zero_le _⟩ dX6_quarrels_60 (fun H locs hW => ?_)
        refine lv_istore (lv' := [(5, .int r21), (0, .ref a_eb), (1, .int v1), (2, .int v2), (3, .int v3), (4, .int v4)]) hx hb dX6_quarrels_63 hl (by decide) rfl (fun ls hl => ?_)
        refine lv_iload hx hb dX6_quarrels_65 (lv_at hl 0 rfl) ?_
        refine lv_if_lt (tgt := 84) hx hb dX6_quarrels_67 (by decide) (fun c24 => ?_) (fun c24 => ?_)
        · have h := (if_pos c24).symm.trans h
          exact tX6_quarrels_84 X v1 v2 v3 v4 (fun v3 v4 => fX6_quarrels_29 v1 v2 words_r words_f n v3 v4) ih h H locs hW ls (lv_sub hl [1, 2, 3, 4, 5] rfl)
        · have h := (if_neg c24).symm.trans h
          refine lv_aload_n hx hb dX6_quarrels_70 rfl (lv_at hl 1 rfl) ?_
          refine lv_iload hx hb dX6_quarrels_71 (lv_at hl 5 rfl) ?_
          refine lv_iload hx hb dX6_quarrels_73 (lv_at hl 0 rfl) ?_
          obtain ⟨r28, hq, h⟩ := bn1_some h
          refine g_cvi X hW (As := [.int v4, .int r21]) (ws' := (wX6_quarrels G a_eb a_desk a_desk_boxes a_desk_words a_desk_words_a a_kept a_tape a_text a_plan a_mat a_desk_weeks a_desk_routes a_desk_offers a_desk_wants a_desk_leaves a_desk_leases a_desk_uses a_desk_boxes_a isKept planStands today lack rate free boxes_r words_r words_f)) ckX6_quarrels_X6_isQuarrel_151 (kcX6_isQuarrel (l := l) G a_eb a_desk a_desk_words a_desk_words_a a_kept a_tape a_text a_plan a_mat a_desk_boxes a_desk_weeks a_desk_routes a_desk_offers a_desk_wants a_desk_leaves a_desk_leases a_desk_uses v4 r21 isKept planStands today lack rate free words_r words_f hq) ⟨rfl, rfl, Nat.le_of_ble_eq_true rfl, Nat.le_of_ble_eq_true rfl⟩ [0, 1, 3, 4] rfl rfl rfl rfl rfl rfl rfl hl.1 (Nat.le_of_ble_eq_true rfl) ⟨Nat.zero_le _, Nat.zero_le _⟩ dX6_quarrels_75 (fun H locs hW => ?_)
          refine lv_if_eq (tgt := 84) hx hb dX6_quarrels_78 (by decide) (fun c29 => ?_) (fun c29 => ?_)
          · have h := (if_pos c29).symm.trans h
            exact tX6_quarrels_84 X v1 v2 v3 v4 (fun v3 v4 => fX6_quarrels_29 v1 v2 words_r words_f n v3 v4) ih h H locs hW ls (lv_sub hl [1, 2, 3, 4, 5] rfl)
          · have h := (if_neg c29).symm.trans h
            refine lv_iinc (v := (v3 + (1 : Int32))) (lv' := [(3, .int (v3 + (1 : Int32))), (5, .int r21), (0, .ref a_eb), (1, .int v1), (2, .int v2), (4, .int v4)]) hx hb dX6_quarrels_81 hl (k := 4) rfl (congrArg (fun z => v3 + z) qI_1) (by decide) rfl (fun ls hl => ?_)
            exact tX6_quarrels_84 X v1 v2 (v3 + (1 : Int32)) v4 (fun v3 v4 => fX6_quarrels_29 v1 v2 words_r words_f n v3 v4) ih h H locs hW ls (lv_sub hl [2, 3, 4, 0, 5] rfl)
set_option maxHeartbeats 4000000 in
set_option maxRecDepth 100000 in
theorem k0X6_quarrels {l : Launch} (G : Gt) (a_eb a_desk a_desk_boxes a_desk_words a_desk_words_a a_kept a_tape a_text a_plan a_mat a_desk_weeks a_desk_routes a_desk_offers a_desk_wants a_desk_leaves a_desk_leases a_desk_uses a_desk_boxes_a : Nat) (v1 : Int32) (v2 : Int32) (isKept : Int32) (planStands : Int32) (today : Int32) (lack : Int32) (rate : Int32) (free : Int32) (boxes_r : Int32) (words_r : Int32) (words_f : (Nat → Int32)) {res : Int32} (h : fX6_quarrels v1 v2 today boxes_r words_r words_f = some res) : CtI G l yX6_quarrels wsX6_quarrels rmX6_quarrels [.ref a_eb, .int v1, .int v2] (wX6_quarrels G a_eb a_desk a_desk_boxes a_desk_words a_desk_words_a a_kept a_tape a_text a_plan a_mat a_desk_weeks a_desk_routes a_desk_offers a_desk_wants a_desk_leaves a_desk_leases a_desk_uses a_desk_boxes_a isKept planStands today lack rate free boxes_r words_r words_f) res (wX6_quarrels G a_eb a_desk a_desk_boxes a_desk_words a_desk_words_a a_kept a_tape a_text a_plan a_mat a_desk_weeks a_desk_routes a_desk_offers a_desk_wants a_desk_leaves a_desk_leases a_desk_uses a_desk_boxes_a isKept planStands today lack rate free boxes_r words_r words_f) := by
  refine CtI.mk (cc := cX6_quarrels) (maxL := 6) (ret := (some .int)) (own := RX6) (by decide) rfl rfl (Nat.le_of_ble_eq_true rfl) ?_
  intro p e s m below meth c A X ls hl hW
  obtain ⟨hx, hb, -⟩ := id X.1
  have hl : lv_has ls 6 [(0, .ref a_eb), (1, .int v1), (2, .int v2)] := hl
  generalize hH : s.heap = H at hW ⊢
  generalize hLo : ([] : List Loc) = locs at hW ⊢
  rw [fX6_quarrels] at h
  refine lv_aload_n hx hb dX6_quarrels_0 rfl (lv_at hl 0 rfl) ?_
  refine g_get X hW eX6_quarrels_12 0 rfl rfl dX6_quarrels_1 ?_
  refine g_get X hW eX6_quarrels_82 1 rfl rfl dX6_quarrels_4 ?_
  refine lv_iload_n hx hb dX6_quarrels_7 rfl (lv_at hl 1 rfl) ?_
  obtain ⟨r35, hq, h⟩ := bn1_some h
  refine g_cvi X hW (As := [.int v1]) (ws' := (wX6_quarrels G a_eb a_desk a_desk_boxes a_desk_words a_desk_words_a a_kept a_tape a_text a_plan a_mat a_desk_weeks a_desk_routes a_desk_offers a_desk_wants a_desk_leaves a_desk_leases a_desk_uses a_desk_boxes_a isKept planStands today lack rate free boxes_r words_r words_f)) ckX6_quarrels_X4_has_110 (kcX4_has (l := l) G a_desk_boxes a_desk_boxes_a v1 (9 : Int32) (24 : Int32) boxes_r hq) ⟨rfl, rfl, Nat.le_of_ble_eq_true rfl, Nat.le_of_ble_eq_true rfl⟩ [2] rfl rfl rfl rfl rfl rfl rfl hl.1 (Nat.le_of_ble_eq_true rfl) ⟨Nat.zero_le _, Nat.zero_le _⟩ dX6_quarrels_8 (fun H locs hW => ?_)
  refine lv_if_eq (tgt := 22) hx hb dX6_quarrels_11 (by decide) (fun c36 => ?_) (fun c36 => ?_)
  · have h := (if_pos c36).symm.trans h
    refine lv_iconst hx hb dX6_quarrels_22 qI_m1 ?_
    obtain rfl := Option.some.inj h
    exact g_iret X hW dX6_quarrels_23
  · have h := (if_neg c36).symm.trans h
    refine lv_aload_n hx hb dX6_quarrels_14 rfl (lv_at hl 0 rfl) ?_
    refine lv_iload_n hx hb dX6_quarrels_15 rfl (lv_at hl 2 rfl) ?_
    obtain ⟨r41, hq, h⟩ := bn1_some h
    refine g_cvi X hW (As := [.int v2]) (ws' := (wX6_quarrels G a_eb a_desk a_desk_boxes a_desk_words a_desk_words_a a_kept a_tape a_text a_plan a_mat a_desk_weeks a_desk_routes a_desk_offers a_desk_wants a_desk_leaves a_desk_leases a_desk_uses a_desk_boxes_a isKept planStands today lack rate free boxes_r words_r words_f)) ckX6_quarrels_X6_isPastDay_123 (kcX6_isPastDay (l := l) G a_eb a_desk a_kept a_tape a_text a_plan a_mat a_desk_boxes a_desk_words a_desk_weeks a_desk_routes a_desk_offers a_desk_wants a_desk_leaves a_desk_leases a_desk_uses v2 isKept planStands today lack rate free hq) ⟨rfl, rfl, Nat.le_of_ble_eq_true rfl, Nat.le_of_ble_eq_true rfl⟩ [0, 1] rfl rfl rfl rfl rfl rfl rfl hl.1 (Nat.le_of_ble_eq_true rfl) ⟨Nat.zero_le _, Nat.zero_le _⟩ dX6_quarrels_16 (fun H locs hW => ?_)
    refine lv_if_ne (tgt := 24) hx hb dX6_quarrels_19 (by decide) (fun c42 => ?_) (fun c42 => ?_)
    · have h := (if_neg c42).symm.trans h
      refine lv_iconst hx hb dX6_quarrels_24 qI_0 ?_
      refine lv_istore_n (lv' := [(3, .int (0 : Int32)), (0, .ref a_eb), (1, .int v1), (2, .int v2)]) hx hb dX6_quarrels_25 rfl hl (by decide) rfl (fun ls hl => ?_)
      refine lv_iconst hx hb dX6_quarrels_26 qI_0 ?_
      refine lv_istore (lv' := [(4, .int (0 : Int32)), (3, .int (0 : Int32)), (0, .ref a_eb), (1, .int v1), (2, .int v2)]) hx hb dX6_quarrels_27 hl (by decide) rfl (fun ls hl => ?_)
      exact tX6_quarrels_29 X v1 v2 FU (0 : Int32) (0 : Int32) h H locs hW ls (lv_sub hl [2, 3, 4, 1, 0] rfl)
    · have h := (if_pos c42).symm.trans h
      refine lv_iconst hx hb dX6_quarrels_22 qI_m1 ?_
      obtain rfl := Option.some.inj h
      exact g_iret X hW dX6_quarrels_23
theorem kcX6_quarrels {l : Launch} (G : Gt) (a_eb a_desk a_desk_boxes a_desk_words a_desk_words_a a_kept a_tape a_text a_plan a_mat a_desk_weeks a_desk_routes a_desk_offers a_desk_wants a_desk_leaves a_desk_leases a_desk_uses a_desk_boxes_a : Nat) (v1 : Int32) (v2 : Int32) (isKept : Int32) (planStands : Int32) (today : Int32) (lack : Int32) (rate : Int32) (free : Int32) (boxes_r : Int32) (words_r : Int32) (words_f : (Nat → Int32)) {r : Int32}  (h : fX6_quarrels v1 v2 today boxes_r words_r words_f = some r) : CtI G l yX6_quarrels wsX6_quarrels rmX6_quarrels [.ref a_eb, .int v1, .int v2] (wX6_quarrels G a_eb a_desk a_desk_boxes a_desk_words a_desk_words_a a_kept a_tape a_text a_plan a_mat a_desk_weeks a_desk_routes a_desk_offers a_desk_wants a_desk_leaves a_desk_leases a_desk_uses a_desk_boxes_a isKept planStands today lack rate free boxes_r words_r words_f) r (wX6_quarrels G a_eb a_desk a_desk_boxes a_desk_words a_desk_words_a a_kept a_tape a_text a_plan a_mat a_desk_weeks a_desk_routes a_desk_offers a_desk_wants a_desk_leaves a_desk_leases a_desk_uses a_desk_boxes_a isKept planStands today lack rate free boxes_r words_r words_f) := k0X6_quarrels G a_eb a_desk a_desk_boxes a_desk_words a_desk_words_a a_kept a_tape a_text a_plan a_mat a_desk_weeks a_desk_routes a_desk_offers a_desk_wants a_desk_leaves a_desk_leases a_desk_uses a_desk_boxes_a v1 v2 isKept planStands today lack rate free boxes_r words_r words_f h
end MX6_quarrels
/-! EmptyBoxes.isLateToday -/
section MX6_isLateToday
theorem hdX6_isLateToday : yX6_isLateToday.cls = RX6 ∧ yX6_isLateToday.cls ≠ "java/lang/invoke/MethodHandle" ∧ yX6_isLateToday.cls ≠ "java/lang/invoke/VarHandle" ∧ (parseMethodDescriptor yX6_isLateToday.desc).map (fun d => d.parameters.length) = some 1 := by decide +kernel
abbrev wX6_isLateToday (G : Gt) (a_eb a_desk a_desk_words a_desk_words_a a_kept a_tape a_text a_plan a_mat a_desk_boxes a_desk_weeks a_desk_routes a_desk_offers a_desk_wants a_desk_leaves a_desk_leases a_desk_uses : Nat) (isKept : Int32) (planStands : Int32) (today : Int32) (lack : Int32) (rate : Int32) (free : Int32) (words_r : Int32) (words_f : (Nat → Int32)) : va_W := [(a_eb, .inr (6, [.ref a_desk, .ref a_kept, .ref a_tape, .ref a_text, .ref a_plan, .ref a_mat, .int isKept, .int planStands])), (a_desk, .inr (0, [.ref a_desk_boxes, .ref a_desk_words, .ref a_desk_weeks, .ref a_desk_routes, .ref a_desk_offers, .ref a_desk_wants, .ref a_desk_leaves, .ref a_desk_leases, .ref a_desk_uses, .int today, .int lack, .int rate, .int free])), (a_desk_words, .inr (4, [.ref a_desk_words_a, .int (5 : Int32), .int (60 : Int32), .int words_r])), (a_desk_words_a, .inl (G.2.1, 300, .inl words_f))]
abbrev rmX6_isLateToday : Room := { frames := 4, cells := 0, slots := 0, locals := 94 }
theorem iX6_isLateToday_X0 : ∀ w ∈ wsX00, w ∈ wsX6_isLateToday := by decide +kernel
theorem iX6_isLateToday_X6 : ∀ w ∈ wsX60, w ∈ wsX6_isLateToday := by decide +kernel
theorem eX6_isLateToday_12 : Fk wsX6_isLateToday RX6 12 6 0 := ⟨RX6, TX6, 8, rfl, iX6_isLateToday_X6, by decide, by decide +kernel⟩
theorem eX6_isLateToday_132 : Fk wsX6_isLateToday RX6 132 0 1 := ⟨RX0, TX0, 13, rfl, iX6_isLateToday_X0, by decide, by decide +kernel⟩
theorem eX6_isLateToday_58 : Fk wsX6_isLateToday RX6 58 0 9 := ⟨RX0, TX0, 13, rfl, iX6_isLateToday_X0, by decide, by decide +kernel⟩
theorem ckX6_isLateToday_X4_cell_113 : CkV wsX6_isLateToday RX6 113 yX4_cell wsX4_cell cX4_cell 3 (some .int) 2 4 := ⟨RX4, TX4, 4, _, rfl, gX6_isLateToday_X4_cell, rfl, hdX4_cell⟩
theorem ckX6_isLateToday_X6_isOut_158 : CkV wsX6_isLateToday RX6 158 yX6_isOut wsX6_isOut cX6_isOut 2 (some .boolean) 1 6 := ⟨RX6, TX6, 8, _, rfl, gX6_isLateToday_X6_isOut, rfl, hdX6_isOut⟩
theorem ckX6_isLateToday_X6_latestWord_142 : CkV wsX6_isLateToday RX6 142 yX6_latestWord wsX6_latestWord cX6_latestWord 8 (some .int) 3 6 := ⟨RX6, TX6, 8, _, rfl, gX6_isLateToday_X6_latestWord, rfl, hdX6_latestWord⟩
variable {p : Program} {l : Launch} {e : Env} {s : State} {m : MethodId} {args : Array Value} {below : List Frame} {meth : Method} {c : Code} {A : Nat → Prop} {G : Gt} {a_eb a_desk a_desk_words a_desk_words_a a_kept a_tape a_text a_plan a_mat a_desk_boxes a_desk_weeks a_desk_routes a_desk_offers a_desk_wants a_desk_leaves a_desk_leases a_desk_uses : Nat} {isKept : Int32} {planStands : Int32} {today : Int32} {lack : Int32} {rate : Int32} {free : Int32} {words_r : Int32} {words_f : (Nat → Int32)} {res : Int32}
set_option maxHeartbeats 4000000 in
set_option maxRecDepth 100000 in
theorem k0X6_isLateToday {l : Launch} (G : Gt) (a_eb a_desk a_desk_words a_desk_words_a a_kept a_tape a_text a_plan a_mat a_desk_boxes a_desk_weeks a_desk_routes a_desk_offers a_desk_wants a_desk_leaves a_desk_leases a_desk_uses : Nat) (v1 : Int32) (isKept : Int32) (planStands : Int32) (today : Int32) (lack : Int32) (rate : Int32) (free : Int32) (words_r : Int32) (words_f : (Nat → Int32)) {res : Int32} (h : fX6_isLateToday v1 today words_r words_f = some res) : CtI G l yX6_isLateToday wsX6_isLateToday rmX6_isLateToday [.ref a_eb, .int v1] (wX6_isLateToday G a_eb a_desk a_desk_words a_desk_words_a a_kept a_tape a_text a_plan a_mat a_desk_boxes a_desk_weeks a_desk_routes a_desk_offers a_desk_wants a_desk_leaves a_desk_leases a_desk_uses isKept planStands today lack rate free words_r words_f) res (wX6_isLateToday G a_eb a_desk a_desk_words a_desk_words_a a_kept a_tape a_text a_plan a_mat a_desk_boxes a_desk_weeks a_desk_routes a_desk_offers a_desk_wants a_desk_leaves a_desk_leases a_desk_uses isKept planStands today lack rate free words_r words_f) := by
  refine CtI.mk (cc := cX6_isLateToday) (maxL := 3) (ret := (some .boolean)) (own := RX6) (by decide) rfl rfl (Nat.le_of_ble_eq_true rfl) ?_
  intro p e s m below meth c A X ls hl hW
  obtain ⟨hx, hb, -⟩ := id X.1
  have hl : lv_has ls 3 [(0, .ref a_eb), (1, .int v1)] := hl
  generalize hH : s.heap = H at hW ⊢
  generalize hLo : ([] : List Loc) = locs at hW ⊢
  rw [fX6_isLateToday] at h
  refine lv_aload_n hx hb dX6_isLateToday_0 rfl (lv_at hl 0 rfl) ?_
  refine lv_iload_n hx hb dX6_isLateToday_1 rfl (lv_at hl 1 rfl) ?_
  refine lv_aload_n hx hb dX6_isLateToday_2 rfl (lv_at hl 0 rfl) ?_
  refine g_get X hW eX6_isLateToday_12 0 rfl rfl dX6_isLateToday_3 ?_
  refine g_get X hW eX6_isLateToday_58 1 rfl rfl dX6_isLateToday_6 ?_
  refine lv_aload_n hx hb dX6_isLateToday_9 rfl (lv_at hl 0 rfl) ?_
  refine g_get X hW eX6_isLateToday_12 0 rfl rfl dX6_isLateToday_10 ?_
  refine g_get X hW eX6_isLateToday_58 1 rfl rfl dX6_isLateToday_13 ?_
  obtain ⟨r9, hq, h⟩ := bn1_some h
  refine g_cvi X hW (As := [.int v1, .int today, .int today]) (ws' := (wX6_isLateToday G a_eb a_desk a_desk_words a_desk_words_a a_kept a_tape a_text a_plan a_mat a_desk_boxes a_desk_weeks a_desk_routes a_desk_offers a_desk_wants a_desk_leaves a_desk_leases a_desk_uses isKept planStands today lack rate free words_r words_f)) ckX6_isLateToday_X6_latestWord_142 (kcX6_latestWord (l := l) G a_eb a_desk a_desk_words a_desk_words_a a_kept a_tape a_text a_plan a_mat a_desk_boxes a_desk_weeks a_desk_routes a_desk_offers a_desk_wants a_desk_leaves a_desk_leases a_desk_uses v1 today today isKept planStands today lack rate free words_r words_f hq) ⟨rfl, rfl, Nat.le_of_ble_eq_true rfl, Nat.le_of_ble_eq_true rfl⟩ [0, 1, 2, 3] rfl rfl rfl rfl rfl rfl rfl hl.1 (Nat.le_of_ble_eq_true rfl) ⟨Nat.zero_le _, Nat.zero_le _⟩ dX6_isLateToday_16 (fun H locs hW => ?_)
  refine lv_istore_n (lv' := [(2, .int r9), (0, .ref a_eb), (1, .int v1)]) hx hb dX6_isLateToday_19 rfl hl (by decide) rfl (fun ls hl => ?_)
  refine lv_iload_n hx hb dX6_isLateToday_20 rfl (lv_at hl 0 rfl) ?_
  refine lv_if_lt (tgt := 61) hx hb dX6_isLateToday_21 (by decide) (fun c12 => ?_) (fun c12 => ?_)
  · have h := (if_pos c12).symm.trans h
    refine lv_iconst hx hb dX6_isLateToday_61 qI_0 ?_
    obtain rfl := Option.some.inj h
    exact g_zret X hW rfl dX6_isLateToday_62
  · have h := (if_neg c12).symm.trans h
    refine lv_aload_n hx hb dX6_isLateToday_24 rfl (lv_at hl 1 rfl) ?_
    refine lv_iload_n hx hb dX6_isLateToday_25 rfl (lv_at hl 0 rfl) ?_
    obtain ⟨r17, hq, h⟩ := bn1_some h
    refine g_cvi X hW (As := [.int r9]) (ws' := (wX6_isLateToday G a_eb a_desk a_desk_words a_desk_words_a a_kept a_tape a_text a_plan a_mat a_desk_boxes a_desk_weeks a_desk_routes a_desk_offers a_desk_wants a_desk_leaves a_desk_leases a_desk_uses isKept planStands today lack rate free words_r words_f)) ckX6_isLateToday_X6_isOut_158 (kcX6_isOut (l := l) G a_eb a_desk a_desk_words a_desk_words_a a_kept a_tape a_text a_plan a_mat a_desk_boxes a_desk_weeks a_desk_routes a_desk_offers a_desk_wants a_desk_leaves a_desk_leases a_desk_uses r9 isKept planStands today lack rate free words_r words_f hq) ⟨rfl, rfl, Nat.le_of_ble_eq_true rfl, Nat.le_of_ble_eq_true rfl⟩ [0, 1, 2, 3] rfl rfl rfl rfl rfl rfl rfl hl.1 (Nat.le_of_ble_eq_true rfl) ⟨Nat.zero_le _, Nat.zero_le _⟩ dX6_isLateToday_26 (fun H locs hW => ?_)
    refine lv_if_eq (tgt := 61) hx hb dX6_isLateToday_29 (by decide) (fun c18 => ?_) (fun c18 => ?_)
    · have h := (if_pos c18).symm.trans h
      refine lv_iconst hx hb dX6_isLateToday_61 qI_0 ?_
      obtain rfl := Option.some.inj h
      exact g_zret X hW rfl dX6_isLateToday_62
    · have h := (if_neg c18).symm.trans h
      refine lv_aload_n hx hb dX6_isLateToday_32 rfl (lv_at hl 1 rfl) ?_
      refine g_get X hW eX6_isLateToday_12 0 rfl rfl dX6_isLateToday_33 ?_
      refine g_get X hW eX6_isLateToday_58 1 rfl rfl dX6_isLateToday_36 ?_
      refine lv_aload_n hx hb dX6_isLateToday_39 rfl (lv_at hl 1 rfl) ?_
      refine g_get X hW eX6_isLateToday_12 0 rfl rfl dX6_isLateToday_40 ?_
      refine g_get X hW eX6_isLateToday_132 1 rfl rfl dX6_isLateToday_43 ?_
      refine lv_iload_n hx hb dX6_isLateToday_46 rfl (lv_at hl 0 rfl) ?_
      refine lv_iconst hx hb dX6_isLateToday_47 qI_1 ?_
      obtain ⟨r29, hq, h⟩ := bn1_some h
      refine g_cvi X hW (As := [.int r9, .int (1 : Int32)]) (ws' := (wX6_isLateToday G a_eb a_desk a_desk_words a_desk_words_a a_kept a_tape a_text a_plan a_mat a_desk_boxes a_desk_weeks a_desk_routes a_desk_offers a_desk_wants a_desk_leaves a_desk_leases a_desk_uses isKept planStands today lack rate free words_r words_f)) ckX6_isLateToday_X4_cell_113 (kcX4_cell (l := l) G a_desk_words a_desk_words_a r9 (1 : Int32) (5 : Int32) (60 : Int32) words_r 300 words_f hq) ⟨rfl, rfl, Nat.le_of_ble_eq_true rfl, Nat.le_of_ble_eq_true rfl⟩ [2, 3] rfl rfl rfl rfl rfl rfl rfl hl.1 (Nat.le_of_ble_eq_true rfl) ⟨Nat.zero_le _, Nat.zero_le _⟩ dX6_isLateToday_48 (fun H locs hW => ?_)
      refine lv_isub hx hb dX6_isLateToday_51 ?_
      refine lv_bipush hx hb dX6_isLateToday_52 qB_20 ?_
      refine lv_icmp_le (tgt := 61) hx hb dX6_isLateToday_54 (by decide) (fun c32 => ?_) (fun c32 => ?_)
      · have h := (if_pos c32).symm.trans h
        refine lv_iconst hx hb dX6_isLateToday_61 qI_0 ?_
        obtain rfl := Option.some.inj h
        exact g_zret X hW rfl dX6_isLateToday_62
      · have h := (if_neg c32).symm.trans h
        refine lv_iconst hx hb dX6_isLateToday_57 qI_1 ?_
        refine lv_goto (tgt := 62) hx hb dX6_isLateToday_58 (by decide) ?_
        obtain rfl := Option.some.inj h
        exact g_zret X hW rfl dX6_isLateToday_62
theorem kcX6_isLateToday {l : Launch} (G : Gt) (a_eb a_desk a_desk_words a_desk_words_a a_kept a_tape a_text a_plan a_mat a_desk_boxes a_desk_weeks a_desk_routes a_desk_offers a_desk_wants a_desk_leaves a_desk_leases a_desk_uses : Nat) (v1 : Int32) (isKept : Int32) (planStands : Int32) (today : Int32) (lack : Int32) (rate : Int32) (free : Int32) (words_r : Int32) (words_f : (Nat → Int32)) {r : Int32}  (h : fX6_isLateToday v1 today words_r words_f = some r) : CtI G l yX6_isLateToday wsX6_isLateToday rmX6_isLateToday [.ref a_eb, .int v1] (wX6_isLateToday G a_eb a_desk a_desk_words a_desk_words_a a_kept a_tape a_text a_plan a_mat a_desk_boxes a_desk_weeks a_desk_routes a_desk_offers a_desk_wants a_desk_leaves a_desk_leases a_desk_uses isKept planStands today lack rate free words_r words_f) r (wX6_isLateToday G a_eb a_desk a_desk_words a_desk_words_a a_kept a_tape a_text a_plan a_mat a_desk_boxes a_desk_weeks a_desk_routes a_desk_offers a_desk_wants a_desk_leaves a_desk_leases a_desk_uses isKept planStands today lack rate free words_r words_f) := k0X6_isLateToday G a_eb a_desk a_desk_words a_desk_words_a a_kept a_tape a_text a_plan a_mat a_desk_boxes a_desk_weeks a_desk_routes a_desk_offers a_desk_wants a_desk_leaves a_desk_leases a_desk_uses v1 isKept planStands today lack rate free words_r words_f h
end MX6_isLateToday
/-! EmptyBoxes.isCountedAs -/
section MX6_isCountedAs
theorem hdX6_isCountedAs : yX6_isCountedAs.cls = RX6 ∧ yX6_isCountedAs.cls ≠ "java/lang/invoke/MethodHandle" ∧ yX6_isCountedAs.cls ≠ "java/lang/invoke/VarHandle" ∧ (parseMethodDescriptor yX6_isCountedAs.desc).map (fun d => d.parameters.length) = some 2 := by decide +kernel
abbrev wX6_isCountedAs (G : Gt) (a_eb a_desk a_desk_words a_desk_words_a a_kept a_tape a_text a_plan a_mat a_desk_boxes a_desk_weeks a_desk_routes a_desk_offers a_desk_wants a_desk_leaves a_desk_leases a_desk_uses : Nat) (isKept : Int32) (planStands : Int32) (today : Int32) (lack : Int32) (rate : Int32) (free : Int32) (words_r : Int32) (words_f : (Nat → Int32)) : va_W := [(a_eb, .inr (6, [.ref a_desk, .ref a_kept, .ref a_tape, .ref a_text, .ref a_plan, .ref a_mat, .int isKept, .int planStands])), (a_desk, .inr (0, [.ref a_desk_boxes, .ref a_desk_words, .ref a_desk_weeks, .ref a_desk_routes, .ref a_desk_offers, .ref a_desk_wants, .ref a_desk_leaves, .ref a_desk_leases, .ref a_desk_uses, .int today, .int lack, .int rate, .int free])), (a_desk_words, .inr (4, [.ref a_desk_words_a, .int (5 : Int32), .int (60 : Int32), .int words_r])), (a_desk_words_a, .inl (G.2.1, 300, .inl words_f))]
abbrev rmX6_isCountedAs : Room := { frames := 5, cells := 0, slots := 0, locals := 119 }
theorem iX6_isCountedAs_X0 : ∀ w ∈ wsX00, w ∈ wsX6_isCountedAs := by decide +kernel
theorem iX6_isCountedAs_X6 : ∀ w ∈ wsX60, w ∈ wsX6_isCountedAs := by decide +kernel
theorem eX6_isCountedAs_12 : Fk wsX6_isCountedAs RX6 12 6 0 := ⟨RX6, TX6, 8, rfl, iX6_isCountedAs_X6, by decide, by decide +kernel⟩
theorem eX6_isCountedAs_58 : Fk wsX6_isCountedAs RX6 58 0 9 := ⟨RX0, TX0, 13, rfl, iX6_isCountedAs_X0, by decide, by decide +kernel⟩
theorem ckX6_isCountedAs_X6_isLateToday_161 : CkV wsX6_isCountedAs RX6 161 yX6_isLateToday wsX6_isLateToday cX6_isLateToday 3 (some .boolean) 1 6 := ⟨RX6, TX6, 8, _, rfl, gX6_isCountedAs_X6_isLateToday, rfl, hdX6_isLateToday⟩
theorem ckX6_isCountedAs_X6_isWithin_54 : CkS wsX6_isCountedAs RX6 54 yX6_isWithin wsX6_isWithin cX6_isWithin 3 (some .boolean) 3 := ⟨_, gX6_isCountedAs_X6_isWithin, rfl, hdX6_isWithin.2⟩
theorem ckX6_isCountedAs_X6_standing_138 : CkV wsX6_isCountedAs RX6 138 yX6_standing wsX6_standing cX6_standing 6 (some .int) 3 6 := ⟨RX6, TX6, 8, _, rfl, gX6_isCountedAs_X6_standing, rfl, hdX6_standing⟩
variable {p : Program} {l : Launch} {e : Env} {s : State} {m : MethodId} {args : Array Value} {below : List Frame} {meth : Method} {c : Code} {A : Nat → Prop} {G : Gt} {a_eb a_desk a_desk_words a_desk_words_a a_kept a_tape a_text a_plan a_mat a_desk_boxes a_desk_weeks a_desk_routes a_desk_offers a_desk_wants a_desk_leaves a_desk_leases a_desk_uses : Nat} {isKept : Int32} {planStands : Int32} {today : Int32} {lack : Int32} {rate : Int32} {free : Int32} {words_r : Int32} {words_f : (Nat → Int32)} {res : Int32}
set_option maxHeartbeats 4000000 in
set_option maxRecDepth 100000 in
theorem k0X6_isCountedAs {l : Launch} (G : Gt) (a_eb a_desk a_desk_words a_desk_words_a a_kept a_tape a_text a_plan a_mat a_desk_boxes a_desk_weeks a_desk_routes a_desk_offers a_desk_wants a_desk_leaves a_desk_leases a_desk_uses : Nat) (v1 : Int32) (v2 : Int32) (isKept : Int32) (planStands : Int32) (today : Int32) (lack : Int32) (rate : Int32) (free : Int32) (words_r : Int32) (words_f : (Nat → Int32)) {res : Int32} (h : fX6_isCountedAs v1 v2 today words_r words_f = some res) : CtI G l yX6_isCountedAs wsX6_isCountedAs rmX6_isCountedAs [.ref a_eb, .int v1, .int v2] (wX6_isCountedAs G a_eb a_desk a_desk_words a_desk_words_a a_kept a_tape a_text a_plan a_mat a_desk_boxes a_desk_weeks a_desk_routes a_desk_offers a_desk_wants a_desk_leaves a_desk_leases a_desk_uses isKept planStands today lack rate free words_r words_f) res (wX6_isCountedAs G a_eb a_desk a_desk_words a_desk_words_a a_kept a_tape a_text a_plan a_mat a_desk_boxes a_desk_weeks a_desk_routes a_desk_offers a_desk_wants a_desk_leaves a_desk_leases a_desk_uses isKept planStands today lack rate free words_r words_f) := by
  refine CtI.mk (cc := cX6_isCountedAs) (maxL := 4) (ret := (some .boolean)) (own := RX6) (by decide) rfl rfl (Nat.le_of_ble_eq_true rfl) ?_
  intro p e s m below meth c A X ls hl hW
  obtain ⟨hx, hb, -⟩ := id X.1
  have hl : lv_has ls 4 [(0, .ref a_eb), (1, .int v1), (2, .int v2)] := hl
  generalize hH : s.heap = H at hW ⊢
  generalize hLo : ([] : List Loc) = locs at hW ⊢
  rw [fX6_isCountedAs] at h
  refine lv_iload_n hx hb dX6_isCountedAs_0 rfl (lv_at hl 2 rfl) ?_
  refine lv_bipush hx hb dX6_isCountedAs_1 qB_30 ?_
  refine lv_icmp_ne (tgt := 12) hx hb dX6_isCountedAs_3 (by decide) (fun c3 => ?_) (fun c3 => ?_)
  · have h := (if_neg c3).symm.trans h
    refine lv_aload_n hx hb dX6_isCountedAs_12 rfl (lv_at hl 0 rfl) ?_
    refine lv_iload_n hx hb dX6_isCountedAs_13 rfl (lv_at hl 1 rfl) ?_
    refine lv_aload_n hx hb dX6_isCountedAs_14 rfl (lv_at hl 0 rfl) ?_
    refine g_get X hW eX6_isCountedAs_12 0 rfl rfl dX6_isCountedAs_15 ?_
    refine g_get X hW eX6_isCountedAs_58 1 rfl rfl dX6_isCountedAs_18 ?_
    refine lv_aload_n hx hb dX6_isCountedAs_21 rfl (lv_at hl 0 rfl) ?_
    refine g_get X hW eX6_isCountedAs_12 0 rfl rfl dX6_isCountedAs_22 ?_
    refine g_get X hW eX6_isCountedAs_58 1 rfl rfl dX6_isCountedAs_25 ?_
    obtain ⟨r12, hq, h⟩ := bn1_some h
    refine g_cvi X hW (As := [.int v1, .int today, .int today]) (ws' := (wX6_isCountedAs G a_eb a_desk a_desk_words a_desk_words_a a_kept a_tape a_text a_plan a_mat a_desk_boxes a_desk_weeks a_desk_routes a_desk_offers a_desk_wants a_desk_leaves a_desk_leases a_desk_uses isKept planStands today lack rate free words_r words_f)) ckX6_isCountedAs_X6_standing_138 (kcX6_standing (l := l) G a_eb a_desk a_desk_words a_desk_words_a a_kept a_tape a_text a_plan a_mat a_desk_boxes a_desk_weeks a_desk_routes a_desk_offers a_desk_wants a_desk_leaves a_desk_leases a_desk_uses v1 today today isKept planStands today lack rate free words_r words_f hq) ⟨rfl, rfl, Nat.le_of_ble_eq_true rfl, Nat.le_of_ble_eq_true rfl⟩ [0, 1, 2, 3] rfl rfl rfl rfl rfl rfl rfl hl.1 (Nat.le_of_ble_eq_true rfl) ⟨Nat.zero_le _, Nat.zero_le _⟩ dX6_isCountedAs_28 (fun H locs hW => ?_)
    refine lv_istore_n (lv' := [(3, .int r12), (0, .ref a_eb), (1, .int v1), (2, .int v2)]) hx hb dX6_isCountedAs_31 rfl hl (by decide) rfl (fun ls hl => ?_)
    refine lv_iload_n hx hb dX6_isCountedAs_32 rfl (lv_at hl 3 rfl) ?_
    refine lv_bipush hx hb dX6_isCountedAs_33 qB_10 ?_
    refine lv_icmp_ne (tgt := 49) hx hb dX6_isCountedAs_35 (by decide) (fun c16 => ?_) (fun c16 => ?_)
    · have h := (if_neg c16).symm.trans h
      refine lv_iload_n hx hb dX6_isCountedAs_49 rfl (lv_at hl 0 rfl) ?_
      refine lv_iload_n hx hb dX6_isCountedAs_50 rfl (lv_at hl 3 rfl) ?_
      refine lv_icmp_ne (tgt := 58) hx hb dX6_isCountedAs_51 (by decide) (fun c19 => ?_) (fun c19 => ?_)
      · have h := (if_neg c19).symm.trans h
        refine lv_iconst hx hb dX6_isCountedAs_58 qI_0 ?_
        obtain rfl := Option.some.inj h
        exact g_zret X hW rfl dX6_isCountedAs_59
      · have h := (if_pos c19).symm.trans h
        refine lv_iconst hx hb dX6_isCountedAs_54 qI_1 ?_
        refine lv_goto (tgt := 59) hx hb dX6_isCountedAs_55 (by decide) ?_
        obtain rfl := Option.some.inj h
        exact g_zret X hW rfl dX6_isCountedAs_59
    · have h := (if_pos c16).symm.trans h
      refine lv_iload_n hx hb dX6_isCountedAs_38 rfl (lv_at hl 0 rfl) ?_
      refine lv_bipush hx hb dX6_isCountedAs_39 qB_10 ?_
      refine lv_bipush hx hb dX6_isCountedAs_41 qB_15 ?_
      obtain ⟨r28, hq, h⟩ := bn1_some h
      refine g_csi X hW (As := [.int r12, .int (10 : Int32), .int (15 : Int32)]) (ws' := (wX6_isCountedAs G a_eb a_desk a_desk_words a_desk_words_a a_kept a_tape a_text a_plan a_mat a_desk_boxes a_desk_weeks a_desk_routes a_desk_offers a_desk_wants a_desk_leaves a_desk_leases a_desk_uses isKept planStands today lack rate free words_r words_f)) ckX6_isCountedAs_X6_isWithin_54 (kcX6_isWithin (l := l) G r12 (10 : Int32) (15 : Int32) hq) ⟨rfl, rfl, Nat.le_of_ble_eq_true rfl, Nat.le_of_ble_eq_true rfl⟩ [] rfl rfl rfl rfl rfl rfl hl.1 (Nat.le_of_ble_eq_true rfl) ⟨Nat.zero_le _, Nat.zero_le _⟩ dX6_isCountedAs_43 (fun H locs hW => ?_)
      refine lv_goto (tgt := 59) hx hb dX6_isCountedAs_46 (by decide) ?_
      obtain ⟨g30, h⟩ := gd_some h
      obtain rfl := Option.some.inj h
      exact g_zret X hW g30 dX6_isCountedAs_59
  · have h := (if_pos c3).symm.trans h
    refine lv_aload_n hx hb dX6_isCountedAs_6 rfl (lv_at hl 0 rfl) ?_
    refine lv_iload_n hx hb dX6_isCountedAs_7 rfl (lv_at hl 1 rfl) ?_
    obtain ⟨r33, hq, h⟩ := bn1_some h
    refine g_cvi X hW (As := [.int v1]) (ws' := (wX6_isCountedAs G a_eb a_desk a_desk_words a_desk_words_a a_kept a_tape a_text a_plan a_mat a_desk_boxes a_desk_weeks a_desk_routes a_desk_offers a_desk_wants a_desk_leaves a_desk_leases a_desk_uses isKept planStands today lack rate free words_r words_f)) ckX6_isCountedAs_X6_isLateToday_161 (kcX6_isLateToday (l := l) G a_eb a_desk a_desk_words a_desk_words_a a_kept a_tape a_text a_plan a_mat a_desk_boxes a_desk_weeks a_desk_routes a_desk_offers a_desk_wants a_desk_leaves a_desk_leases a_desk_uses v1 isKept planStands today lack rate free words_r words_f hq) ⟨rfl, rfl, Nat.le_of_ble_eq_true rfl, Nat.le_of_ble_eq_true rfl⟩ [0, 1, 2, 3] rfl rfl rfl rfl rfl rfl rfl hl.1 (Nat.le_of_ble_eq_true rfl) ⟨Nat.zero_le _, Nat.zero_le _⟩ dX6_isCountedAs_8 (fun H locs hW => ?_)
    obtain ⟨g34, h⟩ := gd_some h
    obtain rfl := Option.some.inj h
    exact g_zret X hW g34 dX6_isCountedAs_11
theorem kcX6_isCountedAs {l : Launch} (G : Gt) (a_eb a_desk a_desk_words a_desk_words_a a_kept a_tape a_text a_plan a_mat a_desk_boxes a_desk_weeks a_desk_routes a_desk_offers a_desk_wants a_desk_leaves a_desk_leases a_desk_uses : Nat) (v1 : Int32) (v2 : Int32) (isKept : Int32) (planStands : Int32) (today : Int32) (lack : Int32) (rate : Int32) (free : Int32) (words_r : Int32) (words_f : (Nat → Int32)) {r : Int32}  (h : fX6_isCountedAs v1 v2 today words_r words_f = some r) : CtI G l yX6_isCountedAs wsX6_isCountedAs rmX6_isCountedAs [.ref a_eb, .int v1, .int v2] (wX6_isCountedAs G a_eb a_desk a_desk_words a_desk_words_a a_kept a_tape a_text a_plan a_mat a_desk_boxes a_desk_weeks a_desk_routes a_desk_offers a_desk_wants a_desk_leaves a_desk_leases a_desk_uses isKept planStands today lack rate free words_r words_f) r (wX6_isCountedAs G a_eb a_desk a_desk_words a_desk_words_a a_kept a_tape a_text a_plan a_mat a_desk_boxes a_desk_weeks a_desk_routes a_desk_offers a_desk_wants a_desk_leaves a_desk_leases a_desk_uses isKept planStands today lack rate free words_r words_f) := k0X6_isCountedAs G a_eb a_desk a_desk_words a_desk_words_a a_kept a_tape a_text a_plan a_mat a_desk_boxes a_desk_weeks a_desk_routes a_desk_offers a_desk_wants a_desk_leaves a_desk_leases a_desk_uses v1 v2 isKept planStands today lack rate free words_r words_f h
end MX6_isCountedAs
/-! EmptyBoxes.count -/
section MX6_count
theorem hdX6_count : yX6_count.cls = RX6 ∧ yX6_count.cls ≠ "java/lang/invoke/MethodHandle" ∧ yX6_count.cls ≠ "java/lang/invoke/VarHandle" ∧ (parseMethodDescriptor yX6_count.desc).map (fun d => d.parameters.length) = some 1 := by decide +kernel
abbrev wX6_count (G : Gt) (a_eb a_desk a_desk_boxes a_desk_boxes_a a_desk_words a_desk_words_a a_kept a_tape a_text a_plan a_mat a_desk_weeks a_desk_routes a_desk_offers a_desk_wants a_desk_leaves a_desk_leases a_desk_uses : Nat) (isKept : Int32) (planStands : Int32) (today : Int32) (lack : Int32) (rate : Int32) (free : Int32) (boxes_r : Int32) (boxes_f : (Nat → Int32)) (words_r : Int32) (words_f : (Nat → Int32)) : va_W := [(a_eb, .inr (6, [.ref a_desk, .ref a_kept, .ref a_tape, .ref a_text, .ref a_plan, .ref a_mat, .int isKept, .int planStands])), (a_desk, .inr (0, [.ref a_desk_boxes, .ref a_desk_words, .ref a_desk_weeks, .ref a_desk_routes, .ref a_desk_offers, .ref a_desk_wants, .ref a_desk_leaves, .ref a_desk_leases, .ref a_desk_uses, .int today, .int lack, .int rate, .int free])), (a_desk_boxes, .inr (4, [.ref a_desk_boxes_a, .int (9 : Int32), .int (24 : Int32), .int boxes_r])), (a_desk_boxes_a, .inl (G.2.1, 216, .inl boxes_f)), (a_desk_words, .inr (4, [.ref a_desk_words_a, .int (5 : Int32), .int (60 : Int32), .int words_r])), (a_desk_words_a, .inl (G.2.1, 300, .inl words_f))]
abbrev rmX6_count : Room := { frames := 6, cells := 0, slots := 0, locals := 142 }
theorem iX6_count_X0 : ∀ w ∈ wsX00, w ∈ wsX6_count := by decide +kernel
theorem iX6_count_X6 : ∀ w ∈ wsX60, w ∈ wsX6_count := by decide +kernel
theorem eX6_count_12 : Fk wsX6_count RX6 12 6 0 := ⟨RX6, TX6, 8, rfl, iX6_count_X6, by decide, by decide +kernel⟩
theorem eX6_count_82 : Fk wsX6_count RX6 82 0 0 := ⟨RX0, TX0, 13, rfl, iX6_count_X0, by decide, by decide +kernel⟩
theorem ckX6_count_X4_size_117 : CkV wsX6_count RX6 117 yX4_size wsX4_size cX4_size 1 (some .int) 0 4 := ⟨RX4, TX4, 4, _, rfl, gX6_count_X4_size, rfl, hdX4_size⟩
theorem ckX6_count_X6_isCountedAs_155 : CkV wsX6_count RX6 155 yX6_isCountedAs wsX6_isCountedAs cX6_isCountedAs 4 (some .boolean) 2 6 := ⟨RX6, TX6, 8, _, rfl, gX6_count_X6_isCountedAs, rfl, hdX6_isCountedAs⟩
theorem ckX6_count_X6_isPlace_126 : CkS wsX6_count RX6 126 yX6_isPlace wsX6_isPlace cX6_isPlace 1 (some .boolean) 1 := ⟨_, gX6_count_X6_isPlace, rfl, hdX6_isPlace.2⟩
theorem ckX6_count_X6_isWithLine_129 : CkV wsX6_count RX6 129 yX6_isWithLine wsX6_isWithLine cX6_isWithLine 2 (some .boolean) 1 6 := ⟨RX6, TX6, 8, _, rfl, gX6_count_X6_isWithLine, rfl, hdX6_isWithLine⟩
variable {p : Program} {l : Launch} {e : Env} {s : State} {m : MethodId} {args : Array Value} {below : List Frame} {meth : Method} {c : Code} {A : Nat → Prop} {G : Gt} {a_eb a_desk a_desk_boxes a_desk_boxes_a a_desk_words a_desk_words_a a_kept a_tape a_text a_plan a_mat a_desk_weeks a_desk_routes a_desk_offers a_desk_wants a_desk_leaves a_desk_leases a_desk_uses : Nat} {isKept : Int32} {planStands : Int32} {today : Int32} {lack : Int32} {rate : Int32} {free : Int32} {boxes_r : Int32} {boxes_f : (Nat → Int32)} {words_r : Int32} {words_f : (Nat → Int32)} {res : Int32}
set_option maxHeartbeats 4000000 in
set_option maxRecDepth 100000 in
theorem tX6_count_65 (X : Bx p s m args meth c cX6_count 4 wsX6_count RX6 (some .int)) (v1 : Int32) (v2 : Int32) (v3 : Int32) (k_31 : Int32 → Int32 → Option (Int32)) (Hk_31 : ∀ (v2 : Int32) (v3 : Int32), k_31 v2 v3 = some res → ∀ (H : Heap) (locs : List Loc), Wo G A s (wX6_count G a_eb a_desk a_desk_boxes a_desk_boxes_a a_desk_words a_desk_words_a a_kept a_tape a_text a_plan a_mat a_desk_weeks a_desk_routes a_desk_offers a_desk_wants a_desk_leaves a_desk_leases a_desk_uses isKept planStands today lack rate free boxes_r boxes_f words_r words_f) H locs → ∀ ls : Array Slot, lv_has ls 4 [(0, .ref a_eb), (1, .int v1), (2, .int v2), (3, .int v3)] → W p l e rmX6_count s m args below meth c H locs 0 0 (QI G A below args s res (wX6_count G a_eb a_desk a_desk_boxes a_desk_boxes_a a_desk_words a_desk_words_a a_kept a_tape a_text a_plan a_mat a_desk_weeks a_desk_routes a_desk_offers a_desk_wants a_desk_leaves a_desk_leases a_desk_uses isKept planStands today lack rate free boxes_r boxes_f words_r words_f)) (F0 m 31 ls [])) (h : fX6_count_65 k_31 v2 v3 = some res) : ∀ (H : Heap) (locs : List Loc), Wo G A s (wX6_count G a_eb a_desk a_desk_boxes a_desk_boxes_a a_desk_words a_desk_words_a a_kept a_tape a_text a_plan a_mat a_desk_weeks a_desk_routes a_desk_offers a_desk_wants a_desk_leaves a_desk_leases a_desk_uses isKept planStands today lack rate free boxes_r boxes_f words_r words_f) H locs → ∀ ls : Array Slot, lv_has ls 4 [(0, .ref a_eb), (1, .int v1), (2, .int v2), (3, .int v3)] → W p l e rmX6_count s m args below meth c H locs 0 0 (QI G A below args s res (wX6_count G a_eb a_desk a_desk_boxes a_desk_boxes_a a_desk_words a_desk_words_a a_kept a_tape a_text a_plan a_mat a_desk_weeks a_desk_routes a_desk_offers a_desk_wants a_desk_leaves a_desk_leases a_desk_uses isKept planStands today lack rate free boxes_r boxes_f words_r words_f)) (F0 m 65 ls []) := by
  obtain ⟨hx, hb, -⟩ := id X.1
  intro H locs hW ls hl
  rw [fX6_count_65] at h
  refine lv_iinc (v := (v3 + (1 : Int32))) (lv' := [(3, .int (v3 + (1 : Int32))), (0, .ref a_eb), (1, .int v1), (2, .int v2)]) hx hb dX6_count_65 hl (k := 3) rfl (congrArg (fun z => v3 + z) qI_1) (by decide) rfl (fun ls hl => ?_)
  refine lv_goto (tgt := 31) hx hb dX6_count_68 (by decide) ?_
  exact Hk_31 v2 (v3 + (1 : Int32)) h H locs hW ls (lv_sub hl [1, 2, 3, 0] rfl)
set_option maxHeartbeats 4000000 in
set_option maxRecDepth 100000 in
theorem tX6_count_31 (X : Bx p s m args meth c cX6_count 4 wsX6_count RX6 (some .int)) (v1 : Int32)   : ∀ (n : Nat) (v2 : Int32) (v3 : Int32), fX6_count_31 v1 today boxes_r boxes_f words_r words_f n v2 v3 = some res → ∀ (H : Heap) (locs : List Loc), Wo G A s (wX6_count G a_eb a_desk a_desk_boxes a_desk_boxes_a a_desk_words a_desk_words_a a_kept a_tape a_text a_plan a_mat a_desk_weeks a_desk_routes a_desk_offers a_desk_wants a_desk_leaves a_desk_leases a_desk_uses isKept planStands today lack rate free boxes_r boxes_f words_r words_f) H locs → ∀ ls : Array Slot, lv_has ls 4 [(0, .ref a_eb), (1, .int v1), (2, .int v2), (3, .int v3)] → W p l e rmX6_count s m args below meth c H locs 0 0 (QI G A below args s res (wX6_count G a_eb a_desk a_desk_boxes a_desk_boxes_a a_desk_words a_desk_words_a a_kept a_tape a_text a_plan a_mat a_desk_weeks a_desk_routes a_desk_offers a_desk_wants a_desk_leaves a_desk_leases a_desk_uses isKept planStands today lack rate free boxes_r boxes_f words_r words_f)) (F0 m 31 ls []) := by
  obtain ⟨hx, hb, -⟩ := id X.1
  intro n
  induction n with
  | zero => intro v2 v3 h; rw [fX6_count_31] at h; cases h
  | succ n ih =>
    intro v2 v3 h H locs hW ls hl
    rw [fX6_count_31] at h
    refine lv_iload_n hx hb dX6_count_31 rfl (lv_at hl 3 rfl) ?_
    refine lv_aload_n hx hb dX6_count_32 rfl (lv_at hl 0 rfl) ?_
    refine g_get X hW eX6_count_12 0 rfl rfl dX6_count_33 ?_
    refine g_get X hW eX6_count_82 1 rfl rfl dX6_count_36 ?_
    obtain ⟨r7, hq, h⟩ := bn1_some h
    refine g_cvi X hW (As := []) (ws' := (wX6_count G a_eb a_desk a_desk_boxes a_desk_boxes_a a_desk_words a_desk_words_a a_kept a_tape a_text a_plan a_mat a_desk_weeks a_desk_routes a_desk_offers a_desk_wants a_desk_leaves a_desk_leases a_desk_uses isKept planStands today lack rate free boxes_r boxes_f words_r words_f)) ckX6_count_X4_size_117 (kcX4_size (l := l) G a_desk_boxes a_desk_boxes_a (9 : Int32) (24 : Int32) boxes_r hq) ⟨rfl, rfl, Nat.le_of_ble_eq_true rfl, Nat.le_of_ble_eq_true rfl⟩ [2] rfl rfl rfl rfl rfl rfl rfl hl.1 (Nat.le_of_ble_eq_true rfl) ⟨Nat.zero_le _, Nat.zero_le _⟩ dX6_count_39 (fun H locs hW => ?_)
    refine lv_icmp_ge (tgt := 71) hx hb dX6_count_42 (by decide) (fun c8 => ?_) (fun c8 => ?_)
    · have h := (if_pos c8).symm.trans h
      refine lv_iload_n hx hb dX6_count_71 rfl (lv_at hl 2 rfl) ?_
      obtain rfl := Option.some.inj h
      exact g_iret X hW dX6_count_72
    · have h := (if_neg c8).symm.trans h
      refine lv_aload_n hx hb dX6_count_45 rfl (lv_at hl 0 rfl) ?_
      refine lv_iload_n hx hb dX6_count_46 rfl (lv_at hl 3 rfl) ?_
      obtain ⟨r13, hq, h⟩ := bn1_some h
      refine g_cvi X hW (As := [.int v3]) (ws' := (wX6_count G a_eb a_desk a_desk_boxes a_desk_boxes_a a_desk_words a_desk_words_a a_kept a_tape a_text a_plan a_mat a_desk_weeks a_desk_routes a_desk_offers a_desk_wants a_desk_leaves a_desk_leases a_desk_uses isKept planStands today lack rate free boxes_r boxes_f words_r words_f)) ckX6_count_X6_isWithLine_129 (kcX6_isWithLine (l := l) G a_eb a_desk a_desk_boxes a_desk_boxes_a a_kept a_tape a_text a_plan a_mat a_desk_words a_desk_weeks a_desk_routes a_desk_offers a_desk_wants a_desk_leaves a_desk_leases a_desk_uses v3 isKept planStands today lack rate free boxes_r boxes_f hq) ⟨rfl, rfl, Nat.le_of_ble_eq_true rfl, Nat.le_of_ble_eq_true rfl⟩ [0, 1, 2, 3] rfl rfl rfl rfl rfl rfl rfl hl.1 (Nat.le_of_ble_eq_true rfl) ⟨Nat.zero_le _, Nat.zero_le _⟩ dX6_count_47 (fun H locs hW => ?_)
      refine lv_if_eq (tgt := 65) hx hb dX6_count_50 (by decide) (fun c14 => ?_) (fun c14 => ?_)
      · have h := (if_pos c14).symm.trans h
        exact tX6_count_65 X v1 v2 v3 (fun v2 v3 => fX6_count_31 v1 today boxes_r boxes_f words_r words_f n v2 v3) ih h H locs hW ls hl
      · have h := (if_neg c14).symm.trans h
        refine lv_aload_n hx hb dX6_count_53 rfl (lv_at hl 0 rfl) ?_
        refine lv_iload_n hx hb dX6_count_54 rfl (lv_at hl 3 rfl) ?_
        refine lv_iload_n hx hb dX6_count_55 rfl (lv_at hl 1 rfl) ?_
        obtain ⟨r18, hq, h⟩ := bn1_some h
        refine g_cvi X hW (As := [.int v3, .int v1]) (ws' := (wX6_count G a_eb a_desk a_desk_boxes a_desk_boxes_a a_desk_words a_desk_words_a a_kept a_tape a_text a_plan a_mat a_desk_weeks a_desk_routes a_desk_offers a_desk_wants a_desk_leaves a_desk_leases a_desk_uses isKept planStands today lack rate free boxes_r boxes_f words_r words_f)) ckX6_count_X6_isCountedAs_155 (kcX6_isCountedAs (l := l) G a_eb a_desk a_desk_words a_desk_words_a a_kept a_tape a_text a_plan a_mat a_desk_boxes a_desk_weeks a_desk_routes a_desk_offers a_desk_wants a_desk_leaves a_desk_leases a_desk_uses v3 v1 isKept planStands today lack rate free words_r words_f hq) ⟨rfl, rfl, Nat.le_of_ble_eq_true rfl, Nat.le_of_ble_eq_true rfl⟩ [0, 1, 4, 5] rfl rfl rfl rfl rfl rfl rfl hl.1 (Nat.le_of_ble_eq_true rfl) ⟨Nat.zero_le _, Nat.zero_le _⟩ dX6_count_56 (fun H locs hW => ?_)
        refine lv_if_eq (tgt := 65) hx hb dX6_count_59 (by decide) (fun c19 => ?_) (fun c19 => ?_)
        · have h := (if_pos c19).symm.trans h
          exact tX6_count_65 X v1 v2 v3 (fun v2 v3 => fX6_count_31 v1 today boxes_r boxes_f words_r words_f n v2 v3) ih h H locs hW ls hl
        · have h := (if_neg c19).symm.trans h
          refine lv_iinc (v := (v2 + (1 : Int32))) (lv' := [(2, .int (v2 + (1 : Int32))), (0, .ref a_eb), (1, .int v1), (3, .int v3)]) hx hb dX6_count_62 hl (k := 2) rfl (congrArg (fun z => v2 + z) qI_1) (by decide) rfl (fun ls hl => ?_)
          exact tX6_count_65 X v1 (v2 + (1 : Int32)) v3 (fun v2 v3 => fX6_count_31 v1 today boxes_r boxes_f words_r words_f n v2 v3) ih h H locs hW ls (lv_sub hl [1, 2, 0, 3] rfl)
set_option maxHeartbeats 4000000 in
set_option maxRecDepth 100000 in
theorem tX6_count_27 (X : Bx p s m args meth c cX6_count 4 wsX6_count RX6 (some .int)) (v1 : Int32)   (h : fX6_count_27 v1 today boxes_r boxes_f words_r words_f = some res) : ∀ (H : Heap) (locs : List Loc), Wo G A s (wX6_count G a_eb a_desk a_desk_boxes a_desk_boxes_a a_desk_words a_desk_words_a a_kept a_tape a_text a_plan a_mat a_desk_weeks a_desk_routes a_desk_offers a_desk_wants a_desk_leaves a_desk_leases a_desk_uses isKept planStands today lack rate free boxes_r boxes_f words_r words_f) H locs → ∀ ls : Array Slot, lv_has ls 4 [(0, .ref a_eb), (1, .int v1)] → W p l e rmX6_count s m args below meth c H locs 0 0 (QI G A below args s res (wX6_count G a_eb a_desk a_desk_boxes a_desk_boxes_a a_desk_words a_desk_words_a a_kept a_tape a_text a_plan a_mat a_desk_weeks a_desk_routes a_desk_offers a_desk_wants a_desk_leaves a_desk_leases a_desk_uses isKept planStands today lack rate free boxes_r boxes_f words_r words_f)) (F0 m 27 ls []) := by
  obtain ⟨hx, hb, -⟩ := id X.1
  intro H locs hW ls hl
  rw [fX6_count_27] at h
  refine lv_iconst hx hb dX6_count_27 qI_0 ?_
  refine lv_istore_n (lv' := [(2, .int (0 : Int32)), (0, .ref a_eb), (1, .int v1)]) hx hb dX6_count_28 rfl hl (by decide) rfl (fun ls hl => ?_)
  refine lv_iconst hx hb dX6_count_29 qI_0 ?_
  refine lv_istore_n (lv' := [(3, .int (0 : Int32)), (2, .int (0 : Int32)), (0, .ref a_eb), (1, .int v1)]) hx hb dX6_count_30 rfl hl (by decide) rfl (fun ls hl => ?_)
  exact tX6_count_31 X v1 FU (0 : Int32) (0 : Int32) h H locs hW ls (lv_sub hl [2, 3, 1, 0] rfl)
set_option maxHeartbeats 4000000 in
set_option maxRecDepth 100000 in
theorem k0X6_count {l : Launch} (G : Gt) (a_eb a_desk a_desk_boxes a_desk_boxes_a a_desk_words a_desk_words_a a_kept a_tape a_text a_plan a_mat a_desk_weeks a_desk_routes a_desk_offers a_desk_wants a_desk_leaves a_desk_leases a_desk_uses : Nat) (v1 : Int32) (isKept : Int32) (planStands : Int32) (today : Int32) (lack : Int32) (rate : Int32) (free : Int32) (boxes_r : Int32) (boxes_f : (Nat → Int32)) (words_r : Int32) (words_f : (Nat → Int32)) {res : Int32} (h : fX6_count v1 today boxes_r boxes_f words_r words_f = some res) : CtI G l yX6_count wsX6_count rmX6_count [.ref a_eb, .int v1] (wX6_count G a_eb a_desk a_desk_boxes a_desk_boxes_a a_desk_words a_desk_words_a a_kept a_tape a_text a_plan a_mat a_desk_weeks a_desk_routes a_desk_offers a_desk_wants a_desk_leaves a_desk_leases a_desk_uses isKept planStands today lack rate free boxes_r boxes_f words_r words_f) res (wX6_count G a_eb a_desk a_desk_boxes a_desk_boxes_a a_desk_words a_desk_words_a a_kept a_tape a_text a_plan a_mat a_desk_weeks a_desk_routes a_desk_offers a_desk_wants a_desk_leaves a_desk_leases a_desk_uses isKept planStands today lack rate free boxes_r boxes_f words_r words_f) := by
  refine CtI.mk (cc := cX6_count) (maxL := 4) (ret := (some .int)) (own := RX6) (by decide) rfl rfl (Nat.le_of_ble_eq_true rfl) ?_
  intro p e s m below meth c A X ls hl hW
  obtain ⟨hx, hb, -⟩ := id X.1
  have hl : lv_has ls 4 [(0, .ref a_eb), (1, .int v1)] := hl
  generalize hH : s.heap = H at hW ⊢
  generalize hLo : ([] : List Loc) = locs at hW ⊢
  rw [fX6_count] at h
  refine lv_iload_n hx hb dX6_count_0 rfl (lv_at hl 1 rfl) ?_
  obtain ⟨r26, hq, h⟩ := bn1_some h
  refine g_csi X hW (As := [.int v1]) (ws' := (wX6_count G a_eb a_desk a_desk_boxes a_desk_boxes_a a_desk_words a_desk_words_a a_kept a_tape a_text a_plan a_mat a_desk_weeks a_desk_routes a_desk_offers a_desk_wants a_desk_leaves a_desk_leases a_desk_uses isKept planStands today lack rate free boxes_r boxes_f words_r words_f)) ckX6_count_X6_isPlace_126 (kcX6_isPlace (l := l) G v1 hq) ⟨rfl, rfl, Nat.le_of_ble_eq_true rfl, Nat.le_of_ble_eq_true rfl⟩ [] rfl rfl rfl rfl rfl rfl hl.1 (Nat.le_of_ble_eq_true rfl) ⟨Nat.zero_le _, Nat.zero_le _⟩ dX6_count_1 (fun H locs hW => ?_)
  refine lv_if_ne (tgt := 27) hx hb dX6_count_4 (by decide) (fun c27 => ?_) (fun c27 => ?_)
  · have h := (if_neg c27).symm.trans h
    exact tX6_count_27 X v1 h H locs hW ls hl
  · have h := (if_pos c27).symm.trans h
    refine lv_iload_n hx hb dX6_count_7 rfl (lv_at hl 1 rfl) ?_
    refine lv_bipush hx hb dX6_count_8 qB_10 ?_
    refine lv_icmp_eq (tgt := 27) hx hb dX6_count_10 (by decide) (fun c30 => ?_) (fun c30 => ?_)
    · have h := (if_pos c30).symm.trans h
      exact tX6_count_27 X v1 h H locs hW ls hl
    · have h := (if_neg c30).symm.trans h
      refine lv_iload_n hx hb dX6_count_13 rfl (lv_at hl 1 rfl) ?_
      refine lv_bipush hx hb dX6_count_14 qB_20 ?_
      refine lv_icmp_eq (tgt := 27) hx hb dX6_count_16 (by decide) (fun c33 => ?_) (fun c33 => ?_)
      · have h := (if_pos c33).symm.trans h
        exact tX6_count_27 X v1 h H locs hW ls hl
      · have h := (if_neg c33).symm.trans h
        refine lv_iload_n hx hb dX6_count_19 rfl (lv_at hl 1 rfl) ?_
        refine lv_bipush hx hb dX6_count_20 qB_30 ?_
        refine lv_icmp_eq (tgt := 27) hx hb dX6_count_22 (by decide) (fun c36 => ?_) (fun c36 => ?_)
        · have h := (if_pos c36).symm.trans h
          exact tX6_count_27 X v1 h H locs hW ls hl
        · have h := (if_neg c36).symm.trans h
          refine lv_iconst hx hb dX6_count_25 qI_m1 ?_
          obtain rfl := Option.some.inj h
          exact g_iret X hW dX6_count_26
theorem kcX6_count {l : Launch} (G : Gt) (a_eb a_desk a_desk_boxes a_desk_boxes_a a_desk_words a_desk_words_a a_kept a_tape a_text a_plan a_mat a_desk_weeks a_desk_routes a_desk_offers a_desk_wants a_desk_leaves a_desk_leases a_desk_uses : Nat) (v1 : Int32) (isKept : Int32) (planStands : Int32) (today : Int32) (lack : Int32) (rate : Int32) (free : Int32) (boxes_r : Int32) (boxes_f : (Nat → Int32)) (words_r : Int32) (words_f : (Nat → Int32)) {r : Int32}  (h : fX6_count v1 today boxes_r boxes_f words_r words_f = some r) : CtI G l yX6_count wsX6_count rmX6_count [.ref a_eb, .int v1] (wX6_count G a_eb a_desk a_desk_boxes a_desk_boxes_a a_desk_words a_desk_words_a a_kept a_tape a_text a_plan a_mat a_desk_weeks a_desk_routes a_desk_offers a_desk_wants a_desk_leaves a_desk_leases a_desk_uses isKept planStands today lack rate free boxes_r boxes_f words_r words_f) r (wX6_count G a_eb a_desk a_desk_boxes a_desk_boxes_a a_desk_words a_desk_words_a a_kept a_tape a_text a_plan a_mat a_desk_weeks a_desk_routes a_desk_offers a_desk_wants a_desk_leaves a_desk_leases a_desk_uses isKept planStands today lack rate free boxes_r boxes_f words_r words_f) := k0X6_count G a_eb a_desk a_desk_boxes a_desk_boxes_a a_desk_words a_desk_words_a a_kept a_tape a_text a_plan a_mat a_desk_weeks a_desk_routes a_desk_offers a_desk_wants a_desk_leaves a_desk_leases a_desk_uses v1 isKept planStands today lack rate free boxes_r boxes_f words_r words_f h
end MX6_count
/-! EmptyBoxes.isWeek -/
section MX6_isWeek
theorem hdX6_isWeek : yX6_isWeek.cls = RX6 ∧ yX6_isWeek.cls ≠ "java/lang/invoke/MethodHandle" ∧ yX6_isWeek.cls ≠ "java/lang/invoke/VarHandle" ∧ (parseMethodDescriptor yX6_isWeek.desc).map (fun d => d.parameters.length) = some 1 := by decide +kernel
abbrev rmX6_isWeek : Room := { frames := 1, cells := 0, slots := 0, locals := 22 }
theorem ckX6_isWeek_X6_isWithin_54 : CkS wsX6_isWeek RX6 54 yX6_isWithin wsX6_isWithin cX6_isWithin 3 (some .boolean) 3 := ⟨_, gX6_isWeek_X6_isWithin, rfl, hdX6_isWithin.2⟩
variable {p : Program} {l : Launch} {e : Env} {s : State} {m : MethodId} {args : Array Value} {below : List Frame} {meth : Method} {c : Code} {A : Nat → Prop} {G : Gt} {res : Int32}
set_option maxHeartbeats 4000000 in
set_option maxRecDepth 100000 in
theorem k0X6_isWeek {l : Launch} (G : Gt) (v0 : Int32)  {res : Int32} (h : fX6_isWeek v0 = some res) : CtI G l yX6_isWeek wsX6_isWeek rmX6_isWeek [.int v0] ([] : va_W) res ([] : va_W) := by
  refine CtI.mk (cc := cX6_isWeek) (maxL := 1) (ret := (some .boolean)) (own := RX6) (by decide) rfl rfl (Nat.le_of_ble_eq_true rfl) ?_
  intro p e s m below meth c A X ls hl hW
  obtain ⟨hx, hb, -⟩ := id X.1
  have hl : lv_has ls 1 [(0, .int v0)] := hl
  generalize hH : s.heap = H at hW ⊢
  generalize hLo : ([] : List Loc) = locs at hW ⊢
  rw [fX6_isWeek] at h
  refine lv_iload_n hx hb dX6_isWeek_0 rfl (lv_at hl 0 rfl) ?_
  refine lv_iconst hx hb dX6_isWeek_1 qI_0 ?_
  refine lv_iconst hx hb dX6_isWeek_2 qI_4 ?_
  obtain ⟨r4, hq, h⟩ := bn1_some h
  refine g_csi X hW (As := [.int v0, .int (0 : Int32), .int (4 : Int32)]) (ws' := ([] : va_W)) ckX6_isWeek_X6_isWithin_54 (kcX6_isWithin (l := l) G v0 (0 : Int32) (4 : Int32) hq) ⟨rfl, rfl, Nat.le_of_ble_eq_true rfl, Nat.le_of_ble_eq_true rfl⟩ [] rfl rfl rfl rfl rfl rfl hl.1 (Nat.le_of_ble_eq_true rfl) ⟨Nat.zero_le _, Nat.zero_le _⟩ dX6_isWeek_3 (fun H locs hW => ?_)
  obtain ⟨g5, h⟩ := gd_some h
  obtain rfl := Option.some.inj h
  exact g_zret X hW g5 dX6_isWeek_6
theorem kcX6_isWeek {l : Launch} (G : Gt) (v0 : Int32)  {r : Int32}  (h : fX6_isWeek v0 = some r) : CtI G l yX6_isWeek wsX6_isWeek rmX6_isWeek [.int v0] ([] : va_W) r ([] : va_W) := k0X6_isWeek G v0 h
end MX6_isWeek
/-! EmptyBoxes.week -/
section MX6_week
theorem hdX6_week : yX6_week.cls = RX6 ∧ yX6_week.cls ≠ "java/lang/invoke/MethodHandle" ∧ yX6_week.cls ≠ "java/lang/invoke/VarHandle" ∧ (parseMethodDescriptor yX6_week.desc).map (fun d => d.parameters.length) = some 4 := by decide +kernel
abbrev wX6_week (G : Gt) (a_eb a_desk a_desk_weeks a_desk_weeks_a a_kept a_tape a_text a_plan a_mat a_desk_boxes a_desk_words a_desk_routes a_desk_offers a_desk_wants a_desk_leaves a_desk_leases a_desk_uses : Nat) (isKept : Int32) (planStands : Int32) (today : Int32) (lack : Int32) (rate : Int32) (free : Int32) (weeks_r : Int32) (weeks_f : (Nat → Int32)) : va_W := [(a_eb, .inr (6, [.ref a_desk, .ref a_kept, .ref a_tape, .ref a_text, .ref a_plan, .ref a_mat, .int isKept, .int planStands])), (a_desk, .inr (0, [.ref a_desk_boxes, .ref a_desk_words, .ref a_desk_weeks, .ref a_desk_routes, .ref a_desk_offers, .ref a_desk_wants, .ref a_desk_leaves, .ref a_desk_leases, .ref a_desk_uses, .int today, .int lack, .int rate, .int free])), (a_desk_weeks, .inr (4, [.ref a_desk_weeks_a, .int (2 : Int32), .int (30 : Int32), .int weeks_r])), (a_desk_weeks_a, .inl (G.2.1, 60, .inl weeks_f))]
abbrev rmX6_week : Room := { frames := 2, cells := 0, slots := 0, locals := 45 }
theorem iX6_week_X0 : ∀ w ∈ wsX00, w ∈ wsX6_week := by decide +kernel
theorem iX6_week_X6 : ∀ w ∈ wsX60, w ∈ wsX6_week := by decide +kernel
theorem eX6_week_12 : Fk wsX6_week RX6 12 6 0 := ⟨RX6, TX6, 8, rfl, iX6_week_X6, by decide, by decide +kernel⟩
theorem eX6_week_173 : Fk wsX6_week RX6 173 0 2 := ⟨RX0, TX0, 13, rfl, iX6_week_X0, by decide, by decide +kernel⟩
theorem pX6_week_51 : Fp wsX6_week RX6 51 6 7 .boolean := ⟨RX6, TX6, 8, tyX6, rfl, iX6_week_X6, by decide, by decide +kernel, tyX6_ok, nmX6, rfl, by decide +kernel⟩
theorem ckX6_week_X4_cell_113 : CkV wsX6_week RX6 113 yX4_cell wsX4_cell cX4_cell 3 (some .int) 2 4 := ⟨RX4, TX4, 4, _, rfl, gX6_week_X4_cell, rfl, hdX4_cell⟩
theorem ckX6_week_X4_put_96 : CkV wsX6_week RX6 96 yX4_put wsX4_put cX4_put 4 none 3 4 := ⟨RX4, TX4, 4, _, rfl, gX6_week_X4_put, rfl, hdX4_put⟩
theorem ckX6_week_X6_isPlace_126 : CkS wsX6_week RX6 126 yX6_isPlace wsX6_isPlace cX6_isPlace 1 (some .boolean) 1 := ⟨_, gX6_week_X6_isPlace, rfl, hdX6_isPlace.2⟩
theorem ckX6_week_X6_isWeek_167 : CkS wsX6_week RX6 167 yX6_isWeek wsX6_isWeek cX6_isWeek 1 (some .boolean) 1 := ⟨_, gX6_week_X6_isWeek, rfl, hdX6_isWeek.2⟩
theorem ckX6_week_X6_isWithin_54 : CkS wsX6_week RX6 54 yX6_isWithin wsX6_isWithin cX6_isWithin 3 (some .boolean) 3 := ⟨_, gX6_week_X6_isWithin, rfl, hdX6_isWithin.2⟩
theorem ckX6_week_X6_knotOf_170 : CkS wsX6_week RX6 170 yX6_knotOf wsX6_knotOf cX6_knotOf 2 (some .int) 2 := ⟨_, gX6_week_X6_knotOf, rfl, hdX6_knotOf.2⟩
variable {p : Program} {l : Launch} {e : Env} {s : State} {m : MethodId} {args : Array Value} {below : List Frame} {meth : Method} {c : Code} {A : Nat → Prop} {G : Gt} {a_eb a_desk a_desk_weeks a_desk_weeks_a a_kept a_tape a_text a_plan a_mat a_desk_boxes a_desk_words a_desk_routes a_desk_offers a_desk_wants a_desk_leaves a_desk_leases a_desk_uses : Nat} {isKept : Int32} {today : Int32} {lack : Int32} {rate : Int32} {free : Int32} {weeks_r : Int32} {res : Int32 × Int32 × (Nat → Int32)}
set_option maxHeartbeats 4000000 in
set_option maxRecDepth 100000 in
theorem k0X6_week {l : Launch} (G : Gt) (a_eb a_desk a_desk_weeks a_desk_weeks_a a_kept a_tape a_text a_plan a_mat a_desk_boxes a_desk_words a_desk_routes a_desk_offers a_desk_wants a_desk_leaves a_desk_leases a_desk_uses : Nat) (v1 : Int32) (v2 : Int32) (v3 : Int32) (v4 : Int32) (isKept : Int32) (planStands : Int32) (today : Int32) (lack : Int32) (rate : Int32) (free : Int32) (weeks_r : Int32) (weeks_f : (Nat → Int32)) {res : Int32 × Int32 × (Nat → Int32)} (h : fX6_week v1 v2 v3 v4 planStands weeks_r weeks_f = some res) : CtI G l yX6_week wsX6_week rmX6_week [.ref a_eb, .int v1, .int v2, .int v3, .int v4] (wX6_week G a_eb a_desk a_desk_weeks a_desk_weeks_a a_kept a_tape a_text a_plan a_mat a_desk_boxes a_desk_words a_desk_routes a_desk_offers a_desk_wants a_desk_leaves a_desk_leases a_desk_uses isKept planStands today lack rate free weeks_r weeks_f) res.1 (wX6_week G a_eb a_desk a_desk_weeks a_desk_weeks_a a_kept a_tape a_text a_plan a_mat a_desk_boxes a_desk_words a_desk_routes a_desk_offers a_desk_wants a_desk_leaves a_desk_leases a_desk_uses isKept res.2.1 today lack rate free weeks_r res.2.2) := by
  refine CtI.mk (cc := cX6_week) (maxL := 7) (ret := (some .int)) (own := RX6) (by decide) rfl rfl (Nat.le_of_ble_eq_true rfl) ?_
  intro p e s m below meth c A X ls hl hW
  obtain ⟨hx, hb, -⟩ := id X.1
  have hl : lv_has ls 7 [(0, .ref a_eb), (1, .int v1), (2, .int v2), (3, .int v3), (4, .int v4)] := hl
  generalize hH : s.heap = H at hW ⊢
  generalize hLo : ([] : List Loc) = locs at hW ⊢
  rw [fX6_week] at h
  refine lv_iload_n hx hb dX6_week_0 rfl (lv_at hl 1 rfl) ?_
  obtain ⟨r2, hq, h⟩ := bn1_some h
  refine g_csi X hW (As := [.int v1]) (ws' := (wX6_week G a_eb a_desk a_desk_weeks a_desk_weeks_a a_kept a_tape a_text a_plan a_mat a_desk_boxes a_desk_words a_desk_routes a_desk_offers a_desk_wants a_desk_leaves a_desk_leases a_desk_uses isKept planStands today lack rate free weeks_r weeks_f)) ckX6_week_X6_isPlace_126 (kcX6_isPlace (l := l) G v1 hq) ⟨rfl, rfl, Nat.le_of_ble_eq_true rfl, Nat.le_of_ble_eq_true rfl⟩ [] rfl rfl rfl rfl rfl rfl hl.1 (Nat.le_of_ble_eq_true rfl) ⟨Nat.zero_le _, Nat.zero_le _⟩ dX6_week_1 (fun H locs hW => ?_)
  refine lv_if_eq (tgt := 34) hx hb dX6_week_4 (by decide) (fun c3 => ?_) (fun c3 => ?_)
  · have h := (if_pos c3).symm.trans h
    refine lv_iconst hx hb dX6_week_34 qI_m1 ?_
    obtain rfl := Option.some.inj h
    exact g_iret X hW dX6_week_35
  · have h := (if_neg c3).symm.trans h
    refine lv_iload_n hx hb dX6_week_7 rfl (lv_at hl 2 rfl) ?_
    obtain ⟨r7, hq, h⟩ := bn1_some h
    refine g_csi X hW (As := [.int v2]) (ws' := (wX6_week G a_eb a_desk a_desk_weeks a_desk_weeks_a a_kept a_tape a_text a_plan a_mat a_desk_boxes a_desk_words a_desk_routes a_desk_offers a_desk_wants a_desk_leaves a_desk_leases a_desk_uses isKept planStands today lack rate free weeks_r weeks_f)) ckX6_week_X6_isWeek_167 (kcX6_isWeek (l := l) G v2 hq) ⟨rfl, rfl, Nat.le_of_ble_eq_true rfl, Nat.le_of_ble_eq_true rfl⟩ [] rfl rfl rfl rfl rfl rfl hl.1 (Nat.le_of_ble_eq_true rfl) ⟨Nat.zero_le _, Nat.zero_le _⟩ dX6_week_8 (fun H locs hW => ?_)
    refine lv_if_eq (tgt := 34) hx hb dX6_week_11 (by decide) (fun c8 => ?_) (fun c8 => ?_)
    · have h := (if_pos c8).symm.trans h
      refine lv_iconst hx hb dX6_week_34 qI_m1 ?_
      obtain rfl := Option.some.inj h
      exact g_iret X hW dX6_week_35
    · have h := (if_neg c8).symm.trans h
      refine lv_iload_n hx hb dX6_week_14 rfl (lv_at hl 3 rfl) ?_
      refine lv_iconst hx hb dX6_week_15 qI_0 ?_
      refine lv_iconst hx hb dX6_week_16 qI_1 ?_
      obtain ⟨r14, hq, h⟩ := bn1_some h
      refine g_csi X hW (As := [.int v3, .int (0 : Int32), .int (1 : Int32)]) (ws' := (wX6_week G a_eb a_desk a_desk_weeks a_desk_weeks_a a_kept a_tape a_text a_plan a_mat a_desk_boxes a_desk_words a_desk_routes a_desk_offers a_desk_wants a_desk_leaves a_desk_leases a_desk_uses isKept planStands today lack rate free weeks_r weeks_f)) ckX6_week_X6_isWithin_54 (kcX6_isWithin (l := l) G v3 (0 : Int32) (1 : Int32) hq) ⟨rfl, rfl, Nat.le_of_ble_eq_true rfl, Nat.le_of_ble_eq_true rfl⟩ [] rfl rfl rfl rfl rfl rfl hl.1 (Nat.le_of_ble_eq_true rfl) ⟨Nat.zero_le _, Nat.zero_le _⟩ dX6_week_17 (fun H locs hW => ?_)
      refine lv_if_eq (tgt := 34) hx hb dX6_week_20 (by decide) (fun c15 => ?_) (fun c15 => ?_)
      · have h := (if_pos c15).symm.trans h
        refine lv_iconst hx hb dX6_week_34 qI_m1 ?_
        obtain rfl := Option.some.inj h
        exact g_iret X hW dX6_week_35
      · have h := (if_neg c15).symm.trans h
        refine lv_iload hx hb dX6_week_23 (lv_at hl 4 rfl) ?_
        refine lv_iconst hx hb dX6_week_25 qI_0 ?_
        refine lv_bipush hx hb dX6_week_26 qB_9 ?_
        obtain ⟨r21, hq, h⟩ := bn1_some h
        refine g_csi X hW (As := [.int v4, .int (0 : Int32), .int (9 : Int32)]) (ws' := (wX6_week G a_eb a_desk a_desk_weeks a_desk_weeks_a a_kept a_tape a_text a_plan a_mat a_desk_boxes a_desk_words a_desk_routes a_desk_offers a_desk_wants a_desk_leaves a_desk_leases a_desk_uses isKept planStands today lack rate free weeks_r weeks_f)) ckX6_week_X6_isWithin_54 (kcX6_isWithin (l := l) G v4 (0 : Int32) (9 : Int32) hq) ⟨rfl, rfl, Nat.le_of_ble_eq_true rfl, Nat.le_of_ble_eq_true rfl⟩ [] rfl rfl rfl rfl rfl rfl hl.1 (Nat.le_of_ble_eq_true rfl) ⟨Nat.zero_le _, Nat.zero_le _⟩ dX6_week_28 (fun H locs hW => ?_)
        refine lv_if_ne (tgt := 36) hx hb dX6_week_31 (by decide) (fun c22 => ?_) (fun c22 => ?_)
        · have h := (if_neg c22).symm.trans h
          refine lv_iload_n hx hb dX6_week_36 rfl (lv_at hl 1 rfl) ?_
          refine lv_iload_n hx hb dX6_week_37 rfl (lv_at hl 2 rfl) ?_
          obtain ⟨r25, hq, h⟩ := bn1_some h
          refine g_csi X hW (As := [.int v1, .int v2]) (ws' := (wX6_week G a_eb a_desk a_desk_weeks a_desk_weeks_a a_kept a_tape a_text a_plan a_mat a_desk_boxes a_desk_words a_desk_routes a_desk_offers a_desk_wants a_desk_leaves a_desk_leases a_desk_uses isKept planStands today lack rate free weeks_r weeks_f)) ckX6_week_X6_knotOf_170 (kcX6_knotOf (l := l) G v1 v2 hq) ⟨rfl, rfl, Nat.le_of_ble_eq_true rfl, Nat.le_of_ble_eq_true rfl⟩ [] rfl rfl rfl rfl rfl rfl hl.1 (Nat.le_of_ble_eq_true rfl) ⟨Nat.zero_le _, Nat.zero_le _⟩ dX6_week_38 (fun H locs hW => ?_)
          refine lv_istore (lv' := [(5, .int r25), (0, .ref a_eb), (1, .int v1), (2, .int v2), (3, .int v3), (4, .int v4)]) hx hb dX6_week_41 hl (by decide) rfl (fun ls hl => ?_)
          refine lv_aload_n hx hb dX6_week_43 rfl (lv_at hl 1 rfl) ?_
          refine g_get X hW eX6_week_12 0 rfl rfl dX6_week_44 ?_
          refine g_get X hW eX6_week_173 1 rfl rfl dX6_week_47 ?_
          refine lv_iload hx hb dX6_week_50 (lv_at hl 0 rfl) ?_
          refine lv_iload_n hx hb dX6_week_52 rfl (lv_at hl 4 rfl) ?_
          obtain ⟨r32, hq, h⟩ := bn1_some h
          refine g_cvi X hW (As := [.int r25, .int v3]) (ws' := (wX6_week G a_eb a_desk a_desk_weeks a_desk_weeks_a a_kept a_tape a_text a_plan a_mat a_desk_boxes a_desk_words a_desk_routes a_desk_offers a_desk_wants a_desk_leaves a_desk_leases a_desk_uses isKept planStands today lack rate free weeks_r weeks_f)) ckX6_week_X4_cell_113 (kcX4_cell (l := l) G a_desk_weeks a_desk_weeks_a r25 v3 (2 : Int32) (30 : Int32) weeks_r 60 weeks_f hq) ⟨rfl, rfl, Nat.le_of_ble_eq_true rfl, Nat.le_of_ble_eq_true rfl⟩ [2, 3] rfl rfl rfl rfl rfl rfl rfl hl.1 (Nat.le_of_ble_eq_true rfl) ⟨Nat.zero_le _, Nat.zero_le _⟩ dX6_week_53 (fun H locs hW => ?_)
          refine lv_istore (lv' := [(6, .int r32), (5, .int r25), (0, .ref a_eb), (1, .int v1), (2, .int v2), (3, .int v3), (4, .int v4)]) hx hb dX6_week_56 hl (by decide) rfl (fun ls hl => ?_)
          refine lv_aload_n hx hb dX6_week_58 rfl (lv_at hl 2 rfl) ?_
          refine g_get X hW eX6_week_12 0 rfl rfl dX6_week_59 ?_
          refine g_get X hW eX6_week_173 1 rfl rfl dX6_week_62 ?_
          refine lv_iload hx hb dX6_week_65 (lv_at hl 1 rfl) ?_
          refine lv_iload_n hx hb dX6_week_67 rfl (lv_at hl 5 rfl) ?_
          refine lv_iload hx hb dX6_week_68 (lv_at hl 6 rfl) ?_
          obtain ⟨o40_tb_f, hq, h⟩ := bn1_some h
          refine g_cvv X hW (As := [.int r25, .int v3, .int v4]) (ws' := (wX6_week G a_eb a_desk a_desk_weeks a_desk_weeks_a a_kept a_tape a_text a_plan a_mat a_desk_boxes a_desk_words a_desk_routes a_desk_offers a_desk_wants a_desk_leaves a_desk_leases a_desk_uses isKept planStands today lack rate free weeks_r o40_tb_f)) ckX6_week_X4_put_96 (kcX4_put (l := l) G a_desk_weeks a_desk_weeks_a r25 v3 v4 (2 : Int32) (30 : Int32) weeks_r 60 weeks_f hq) ⟨rfl, rfl, Nat.le_of_ble_eq_true rfl, Nat.le_of_ble_eq_true rfl⟩ [2, 3] rfl rfl rfl rfl rfl rfl rfl hl.1 (Nat.le_of_ble_eq_true rfl) ⟨Nat.zero_le _, Nat.zero_le _⟩ dX6_week_70 (fun H locs hW => ?_)
          refine lv_aload_n hx hb dX6_week_73 rfl (lv_at hl 2 rfl) ?_
          refine lv_iconst hx hb dX6_week_74 qI_0 ?_
          refine g_put X hW (ws' := (wX6_week G a_eb a_desk a_desk_weeks a_desk_weeks_a a_kept a_tape a_text a_plan a_mat a_desk_boxes a_desk_words a_desk_routes a_desk_offers a_desk_wants a_desk_leaves a_desk_leases a_desk_uses isKept (0 : Int32) today lack rate free weeks_r o40_tb_f)) pX6_week_51 0 rfl (Nat.le_of_ble_eq_true rfl) (zb_n (v := (0 : Int32)) rfl) (zb_f (v := (0 : Int32)) rfl) rfl dX6_week_75 (fun H locs hW => ?_)
          refine lv_iload hx hb dX6_week_78 (lv_at hl 0 rfl) ?_
          obtain rfl := Option.some.inj h
          exact g_iret X hW dX6_week_80
        · have h := (if_pos c22).symm.trans h
          refine lv_iconst hx hb dX6_week_34 qI_m1 ?_
          obtain rfl := Option.some.inj h
          exact g_iret X hW dX6_week_35
theorem kcX6_week {l : Launch} (G : Gt) (a_eb a_desk a_desk_weeks a_desk_weeks_a a_kept a_tape a_text a_plan a_mat a_desk_boxes a_desk_words a_desk_routes a_desk_offers a_desk_wants a_desk_leaves a_desk_leases a_desk_uses : Nat) (v1 : Int32) (v2 : Int32) (v3 : Int32) (v4 : Int32) (isKept : Int32) (planStands : Int32) (today : Int32) (lack : Int32) (rate : Int32) (free : Int32) (weeks_r : Int32) (weeks_f : (Nat → Int32)) {r : Int32} {z_planStands : Int32} {z_weeks_f : (Nat → Int32)} (h : fX6_week v1 v2 v3 v4 planStands weeks_r weeks_f = some (r, z_planStands, z_weeks_f)) : CtI G l yX6_week wsX6_week rmX6_week [.ref a_eb, .int v1, .int v2, .int v3, .int v4] (wX6_week G a_eb a_desk a_desk_weeks a_desk_weeks_a a_kept a_tape a_text a_plan a_mat a_desk_boxes a_desk_words a_desk_routes a_desk_offers a_desk_wants a_desk_leaves a_desk_leases a_desk_uses isKept planStands today lack rate free weeks_r weeks_f) r (wX6_week G a_eb a_desk a_desk_weeks a_desk_weeks_a a_kept a_tape a_text a_plan a_mat a_desk_boxes a_desk_words a_desk_routes a_desk_offers a_desk_wants a_desk_leaves a_desk_leases a_desk_uses isKept z_planStands today lack rate free weeks_r z_weeks_f) := k0X6_week G a_eb a_desk a_desk_weeks a_desk_weeks_a a_kept a_tape a_text a_plan a_mat a_desk_boxes a_desk_words a_desk_routes a_desk_offers a_desk_wants a_desk_leaves a_desk_leases a_desk_uses v1 v2 v3 v4 isKept planStands today lack rate free weeks_r weeks_f h
end MX6_week
/-! EmptyBoxes.route -/
section MX6_route
theorem hdX6_route : yX6_route.cls = RX6 ∧ yX6_route.cls ≠ "java/lang/invoke/MethodHandle" ∧ yX6_route.cls ≠ "java/lang/invoke/VarHandle" ∧ (parseMethodDescriptor yX6_route.desc).map (fun d => d.parameters.length) = some 4 := by decide +kernel
abbrev wX6_route (G : Gt) (a_eb a_desk a_desk_routes a_desk_routes_a a_kept a_tape a_text a_plan a_mat a_desk_boxes a_desk_words a_desk_weeks a_desk_offers a_desk_wants a_desk_leaves a_desk_leases a_desk_uses : Nat) (isKept : Int32) (planStands : Int32) (today : Int32) (lack : Int32) (rate : Int32) (free : Int32) (routes_r : Int32) (routes_f : (Nat → Int32)) : va_W := [(a_eb, .inr (6, [.ref a_desk, .ref a_kept, .ref a_tape, .ref a_text, .ref a_plan, .ref a_mat, .int isKept, .int planStands])), (a_desk, .inr (0, [.ref a_desk_boxes, .ref a_desk_words, .ref a_desk_weeks, .ref a_desk_routes, .ref a_desk_offers, .ref a_desk_wants, .ref a_desk_leaves, .ref a_desk_leases, .ref a_desk_uses, .int today, .int lack, .int rate, .int free])), (a_desk_routes, .inr (4, [.ref a_desk_routes_a, .int (5 : Int32), .int (10 : Int32), .int routes_r])), (a_desk_routes_a, .inl (G.2.1, 50, .inl routes_f))]
abbrev rmX6_route : Room := { frames := 2, cells := 0, slots := 0, locals := 45 }
theorem iX6_route_X0 : ∀ w ∈ wsX00, w ∈ wsX6_route := by decide +kernel
theorem iX6_route_X6 : ∀ w ∈ wsX60, w ∈ wsX6_route := by decide +kernel
theorem eX6_route_12 : Fk wsX6_route RX6 12 6 0 := ⟨RX6, TX6, 8, rfl, iX6_route_X6, by decide, by decide +kernel⟩
theorem eX6_route_176 : Fk wsX6_route RX6 176 0 3 := ⟨RX0, TX0, 13, rfl, iX6_route_X0, by decide, by decide +kernel⟩
theorem pX6_route_51 : Fp wsX6_route RX6 51 6 7 .boolean := ⟨RX6, TX6, 8, tyX6, rfl, iX6_route_X6, by decide, by decide +kernel, tyX6_ok, nmX6, rfl, by decide +kernel⟩
theorem ckX6_route_X4_grow_92 : CkV wsX6_route RX6 92 yX4_grow wsX4_grow cX4_grow 1 (some .int) 0 4 := ⟨RX4, TX4, 4, _, rfl, gX6_route_X4_grow, rfl, hdX4_grow⟩
theorem ckX6_route_X4_isFull_86 : CkV wsX6_route RX6 86 yX4_isFull wsX4_isFull cX4_isFull 1 (some .boolean) 0 4 := ⟨RX4, TX4, 4, _, rfl, gX6_route_X4_isFull, rfl, hdX4_isFull⟩
theorem ckX6_route_X4_put_96 : CkV wsX6_route RX6 96 yX4_put wsX4_put cX4_put 4 none 3 4 := ⟨RX4, TX4, 4, _, rfl, gX6_route_X4_put, rfl, hdX4_put⟩
theorem ckX6_route_X6_isPlace_126 : CkS wsX6_route RX6 126 yX6_isPlace wsX6_isPlace cX6_isPlace 1 (some .boolean) 1 := ⟨_, gX6_route_X6_isPlace, rfl, hdX6_isPlace.2⟩
theorem ckX6_route_X6_isWithin_54 : CkS wsX6_route RX6 54 yX6_isWithin wsX6_isWithin cX6_isWithin 3 (some .boolean) 3 := ⟨_, gX6_route_X6_isWithin, rfl, hdX6_isWithin.2⟩
variable {p : Program} {l : Launch} {e : Env} {s : State} {m : MethodId} {args : Array Value} {below : List Frame} {meth : Method} {c : Code} {A : Nat → Prop} {G : Gt} {a_eb a_desk a_desk_routes a_desk_routes_a a_kept a_tape a_text a_plan a_mat a_desk_boxes a_desk_words a_desk_weeks a_desk_offers a_desk_wants a_desk_leaves a_desk_leases a_desk_uses : Nat} {isKept : Int32} {today : Int32} {lack : Int32} {rate : Int32} {free : Int32} {res : Int32 × Int32 × Int32 × (Nat → Int32)}
set_option maxHeartbeats 4000000 in
set_option maxRecDepth 100000 in
theorem k0X6_route {l : Launch} (G : Gt) (a_eb a_desk a_desk_routes a_desk_routes_a a_kept a_tape a_text a_plan a_mat a_desk_boxes a_desk_words a_desk_weeks a_desk_offers a_desk_wants a_desk_leaves a_desk_leases a_desk_uses : Nat) (v1 : Int32) (v2 : Int32) (v3 : Int32) (v4 : Int32) (isKept : Int32) (planStands : Int32) (today : Int32) (lack : Int32) (rate : Int32) (free : Int32) (routes_r : Int32) (routes_f : (Nat → Int32)) {res : Int32 × Int32 × Int32 × (Nat → Int32)} (h : fX6_route v1 v2 v3 v4 planStands routes_r routes_f = some res) : CtI G l yX6_route wsX6_route rmX6_route [.ref a_eb, .int v1, .int v2, .int v3, .int v4] (wX6_route G a_eb a_desk a_desk_routes a_desk_routes_a a_kept a_tape a_text a_plan a_mat a_desk_boxes a_desk_words a_desk_weeks a_desk_offers a_desk_wants a_desk_leaves a_desk_leases a_desk_uses isKept planStands today lack rate free routes_r routes_f) res.1 (wX6_route G a_eb a_desk a_desk_routes a_desk_routes_a a_kept a_tape a_text a_plan a_mat a_desk_boxes a_desk_words a_desk_weeks a_desk_offers a_desk_wants a_desk_leaves a_desk_leases a_desk_uses isKept res.2.1 today lack rate free res.2.2.1 res.2.2.2) := by
  refine CtI.mk (cc := cX6_route) (maxL := 6) (ret := (some .int)) (own := RX6) (by decide) rfl rfl (Nat.le_of_ble_eq_true rfl) ?_
  intro p e s m below meth c A X ls hl hW
  obtain ⟨hx, hb, -⟩ := id X.1
  have hl : lv_has ls 6 [(0, .ref a_eb), (1, .int v1), (2, .int v2), (3, .int v3), (4, .int v4)] := hl
  generalize hH : s.heap = H at hW ⊢
  generalize hLo : ([] : List Loc) = locs at hW ⊢
  rw [fX6_route] at h
  refine lv_iload_n hx hb dX6_route_0 rfl (lv_at hl 1 rfl) ?_
  obtain ⟨r2, hq, h⟩ := bn1_some h
  refine g_csi X hW (As := [.int v1]) (ws' := (wX6_route G a_eb a_desk a_desk_routes a_desk_routes_a a_kept a_tape a_text a_plan a_mat a_desk_boxes a_desk_words a_desk_weeks a_desk_offers a_desk_wants a_desk_leaves a_desk_leases a_desk_uses isKept planStands today lack rate free routes_r routes_f)) ckX6_route_X6_isPlace_126 (kcX6_isPlace (l := l) G v1 hq) ⟨rfl, rfl, Nat.le_of_ble_eq_true rfl, Nat.le_of_ble_eq_true rfl⟩ [] rfl rfl rfl rfl rfl rfl hl.1 (Nat.le_of_ble_eq_true rfl) ⟨Nat.zero_le _, Nat.zero_le _⟩ dX6_route_1 (fun H locs hW => ?_)
  refine lv_if_eq (tgt := 40) hx hb dX6_route_4 (by decide) (fun c3 => ?_) (fun c3 => ?_)
  · have h := (if_pos c3).symm.trans h
    refine lv_iconst hx hb dX6_route_40 qI_m1 ?_
    obtain rfl := Option.some.inj h
    exact g_iret X hW dX6_route_41
  · have h := (if_neg c3).symm.trans h
    refine lv_iload_n hx hb dX6_route_7 rfl (lv_at hl 2 rfl) ?_
    obtain ⟨r7, hq, h⟩ := bn1_some h
    refine g_csi X hW (As := [.int v2]) (ws' := (wX6_route G a_eb a_desk a_desk_routes a_desk_routes_a a_kept a_tape a_text a_plan a_mat a_desk_boxes a_desk_words a_desk_weeks a_desk_offers a_desk_wants a_desk_leaves a_desk_leases a_desk_uses isKept planStands today lack rate free routes_r routes_f)) ckX6_route_X6_isPlace_126 (kcX6_isPlace (l := l) G v2 hq) ⟨rfl, rfl, Nat.le_of_ble_eq_true rfl, Nat.le_of_ble_eq_true rfl⟩ [] rfl rfl rfl rfl rfl rfl hl.1 (Nat.le_of_ble_eq_true rfl) ⟨Nat.zero_le _, Nat.zero_le _⟩ dX6_route_8 (fun H locs hW => ?_)
    refine lv_if_eq (tgt := 40) hx hb dX6_route_11 (by decide) (fun c8 => ?_) (fun c8 => ?_)
    · have h := (if_pos c8).symm.trans h
      refine lv_iconst hx hb dX6_route_40 qI_m1 ?_
      obtain rfl := Option.some.inj h
      exact g_iret X hW dX6_route_41
    · have h := (if_neg c8).symm.trans h
      refine lv_iload_n hx hb dX6_route_14 rfl (lv_at hl 1 rfl) ?_
      refine lv_iload_n hx hb dX6_route_15 rfl (lv_at hl 2 rfl) ?_
      refine lv_icmp_eq (tgt := 40) hx hb dX6_route_16 (by decide) (fun c13 => ?_) (fun c13 => ?_)
      · have h := (if_pos c13).symm.trans h
        refine lv_iconst hx hb dX6_route_40 qI_m1 ?_
        obtain rfl := Option.some.inj h
        exact g_iret X hW dX6_route_41
      · have h := (if_neg c13).symm.trans h
        refine lv_iload_n hx hb dX6_route_19 rfl (lv_at hl 3 rfl) ?_
        refine lv_iconst hx hb dX6_route_20 qI_0 ?_
        refine lv_iconst hx hb dX6_route_21 qI_2 ?_
        obtain ⟨r19, hq, h⟩ := bn1_some h
        refine g_csi X hW (As := [.int v3, .int (0 : Int32), .int (2 : Int32)]) (ws' := (wX6_route G a_eb a_desk a_desk_routes a_desk_routes_a a_kept a_tape a_text a_plan a_mat a_desk_boxes a_desk_words a_desk_weeks a_desk_offers a_desk_wants a_desk_leaves a_desk_leases a_desk_uses isKept planStands today lack rate free routes_r routes_f)) ckX6_route_X6_isWithin_54 (kcX6_isWithin (l := l) G v3 (0 : Int32) (2 : Int32) hq) ⟨rfl, rfl, Nat.le_of_ble_eq_true rfl, Nat.le_of_ble_eq_true rfl⟩ [] rfl rfl rfl rfl rfl rfl hl.1 (Nat.le_of_ble_eq_true rfl) ⟨Nat.zero_le _, Nat.zero_le _⟩ dX6_route_22 (fun H locs hW => ?_)
        refine lv_if_eq (tgt := 40) hx hb dX6_route_25 (by decide) (fun c20 => ?_) (fun c20 => ?_)
        · have h := (if_pos c20).symm.trans h
          refine lv_iconst hx hb dX6_route_40 qI_m1 ?_
          obtain rfl := Option.some.inj h
          exact g_iret X hW dX6_route_41
        · have h := (if_neg c20).symm.trans h
          refine lv_iload hx hb dX6_route_28 (lv_at hl 4 rfl) ?_
          refine lv_iconst hx hb dX6_route_30 qI_0 ?_
          refine lv_sipush hx hb dX6_route_31 qS_999 ?_
          obtain ⟨r26, hq, h⟩ := bn1_some h
          refine g_csi X hW (As := [.int v4, .int (0 : Int32), .int (999 : Int32)]) (ws' := (wX6_route G a_eb a_desk a_desk_routes a_desk_routes_a a_kept a_tape a_text a_plan a_mat a_desk_boxes a_desk_words a_desk_weeks a_desk_offers a_desk_wants a_desk_leaves a_desk_leases a_desk_uses isKept planStands today lack rate free routes_r routes_f)) ckX6_route_X6_isWithin_54 (kcX6_isWithin (l := l) G v4 (0 : Int32) (999 : Int32) hq) ⟨rfl, rfl, Nat.le_of_ble_eq_true rfl, Nat.le_of_ble_eq_true rfl⟩ [] rfl rfl rfl rfl rfl rfl hl.1 (Nat.le_of_ble_eq_true rfl) ⟨Nat.zero_le _, Nat.zero_le _⟩ dX6_route_34 (fun H locs hW => ?_)
          refine lv_if_ne (tgt := 42) hx hb dX6_route_37 (by decide) (fun c27 => ?_) (fun c27 => ?_)
          · have h := (if_neg c27).symm.trans h
            refine lv_aload_n hx hb dX6_route_42 rfl (lv_at hl 0 rfl) ?_
            refine g_get X hW eX6_route_12 0 rfl rfl dX6_route_43 ?_
            refine g_get X hW eX6_route_176 1 rfl rfl dX6_route_46 ?_
            obtain ⟨r31, hq, h⟩ := bn1_some h
            refine g_cvi X hW (As := []) (ws' := (wX6_route G a_eb a_desk a_desk_routes a_desk_routes_a a_kept a_tape a_text a_plan a_mat a_desk_boxes a_desk_words a_desk_weeks a_desk_offers a_desk_wants a_desk_leaves a_desk_leases a_desk_uses isKept planStands today lack rate free routes_r routes_f)) ckX6_route_X4_isFull_86 (kcX4_isFull (l := l) G a_desk_routes a_desk_routes_a (5 : Int32) (10 : Int32) routes_r hq) ⟨rfl, rfl, Nat.le_of_ble_eq_true rfl, Nat.le_of_ble_eq_true rfl⟩ [2] rfl rfl rfl rfl rfl rfl rfl hl.1 (Nat.le_of_ble_eq_true rfl) ⟨Nat.zero_le _, Nat.zero_le _⟩ dX6_route_49 (fun H locs hW => ?_)
            refine lv_if_eq (tgt := 58) hx hb dX6_route_52 (by decide) (fun c32 => ?_) (fun c32 => ?_)
            · have h := (if_pos c32).symm.trans h
              refine lv_aload_n hx hb dX6_route_58 rfl (lv_at hl 0 rfl) ?_
              refine g_get X hW eX6_route_12 0 rfl rfl dX6_route_59 ?_
              refine g_get X hW eX6_route_176 1 rfl rfl dX6_route_62 ?_
              obtain ⟨r36, o36_tb_r, hq, h⟩ := bn2_some h
              refine g_cvi X hW (As := []) (ws' := (wX6_route G a_eb a_desk a_desk_routes a_desk_routes_a a_kept a_tape a_text a_plan a_mat a_desk_boxes a_desk_words a_desk_weeks a_desk_offers a_desk_wants a_desk_leaves a_desk_leases a_desk_uses isKept planStands today lack rate free o36_tb_r routes_f)) ckX6_route_X4_grow_92 (kcX4_grow (l := l) G a_desk_routes a_desk_routes_a (5 : Int32) (10 : Int32) routes_r hq) ⟨rfl, rfl, Nat.le_of_ble_eq_true rfl, Nat.le_of_ble_eq_true rfl⟩ [2] rfl rfl rfl rfl rfl rfl rfl hl.1 (Nat.le_of_ble_eq_true rfl) ⟨Nat.zero_le _, Nat.zero_le _⟩ dX6_route_65 (fun H locs hW => ?_)
              refine lv_istore (lv' := [(5, .int r36), (0, .ref a_eb), (1, .int v1), (2, .int v2), (3, .int v3), (4, .int v4)]) hx hb dX6_route_68 hl (by decide) rfl (fun ls hl => ?_)
              refine lv_aload_n hx hb dX6_route_70 rfl (lv_at hl 1 rfl) ?_
              refine g_get X hW eX6_route_12 0 rfl rfl dX6_route_71 ?_
              refine g_get X hW eX6_route_176 1 rfl rfl dX6_route_74 ?_
              refine lv_iload hx hb dX6_route_77 (lv_at hl 0 rfl) ?_
              refine lv_iconst hx hb dX6_route_79 qI_0 ?_
              refine lv_iload_n hx hb dX6_route_80 rfl (lv_at hl 2 rfl) ?_
              obtain ⟨o44_tb_f, hq, h⟩ := bn1_some h
              refine g_cvv X hW (As := [.int r36, .int (0 : Int32), .int v1]) (ws' := (wX6_route G a_eb a_desk a_desk_routes a_desk_routes_a a_kept a_tape a_text a_plan a_mat a_desk_boxes a_desk_words a_desk_weeks a_desk_offers a_desk_wants a_desk_leaves a_desk_leases a_desk_uses isKept planStands today lack rate free o36_tb_r o44_tb_f)) ckX6_route_X4_put_96 (kcX4_put (l := l) G a_desk_routes a_desk_routes_a r36 (0 : Int32) v1 (5 : Int32) (10 : Int32) o36_tb_r 50 routes_f hq) ⟨rfl, rfl, Nat.le_of_ble_eq_true rfl, Nat.le_of_ble_eq_true rfl⟩ [2, 3] rfl rfl rfl rfl rfl rfl rfl hl.1 (Nat.le_of_ble_eq_true rfl) ⟨Nat.zero_le _, Nat.zero_le _⟩ dX6_route_81 (fun H locs hW => ?_)
              refine lv_aload_n hx hb dX6_route_84 rfl (lv_at hl 1 rfl) ?_
              refine g_get X hW eX6_route_12 0 rfl rfl dX6_route_85 ?_
              refine g_get X hW eX6_route_176 1 rfl rfl dX6_route_88 ?_
              refine lv_iload hx hb dX6_route_91 (lv_at hl 0 rfl) ?_
              refine lv_iconst hx hb dX6_route_93 qI_1 ?_
              refine lv_iload_n hx hb dX6_route_94 rfl (lv_at hl 3 rfl) ?_
              obtain ⟨o51_tb_f, hq, h⟩ := bn1_some h
              refine g_cvv X hW (As := [.int r36, .int (1 : Int32), .int v2]) (ws' := (wX6_route G a_eb a_desk a_desk_routes a_desk_routes_a a_kept a_tape a_text a_plan a_mat a_desk_boxes a_desk_words a_desk_weeks a_desk_offers a_desk_wants a_desk_leaves a_desk_leases a_desk_uses isKept planStands today lack rate free o36_tb_r o51_tb_f)) ckX6_route_X4_put_96 (kcX4_put (l := l) G a_desk_routes a_desk_routes_a r36 (1 : Int32) v2 (5 : Int32) (10 : Int32) o36_tb_r 50 o44_tb_f hq) ⟨rfl, rfl, Nat.le_of_ble_eq_true rfl, Nat.le_of_ble_eq_true rfl⟩ [2, 3] rfl rfl rfl rfl rfl rfl rfl hl.1 (Nat.le_of_ble_eq_true rfl) ⟨Nat.zero_le _, Nat.zero_le _⟩ dX6_route_95 (fun H locs hW => ?_)
              refine lv_aload_n hx hb dX6_route_98 rfl (lv_at hl 1 rfl) ?_
              refine g_get X hW eX6_route_12 0 rfl rfl dX6_route_99 ?_
              refine g_get X hW eX6_route_176 1 rfl rfl dX6_route_102 ?_
              refine lv_iload hx hb dX6_route_105 (lv_at hl 0 rfl) ?_
              refine lv_iconst hx hb dX6_route_107 qI_2 ?_
              refine lv_iload_n hx hb dX6_route_108 rfl (lv_at hl 4 rfl) ?_
              obtain ⟨o58_tb_f, hq, h⟩ := bn1_some h
              refine g_cvv X hW (As := [.int r36, .int (2 : Int32), .int v3]) (ws' := (wX6_route G a_eb a_desk a_desk_routes a_desk_routes_a a_kept a_tape a_text a_plan a_mat a_desk_boxes a_desk_words a_desk_weeks a_desk_offers a_desk_wants a_desk_leaves a_desk_leases a_desk_uses isKept planStands today lack rate free o36_tb_r o58_tb_f)) ckX6_route_X4_put_96 (kcX4_put (l := l) G a_desk_routes a_desk_routes_a r36 (2 : Int32) v3 (5 : Int32) (10 : Int32) o36_tb_r 50 o51_tb_f hq) ⟨rfl, rfl, Nat.le_of_ble_eq_true rfl, Nat.le_of_ble_eq_true rfl⟩ [2, 3] rfl rfl rfl rfl rfl rfl rfl hl.1 (Nat.le_of_ble_eq_true rfl) ⟨Nat.zero_le _, Nat.zero_le _⟩ dX6_route_109 (fun H locs hW => ?_)
              refine lv_aload_n hx hb dX6_route_112 rfl (lv_at hl 1 rfl) ?_
              refine g_get X hW eX6_route_12 0 rfl rfl dX6_route_113 ?_
              refine g_get X hW eX6_route_176 1 rfl rfl dX6_route_116 ?_
              refine lv_iload hx hb dX6_route_119 (lv_at hl 0 rfl) ?_
              refine lv_iconst hx hb dX6_route_121 qI_3 ?_
              refine lv_iload hx hb dX6_route_122 (lv_at hl 5 rfl) ?_
              refine lv_bipush hx hb dX6_route_124 qB_100 ?_
              refine g_irem hx hb dX6_route_126 (by decide) ?_
              obtain ⟨o67_tb_f, hq, h⟩ := bn1_some h
              refine g_cvv X hW (As := [.int r36, .int (3 : Int32), .int (irem v4 (100 : Int32))]) (ws' := (wX6_route G a_eb a_desk a_desk_routes a_desk_routes_a a_kept a_tape a_text a_plan a_mat a_desk_boxes a_desk_words a_desk_weeks a_desk_offers a_desk_wants a_desk_leaves a_desk_leases a_desk_uses isKept planStands today lack rate free o36_tb_r o67_tb_f)) ckX6_route_X4_put_96 (kcX4_put (l := l) G a_desk_routes a_desk_routes_a r36 (3 : Int32) (irem v4 (100 : Int32)) (5 : Int32) (10 : Int32) o36_tb_r 50 o58_tb_f hq) ⟨rfl, rfl, Nat.le_of_ble_eq_true rfl, Nat.le_of_ble_eq_true rfl⟩ [2, 3] rfl rfl rfl rfl rfl rfl rfl hl.1 (Nat.le_of_ble_eq_true rfl) ⟨Nat.zero_le _, Nat.zero_le _⟩ dX6_route_127 (fun H locs hW => ?_)
              refine lv_aload_n hx hb dX6_route_130 rfl (lv_at hl 1 rfl) ?_
              refine g_get X hW eX6_route_12 0 rfl rfl dX6_route_131 ?_
              refine g_get X hW eX6_route_176 1 rfl rfl dX6_route_134 ?_
              refine lv_iload hx hb dX6_route_137 (lv_at hl 0 rfl) ?_
              refine lv_iconst hx hb dX6_route_139 qI_4 ?_
              refine lv_iload hx hb dX6_route_140 (lv_at hl 5 rfl) ?_
              refine lv_bipush hx hb dX6_route_142 qB_100 ?_
              refine lv_idiv hx hb dX6_route_144 (by decide) ?_
              obtain ⟨o76_tb_f, hq, h⟩ := bn1_some h
              refine g_cvv X hW (As := [.int r36, .int (4 : Int32), .int (v4 / (100 : Int32))]) (ws' := (wX6_route G a_eb a_desk a_desk_routes a_desk_routes_a a_kept a_tape a_text a_plan a_mat a_desk_boxes a_desk_words a_desk_weeks a_desk_offers a_desk_wants a_desk_leaves a_desk_leases a_desk_uses isKept planStands today lack rate free o36_tb_r o76_tb_f)) ckX6_route_X4_put_96 (kcX4_put (l := l) G a_desk_routes a_desk_routes_a r36 (4 : Int32) (v4 / (100 : Int32)) (5 : Int32) (10 : Int32) o36_tb_r 50 o67_tb_f hq) ⟨rfl, rfl, Nat.le_of_ble_eq_true rfl, Nat.le_of_ble_eq_true rfl⟩ [2, 3] rfl rfl rfl rfl rfl rfl rfl hl.1 (Nat.le_of_ble_eq_true rfl) ⟨Nat.zero_le _, Nat.zero_le _⟩ dX6_route_145 (fun H locs hW => ?_)
              refine lv_aload_n hx hb dX6_route_148 rfl (lv_at hl 1 rfl) ?_
              refine lv_iconst hx hb dX6_route_149 qI_0 ?_
              refine g_put X hW (ws' := (wX6_route G a_eb a_desk a_desk_routes a_desk_routes_a a_kept a_tape a_text a_plan a_mat a_desk_boxes a_desk_words a_desk_weeks a_desk_offers a_desk_wants a_desk_leaves a_desk_leases a_desk_uses isKept (0 : Int32) today lack rate free o36_tb_r o76_tb_f)) pX6_route_51 0 rfl (Nat.le_of_ble_eq_true rfl) (zb_n (v := (0 : Int32)) rfl) (zb_f (v := (0 : Int32)) rfl) rfl dX6_route_150 (fun H locs hW => ?_)
              refine lv_iload hx hb dX6_route_153 (lv_at hl 0 rfl) ?_
              obtain rfl := Option.some.inj h
              exact g_iret X hW dX6_route_155
            · have h := (if_neg c32).symm.trans h
              refine lv_bipush hx hb dX6_route_55 qB_m2 ?_
              obtain rfl := Option.some.inj h
              exact g_iret X hW dX6_route_57
          · have h := (if_pos c27).symm.trans h
            refine lv_iconst hx hb dX6_route_40 qI_m1 ?_
            obtain rfl := Option.some.inj h
            exact g_iret X hW dX6_route_41
theorem kcX6_route {l : Launch} (G : Gt) (a_eb a_desk a_desk_routes a_desk_routes_a a_kept a_tape a_text a_plan a_mat a_desk_boxes a_desk_words a_desk_weeks a_desk_offers a_desk_wants a_desk_leaves a_desk_leases a_desk_uses : Nat) (v1 : Int32) (v2 : Int32) (v3 : Int32) (v4 : Int32) (isKept : Int32) (planStands : Int32) (today : Int32) (lack : Int32) (rate : Int32) (free : Int32) (routes_r : Int32) (routes_f : (Nat → Int32)) {r : Int32} {z_planStands : Int32} {z_routes_r : Int32} {z_routes_f : (Nat → Int32)} (h : fX6_route v1 v2 v3 v4 planStands routes_r routes_f = some (r, z_planStands, z_routes_r, z_routes_f)) : CtI G l yX6_route wsX6_route rmX6_route [.ref a_eb, .int v1, .int v2, .int v3, .int v4] (wX6_route G a_eb a_desk a_desk_routes a_desk_routes_a a_kept a_tape a_text a_plan a_mat a_desk_boxes a_desk_words a_desk_weeks a_desk_offers a_desk_wants a_desk_leaves a_desk_leases a_desk_uses isKept planStands today lack rate free routes_r routes_f) r (wX6_route G a_eb a_desk a_desk_routes a_desk_routes_a a_kept a_tape a_text a_plan a_mat a_desk_boxes a_desk_words a_desk_weeks a_desk_offers a_desk_wants a_desk_leaves a_desk_leases a_desk_uses isKept z_planStands today lack rate free z_routes_r z_routes_f) := k0X6_route G a_eb a_desk a_desk_routes a_desk_routes_a a_kept a_tape a_text a_plan a_mat a_desk_boxes a_desk_words a_desk_weeks a_desk_offers a_desk_wants a_desk_leaves a_desk_leases a_desk_uses v1 v2 v3 v4 isKept planStands today lack rate free routes_r routes_f h
end MX6_route
/-! EmptyBoxes.lack -/
section MX6_lack
theorem hdX6_lack : yX6_lack.cls = RX6 ∧ yX6_lack.cls ≠ "java/lang/invoke/MethodHandle" ∧ yX6_lack.cls ≠ "java/lang/invoke/VarHandle" ∧ (parseMethodDescriptor yX6_lack.desc).map (fun d => d.parameters.length) = some 1 := by decide +kernel
abbrev wX6_lack (G : Gt) (a_eb a_desk a_kept a_tape a_text a_plan a_mat a_desk_boxes a_desk_words a_desk_weeks a_desk_routes a_desk_offers a_desk_wants a_desk_leaves a_desk_leases a_desk_uses : Nat) (isKept : Int32) (planStands : Int32) (today : Int32) (lack : Int32) (rate : Int32) (free : Int32) : va_W := [(a_eb, .inr (6, [.ref a_desk, .ref a_kept, .ref a_tape, .ref a_text, .ref a_plan, .ref a_mat, .int isKept, .int planStands])), (a_desk, .inr (0, [.ref a_desk_boxes, .ref a_desk_words, .ref a_desk_weeks, .ref a_desk_routes, .ref a_desk_offers, .ref a_desk_wants, .ref a_desk_leaves, .ref a_desk_leases, .ref a_desk_uses, .int today, .int lack, .int rate, .int free]))]
abbrev rmX6_lack : Room := { frames := 1, cells := 0, slots := 0, locals := 22 }
theorem iX6_lack_X0 : ∀ w ∈ wsX00, w ∈ wsX6_lack := by decide +kernel
theorem iX6_lack_X6 : ∀ w ∈ wsX60, w ∈ wsX6_lack := by decide +kernel
theorem eX6_lack_12 : Fk wsX6_lack RX6 12 6 0 := ⟨RX6, TX6, 8, rfl, iX6_lack_X6, by decide, by decide +kernel⟩
theorem eX6_lack_179 : Fk wsX6_lack RX6 179 0 10 := ⟨RX0, TX0, 13, rfl, iX6_lack_X0, by decide, by decide +kernel⟩
theorem pX6_lack_179 : Fp wsX6_lack RX6 179 0 10 .int := ⟨RX0, TX0, 13, tyX0, rfl, iX6_lack_X0, by decide, by decide +kernel, tyX0_ok, nmX0, rfl, by decide +kernel⟩
theorem pX6_lack_51 : Fp wsX6_lack RX6 51 6 7 .boolean := ⟨RX6, TX6, 8, tyX6, rfl, iX6_lack_X6, by decide, by decide +kernel, tyX6_ok, nmX6, rfl, by decide +kernel⟩
theorem ckX6_lack_X6_isWithin_54 : CkS wsX6_lack RX6 54 yX6_isWithin wsX6_isWithin cX6_isWithin 3 (some .boolean) 3 := ⟨_, gX6_lack_X6_isWithin, rfl, hdX6_isWithin.2⟩
variable {p : Program} {l : Launch} {e : Env} {s : State} {m : MethodId} {args : Array Value} {below : List Frame} {meth : Method} {c : Code} {A : Nat → Prop} {G : Gt} {a_eb a_desk a_kept a_tape a_text a_plan a_mat a_desk_boxes a_desk_words a_desk_weeks a_desk_routes a_desk_offers a_desk_wants a_desk_leaves a_desk_leases a_desk_uses : Nat} {isKept : Int32} {today : Int32} {rate : Int32} {free : Int32} {res : Int32 × Int32 × Int32}
set_option maxHeartbeats 4000000 in
set_option maxRecDepth 100000 in
theorem k0X6_lack {l : Launch} (G : Gt) (a_eb a_desk a_kept a_tape a_text a_plan a_mat a_desk_boxes a_desk_words a_desk_weeks a_desk_routes a_desk_offers a_desk_wants a_desk_leaves a_desk_leases a_desk_uses : Nat) (v1 : Int32) (isKept : Int32) (planStands : Int32) (today : Int32) (lack : Int32) (rate : Int32) (free : Int32) {res : Int32 × Int32 × Int32} (h : fX6_lack v1 planStands lack = some res) : CtI G l yX6_lack wsX6_lack rmX6_lack [.ref a_eb, .int v1] (wX6_lack G a_eb a_desk a_kept a_tape a_text a_plan a_mat a_desk_boxes a_desk_words a_desk_weeks a_desk_routes a_desk_offers a_desk_wants a_desk_leaves a_desk_leases a_desk_uses isKept planStands today lack rate free) res.1 (wX6_lack G a_eb a_desk a_kept a_tape a_text a_plan a_mat a_desk_boxes a_desk_words a_desk_weeks a_desk_routes a_desk_offers a_desk_wants a_desk_leaves a_desk_leases a_desk_uses isKept res.2.1 today res.2.2 rate free) := by
  refine CtI.mk (cc := cX6_lack) (maxL := 3) (ret := (some .int)) (own := RX6) (by decide) rfl rfl (Nat.le_of_ble_eq_true rfl) ?_
  intro p e s m below meth c A X ls hl hW
  obtain ⟨hx, hb, -⟩ := id X.1
  have hl : lv_has ls 3 [(0, .ref a_eb), (1, .int v1)] := hl
  generalize hH : s.heap = H at hW ⊢
  generalize hLo : ([] : List Loc) = locs at hW ⊢
  rw [fX6_lack] at h
  refine lv_iload_n hx hb dX6_lack_0 rfl (lv_at hl 1 rfl) ?_
  refine lv_iconst hx hb dX6_lack_1 qI_0 ?_
  refine lv_sipush hx hb dX6_lack_2 qS_500 ?_
  obtain ⟨r4, hq, h⟩ := bn1_some h
  refine g_csi X hW (As := [.int v1, .int (0 : Int32), .int (500 : Int32)]) (ws' := (wX6_lack G a_eb a_desk a_kept a_tape a_text a_plan a_mat a_desk_boxes a_desk_words a_desk_weeks a_desk_routes a_desk_offers a_desk_wants a_desk_leaves a_desk_leases a_desk_uses isKept planStands today lack rate free)) ckX6_lack_X6_isWithin_54 (kcX6_isWithin (l := l) G v1 (0 : Int32) (500 : Int32) hq) ⟨rfl, rfl, Nat.le_of_ble_eq_true rfl, Nat.le_of_ble_eq_true rfl⟩ [] rfl rfl rfl rfl rfl rfl hl.1 (Nat.le_of_ble_eq_true rfl) ⟨Nat.zero_le _, Nat.zero_le _⟩ dX6_lack_5 (fun H locs hW => ?_)
  refine lv_if_ne (tgt := 13) hx hb dX6_lack_8 (by decide) (fun c5 => ?_) (fun c5 => ?_)
  · have h := (if_neg c5).symm.trans h
    refine lv_aload_n hx hb dX6_lack_13 rfl (lv_at hl 0 rfl) ?_
    refine g_get X hW eX6_lack_12 0 rfl rfl dX6_lack_14 ?_
    refine g_get X hW eX6_lack_179 1 rfl rfl dX6_lack_17 ?_
    refine lv_istore_n (lv' := [(2, .int lack), (0, .ref a_eb), (1, .int v1)]) hx hb dX6_lack_20 rfl hl (by decide) rfl (fun ls hl => ?_)
    refine lv_aload_n hx hb dX6_lack_21 rfl (lv_at hl 1 rfl) ?_
    refine g_get X hW eX6_lack_12 0 rfl rfl dX6_lack_22 ?_
    refine lv_iload_n hx hb dX6_lack_25 rfl (lv_at hl 2 rfl) ?_
    refine g_put X hW (ws' := (wX6_lack G a_eb a_desk a_kept a_tape a_text a_plan a_mat a_desk_boxes a_desk_words a_desk_weeks a_desk_routes a_desk_offers a_desk_wants a_desk_leaves a_desk_leases a_desk_uses isKept planStands today v1 rate free)) pX6_lack_179 1 rfl (Nat.le_of_ble_eq_true rfl) rfl rfl rfl dX6_lack_26 (fun H locs hW => ?_)
    refine lv_aload_n hx hb dX6_lack_29 rfl (lv_at hl 1 rfl) ?_
    refine lv_iconst hx hb dX6_lack_30 qI_0 ?_
    refine g_put X hW (ws' := (wX6_lack G a_eb a_desk a_kept a_tape a_text a_plan a_mat a_desk_boxes a_desk_words a_desk_weeks a_desk_routes a_desk_offers a_desk_wants a_desk_leaves a_desk_leases a_desk_uses isKept (0 : Int32) today v1 rate free)) pX6_lack_51 0 rfl (Nat.le_of_ble_eq_true rfl) (zb_n (v := (0 : Int32)) rfl) (zb_f (v := (0 : Int32)) rfl) rfl dX6_lack_31 (fun H locs hW => ?_)
    refine lv_iload_n hx hb dX6_lack_34 rfl (lv_at hl 0 rfl) ?_
    obtain rfl := Option.some.inj h
    exact g_iret X hW dX6_lack_35
  · have h := (if_pos c5).symm.trans h
    refine lv_iconst hx hb dX6_lack_11 qI_m1 ?_
    obtain rfl := Option.some.inj h
    exact g_iret X hW dX6_lack_12
theorem kcX6_lack {l : Launch} (G : Gt) (a_eb a_desk a_kept a_tape a_text a_plan a_mat a_desk_boxes a_desk_words a_desk_weeks a_desk_routes a_desk_offers a_desk_wants a_desk_leaves a_desk_leases a_desk_uses : Nat) (v1 : Int32) (isKept : Int32) (planStands : Int32) (today : Int32) (lack : Int32) (rate : Int32) (free : Int32) {r : Int32} {z_planStands : Int32} {z_lack : Int32} (h : fX6_lack v1 planStands lack = some (r, z_planStands, z_lack)) : CtI G l yX6_lack wsX6_lack rmX6_lack [.ref a_eb, .int v1] (wX6_lack G a_eb a_desk a_kept a_tape a_text a_plan a_mat a_desk_boxes a_desk_words a_desk_weeks a_desk_routes a_desk_offers a_desk_wants a_desk_leaves a_desk_leases a_desk_uses isKept planStands today lack rate free) r (wX6_lack G a_eb a_desk a_kept a_tape a_text a_plan a_mat a_desk_boxes a_desk_words a_desk_weeks a_desk_routes a_desk_offers a_desk_wants a_desk_leaves a_desk_leases a_desk_uses isKept z_planStands today z_lack rate free) := k0X6_lack G a_eb a_desk a_kept a_tape a_text a_plan a_mat a_desk_boxes a_desk_words a_desk_weeks a_desk_routes a_desk_offers a_desk_wants a_desk_leaves a_desk_leases a_desk_uses v1 isKept planStands today lack rate free h
end MX6_lack
/-! EmptyBoxes.makePlan -/
section MX6_makePlan
theorem hdX6_makePlan : yX6_makePlan.cls = RX6 ∧ yX6_makePlan.cls ≠ "java/lang/invoke/MethodHandle" ∧ yX6_makePlan.cls ≠ "java/lang/invoke/VarHandle" ∧ (parseMethodDescriptor yX6_makePlan.desc).map (fun d => d.parameters.length) = some 0 := by decide +kernel
abbrev wX6_makePlan (G : Gt) (a_eb a_desk a_desk_weeks a_desk_weeks_a a_desk_routes a_desk_routes_a a_plan a_plan_start a_plan_end a_plan_cost a_plan_room a_plan_idle a_plan_unmet a_plan_gain a_plan_way a_kept a_tape a_text a_mat a_desk_boxes a_desk_words a_desk_offers a_desk_wants a_desk_leaves a_desk_leases a_desk_uses : Nat) (isKept : Int32) (planStands : Int32) (today : Int32) (lack : Int32) (rate : Int32) (free : Int32) (weeks_r : Int32) (weeks_f : (Nat → Int32)) (routes_r : Int32) (routes_f : (Nat → Int32)) (pl_arcs : Int32) (pl_lack : Int32) (pl_least : Int32) (pl_start : (Nat → Int32)) (pl_end : (Nat → Int32)) (pl_cost : (Nat → Int32)) (pl_room : (Nat → Int32)) (pl_idle : (Nat → Int32)) (pl_unmet : (Nat → Int32)) (pl_gain : (Nat → Int32)) (pl_way : (Nat → Int32)) : va_W := [(a_eb, .inr (6, [.ref a_desk, .ref a_kept, .ref a_tape, .ref a_text, .ref a_plan, .ref a_mat, .int isKept, .int planStands])), (a_desk, .inr (0, [.ref a_desk_boxes, .ref a_desk_words, .ref a_desk_weeks, .ref a_desk_routes, .ref a_desk_offers, .ref a_desk_wants, .ref a_desk_leaves, .ref a_desk_leases, .ref a_desk_uses, .int today, .int lack, .int rate, .int free])), (a_desk_weeks, .inr (4, [.ref a_desk_weeks_a, .int (2 : Int32), .int (30 : Int32), .int weeks_r])), (a_desk_weeks_a, .inl (G.2.1, 60, .inl weeks_f)), (a_desk_routes, .inr (4, [.ref a_desk_routes_a, .int (5 : Int32), .int (10 : Int32), .int routes_r])), (a_desk_routes_a, .inl (G.2.1, 50, .inl routes_f)), (a_plan, .inr (3, [.ref a_plan_start, .ref a_plan_end, .ref a_plan_cost, .ref a_plan_room, .ref a_plan_idle, .ref a_plan_unmet, .ref a_plan_gain, .ref a_plan_way, .int pl_arcs, .int pl_lack, .int pl_least])), (a_plan_start, .inl (G.2.1, 148, .inl pl_start)), (a_plan_end, .inl (G.2.1, 148, .inl pl_end)), (a_plan_cost, .inl (G.2.1, 148, .inl pl_cost)), (a_plan_room, .inl (G.2.1, 148, .inl pl_room)), (a_plan_idle, .inl (G.2.1, 30, .inl pl_idle)), (a_plan_unmet, .inl (G.2.1, 30, .inl pl_unmet)), (a_plan_gain, .inl (G.2.1, 30, .inl pl_gain)), (a_plan_way, .inl (G.2.1, 30, .inl pl_way))]
abbrev rmX6_makePlan : Room := { frames := 5, cells := 0, slots := 0, locals := 113 }
theorem iX6_makePlan_X6 : ∀ w ∈ wsX60, w ∈ wsX6_makePlan := by decide +kernel
theorem eX6_makePlan_12 : Fk wsX6_makePlan RX6 12 6 0 := ⟨RX6, TX6, 8, rfl, iX6_makePlan_X6, by decide, by decide +kernel⟩
theorem eX6_makePlan_36 : Fk wsX6_makePlan RX6 36 6 4 := ⟨RX6, TX6, 8, rfl, iX6_makePlan_X6, by decide, by decide +kernel⟩
theorem eX6_makePlan_51 : Fk wsX6_makePlan RX6 51 6 7 := ⟨RX6, TX6, 8, rfl, iX6_makePlan_X6, by decide, by decide +kernel⟩
theorem pX6_makePlan_51 : Fp wsX6_makePlan RX6 51 6 7 .boolean := ⟨RX6, TX6, 8, tyX6, rfl, iX6_makePlan_X6, by decide, by decide +kernel, tyX6_ok, nmX6, rfl, by decide +kernel⟩
theorem ckX6_makePlan_X3_solve_191 : CkV wsX6_makePlan RX6 191 yX3_solve wsX3_solve cX3_solve 4 none 1 3 := ⟨RX3, TX3, 11, _, rfl, gX6_makePlan_X3_solve, rfl, hdX3_solve⟩
variable {p : Program} {l : Launch} {e : Env} {s : State} {m : MethodId} {args : Array Value} {below : List Frame} {meth : Method} {c : Code} {A : Nat → Prop} {G : Gt} {a_eb a_desk a_desk_weeks a_desk_weeks_a a_desk_routes a_desk_routes_a a_plan a_plan_start a_plan_end a_plan_cost a_plan_room a_plan_idle a_plan_unmet a_plan_gain a_plan_way a_kept a_tape a_text a_mat a_desk_boxes a_desk_words a_desk_offers a_desk_wants a_desk_leaves a_desk_leases a_desk_uses : Nat} {isKept : Int32} {today : Int32} {lack : Int32} {rate : Int32} {free : Int32} {weeks_r : Int32} {weeks_f : (Nat → Int32)} {routes_r : Int32} {routes_f : (Nat → Int32)} {res : Int32 × Int32 × Int32 × Int32 × (Nat → Int32) × (Nat → Int32) × (Nat → Int32) × (Nat → Int32) × (Nat → Int32) × (Nat → Int32) × (Nat → Int32) × (Nat → Int32)}
set_option maxHeartbeats 4000000 in
set_option maxRecDepth 100000 in
theorem k0X6_makePlan {l : Launch} (G : Gt) (a_eb a_desk a_desk_weeks a_desk_weeks_a a_desk_routes a_desk_routes_a a_plan a_plan_start a_plan_end a_plan_cost a_plan_room a_plan_idle a_plan_unmet a_plan_gain a_plan_way a_kept a_tape a_text a_mat a_desk_boxes a_desk_words a_desk_offers a_desk_wants a_desk_leaves a_desk_leases a_desk_uses : Nat)  (isKept : Int32) (planStands : Int32) (today : Int32) (lack : Int32) (rate : Int32) (free : Int32) (weeks_r : Int32) (weeks_f : (Nat → Int32)) (routes_r : Int32) (routes_f : (Nat → Int32)) (pl_arcs : Int32) (pl_lack : Int32) (pl_least : Int32) (pl_start : (Nat → Int32)) (pl_end : (Nat → Int32)) (pl_cost : (Nat → Int32)) (pl_room : (Nat → Int32)) (pl_idle : (Nat → Int32)) (pl_unmet : (Nat → Int32)) (pl_gain : (Nat → Int32)) (pl_way : (Nat → Int32)) {res : Int32 × Int32 × Int32 × Int32 × (Nat → Int32) × (Nat → Int32) × (Nat → Int32) × (Nat → Int32) × (Nat → Int32) × (Nat → Int32) × (Nat → Int32) × (Nat → Int32)} (h : fX6_makePlan planStands lack weeks_r weeks_f routes_r routes_f pl_arcs pl_lack pl_least pl_start pl_end pl_cost pl_room pl_idle pl_unmet pl_gain pl_way = some res) : CtV G l yX6_makePlan wsX6_makePlan rmX6_makePlan [.ref a_eb] (wX6_makePlan G a_eb a_desk a_desk_weeks a_desk_weeks_a a_desk_routes a_desk_routes_a a_plan a_plan_start a_plan_end a_plan_cost a_plan_room a_plan_idle a_plan_unmet a_plan_gain a_plan_way a_kept a_tape a_text a_mat a_desk_boxes a_desk_words a_desk_offers a_desk_wants a_desk_leaves a_desk_leases a_desk_uses isKept planStands today lack rate free weeks_r weeks_f routes_r routes_f pl_arcs pl_lack pl_least pl_start pl_end pl_cost pl_room pl_idle pl_unmet pl_gain pl_way) (wX6_makePlan G a_eb a_desk a_desk_weeks a_desk_weeks_a a_desk_routes a_desk_routes_a a_plan a_plan_start a_plan_end a_plan_cost a_plan_room a_plan_idle a_plan_unmet a_plan_gain a_plan_way a_kept a_tape a_text a_mat a_desk_boxes a_desk_words a_desk_offers a_desk_wants a_desk_leaves a_desk_leases a_desk_uses isKept res.1 today lack rate free weeks_r weeks_f routes_r routes_f res.2.1 res.2.2.1 res.2.2.2.1 res.2.2.2.2.1 res.2.2.2.2.2.1 res.2.2.2.2.2.2.1 res.2.2.2.2.2.2.2.1 res.2.2.2.2.2.2.2.2.1 res.2.2.2.2.2.2.2.2.2.1 res.2.2.2.2.2.2.2.2.2.2.1 res.2.2.2.2.2.2.2.2.2.2.2) := by
  refine CtV.mk (cc := cX6_makePlan) (maxL := 1) (ret := none) (own := RX6) (by decide) rfl rfl (Nat.le_of_ble_eq_true rfl) ?_
  intro p e s m below meth c A X ls hl hW
  obtain ⟨hx, hb, -⟩ := id X.1
  have hl : lv_has ls 1 [(0, .ref a_eb)] := hl
  generalize hH : s.heap = H at hW ⊢
  generalize hLo : ([] : List Loc) = locs at hW ⊢
  rw [fX6_makePlan] at h
  refine lv_aload_n hx hb dX6_makePlan_0 rfl (lv_at hl 0 rfl) ?_
  refine g_get X hW eX6_makePlan_51 0 rfl rfl dX6_makePlan_1 ?_
  refine lv_if_ne (tgt := 23) hx hb dX6_makePlan_4 (by decide) (fun c3 => ?_) (fun c3 => ?_)
  · have h := (if_neg c3).symm.trans h
    obtain rfl := Option.some.inj h
    exact g_vret X hW dX6_makePlan_23
  · have h := (if_pos c3).symm.trans h
    refine lv_aload_n hx hb dX6_makePlan_7 rfl (lv_at hl 0 rfl) ?_
    refine g_get X hW eX6_makePlan_36 0 rfl rfl dX6_makePlan_8 ?_
    refine lv_aload_n hx hb dX6_makePlan_11 rfl (lv_at hl 0 rfl) ?_
    refine g_get X hW eX6_makePlan_12 0 rfl rfl dX6_makePlan_12 ?_
    obtain ⟨o9_pl_arcs, o9_pl_lack, o9_pl_least, o9_pl_start, o9_pl_end, o9_pl_cost, o9_pl_room, o9_pl_idle, o9_pl_unmet, o9_pl_gain, o9_pl_way, hq, h⟩ := bn11_some h
    refine g_cvv X hW (As := [.ref a_desk]) (ws' := (wX6_makePlan G a_eb a_desk a_desk_weeks a_desk_weeks_a a_desk_routes a_desk_routes_a a_plan a_plan_start a_plan_end a_plan_cost a_plan_room a_plan_idle a_plan_unmet a_plan_gain a_plan_way a_kept a_tape a_text a_mat a_desk_boxes a_desk_words a_desk_offers a_desk_wants a_desk_leaves a_desk_leases a_desk_uses isKept planStands today lack rate free weeks_r weeks_f routes_r routes_f o9_pl_arcs o9_pl_lack o9_pl_least o9_pl_start o9_pl_end o9_pl_cost o9_pl_room o9_pl_idle o9_pl_unmet o9_pl_gain o9_pl_way)) ckX6_makePlan_X3_solve_191 (kcX3_solve (l := l) G a_plan a_plan_start a_plan_end a_plan_cost a_plan_room a_plan_idle a_plan_unmet a_plan_gain a_plan_way a_desk a_desk_weeks a_desk_weeks_a a_desk_routes a_desk_routes_a a_desk_boxes a_desk_words a_desk_offers a_desk_wants a_desk_leaves a_desk_leases a_desk_uses pl_arcs pl_lack pl_least pl_start pl_end pl_cost pl_room pl_idle pl_unmet pl_gain pl_way today lack rate free weeks_r weeks_f routes_r routes_f hq) ⟨rfl, rfl, Nat.le_of_ble_eq_true rfl, Nat.le_of_ble_eq_true rfl⟩ [6, 7, 8, 9, 10, 11, 12, 13, 14, 1, 2, 3, 4, 5] rfl rfl rfl rfl rfl rfl rfl hl.1 (Nat.le_of_ble_eq_true rfl) ⟨Nat.zero_le _, Nat.zero_le _⟩ dX6_makePlan_15 (fun H locs hW => ?_)
    refine lv_aload_n hx hb dX6_makePlan_18 rfl (lv_at hl 0 rfl) ?_
    refine lv_iconst hx hb dX6_makePlan_19 qI_1 ?_
    refine g_put X hW (ws' := (wX6_makePlan G a_eb a_desk a_desk_weeks a_desk_weeks_a a_desk_routes a_desk_routes_a a_plan a_plan_start a_plan_end a_plan_cost a_plan_room a_plan_idle a_plan_unmet a_plan_gain a_plan_way a_kept a_tape a_text a_mat a_desk_boxes a_desk_words a_desk_offers a_desk_wants a_desk_leaves a_desk_leases a_desk_uses isKept (1 : Int32) today lack rate free weeks_r weeks_f routes_r routes_f o9_pl_arcs o9_pl_lack o9_pl_least o9_pl_start o9_pl_end o9_pl_cost o9_pl_room o9_pl_idle o9_pl_unmet o9_pl_gain o9_pl_way)) pX6_makePlan_51 0 rfl (Nat.le_of_ble_eq_true rfl) (zb_n (v := (1 : Int32)) rfl) (zb_f (v := (1 : Int32)) rfl) rfl dX6_makePlan_20 (fun H locs hW => ?_)
    obtain rfl := Option.some.inj h
    exact g_vret X hW dX6_makePlan_23
theorem kcX6_makePlan {l : Launch} (G : Gt) (a_eb a_desk a_desk_weeks a_desk_weeks_a a_desk_routes a_desk_routes_a a_plan a_plan_start a_plan_end a_plan_cost a_plan_room a_plan_idle a_plan_unmet a_plan_gain a_plan_way a_kept a_tape a_text a_mat a_desk_boxes a_desk_words a_desk_offers a_desk_wants a_desk_leaves a_desk_leases a_desk_uses : Nat)  (isKept : Int32) (planStands : Int32) (today : Int32) (lack : Int32) (rate : Int32) (free : Int32) (weeks_r : Int32) (weeks_f : (Nat → Int32)) (routes_r : Int32) (routes_f : (Nat → Int32)) (pl_arcs : Int32) (pl_lack : Int32) (pl_least : Int32) (pl_start : (Nat → Int32)) (pl_end : (Nat → Int32)) (pl_cost : (Nat → Int32)) (pl_room : (Nat → Int32)) (pl_idle : (Nat → Int32)) (pl_unmet : (Nat → Int32)) (pl_gain : (Nat → Int32)) (pl_way : (Nat → Int32))  {z_planStands : Int32} {z_pl_arcs : Int32} {z_pl_lack : Int32} {z_pl_least : Int32} {z_pl_start : (Nat → Int32)} {z_pl_end : (Nat → Int32)} {z_pl_cost : (Nat → Int32)} {z_pl_room : (Nat → Int32)} {z_pl_idle : (Nat → Int32)} {z_pl_unmet : (Nat → Int32)} {z_pl_gain : (Nat → Int32)} {z_pl_way : (Nat → Int32)} (h : fX6_makePlan planStands lack weeks_r weeks_f routes_r routes_f pl_arcs pl_lack pl_least pl_start pl_end pl_cost pl_room pl_idle pl_unmet pl_gain pl_way = some (z_planStands, z_pl_arcs, z_pl_lack, z_pl_least, z_pl_start, z_pl_end, z_pl_cost, z_pl_room, z_pl_idle, z_pl_unmet, z_pl_gain, z_pl_way)) : CtV G l yX6_makePlan wsX6_makePlan rmX6_makePlan [.ref a_eb] (wX6_makePlan G a_eb a_desk a_desk_weeks a_desk_weeks_a a_desk_routes a_desk_routes_a a_plan a_plan_start a_plan_end a_plan_cost a_plan_room a_plan_idle a_plan_unmet a_plan_gain a_plan_way a_kept a_tape a_text a_mat a_desk_boxes a_desk_words a_desk_offers a_desk_wants a_desk_leaves a_desk_leases a_desk_uses isKept planStands today lack rate free weeks_r weeks_f routes_r routes_f pl_arcs pl_lack pl_least pl_start pl_end pl_cost pl_room pl_idle pl_unmet pl_gain pl_way) (wX6_makePlan G a_eb a_desk a_desk_weeks a_desk_weeks_a a_desk_routes a_desk_routes_a a_plan a_plan_start a_plan_end a_plan_cost a_plan_room a_plan_idle a_plan_unmet a_plan_gain a_plan_way a_kept a_tape a_text a_mat a_desk_boxes a_desk_words a_desk_offers a_desk_wants a_desk_leaves a_desk_leases a_desk_uses isKept z_planStands today lack rate free weeks_r weeks_f routes_r routes_f z_pl_arcs z_pl_lack z_pl_least z_pl_start z_pl_end z_pl_cost z_pl_room z_pl_idle z_pl_unmet z_pl_gain z_pl_way) := k0X6_makePlan G a_eb a_desk a_desk_weeks a_desk_weeks_a a_desk_routes a_desk_routes_a a_plan a_plan_start a_plan_end a_plan_cost a_plan_room a_plan_idle a_plan_unmet a_plan_gain a_plan_way a_kept a_tape a_text a_mat a_desk_boxes a_desk_words a_desk_offers a_desk_wants a_desk_leaves a_desk_leases a_desk_uses isKept planStands today lack rate free weeks_r weeks_f routes_r routes_f pl_arcs pl_lack pl_least pl_start pl_end pl_cost pl_room pl_idle pl_unmet pl_gain pl_way h
end MX6_makePlan
