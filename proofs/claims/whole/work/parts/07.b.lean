/-! EmptyBoxes$Matching.begin -/
section MX2_begin
theorem hdX2_begin : yX2_begin.cls = RX2 ∧ yX2_begin.cls ≠ "java/lang/invoke/MethodHandle" ∧ yX2_begin.cls ≠ "java/lang/invoke/VarHandle" ∧ (parseMethodDescriptor yX2_begin.desc).map (fun d => d.parameters.length) = some 2 := by decide +kernel
abbrev wX2_begin (G : Gt) (a_mat a_mat_score a_mat_best a_mat_given : Nat) (mt_offers : Int32) (mt_wants : Int32) (mt_pairs : Int32) (mt_gap : Int32) (mt_score : (Nat → Int32)) : va_W := [(a_mat, .inr (2, [.ref a_mat_score, .ref a_mat_best, .ref a_mat_given, .int mt_offers, .int mt_wants, .int mt_pairs, .int mt_gap])), (a_mat_score, .inl (G.2.1, 49, .inl mt_score))]
abbrev rmX2_begin : Room := { frames := 1, cells := 0, slots := 0, locals := 21 }
theorem iX2_begin_X2 : ∀ w ∈ wsX20, w ∈ wsX2_begin := by decide +kernel
theorem eX2_begin_9 : Fk wsX2_begin RX2 9 2 0 := ⟨RX2, TX2, 7, rfl, iX2_begin_X2, by decide, by decide +kernel⟩
theorem pX2_begin_30 : Fp wsX2_begin RX2 30 2 3 .int := ⟨RX2, TX2, 7, tyX2, rfl, iX2_begin_X2, by decide, by decide +kernel, tyX2_ok, nmX2, rfl, by decide +kernel⟩
theorem pX2_begin_34 : Fp wsX2_begin RX2 34 2 4 .int := ⟨RX2, TX2, 7, tyX2, rfl, iX2_begin_X2, by decide, by decide +kernel, tyX2_ok, nmX2, rfl, by decide +kernel⟩
theorem cmX2_begin_21 : CkM wsX2_begin RX2 21 Lib.Math.min.name Lib.Math.min.code 2 := by decide +kernel
theorem cmX2_begin_27 : CkM wsX2_begin RX2 27 Lib.Math.max.name Lib.Math.max.code 2 := by decide +kernel
variable {p : Program} {l : Launch} {e : Env} {s : State} {m : MethodId} {args : Array Value} {below : List Frame} {meth : Method} {c : Code} {A : Nat → Prop} {G : Gt} {a_mat a_mat_score a_mat_best a_mat_given : Nat} {mt_pairs : Int32} {mt_gap : Int32} {res : Int32 × Int32 × (Nat → Int32)}
set_option maxHeartbeats 4000000 in
set_option maxRecDepth 100000 in
theorem tX2_begin_30 (X : Bx p s m args meth c cX2_begin 4 wsX2_begin RX2 none) (mt_offers : Int32) (mt_wants : Int32)   : ∀ (n : Nat) (v3 : Int32) (mt_score : (Nat → Int32)), fX2_begin_30 mt_offers mt_wants n v3 mt_score = some res → ∀ (H : Heap) (locs : List Loc), Wo G A s (wX2_begin G a_mat a_mat_score a_mat_best a_mat_given mt_offers mt_wants mt_pairs mt_gap mt_score) H locs → ∀ ls : Array Slot, lv_has ls 4 [(0, .ref a_mat), (3, .int v3)] → W p l e rmX2_begin s m args below meth c H locs 0 0 (QV G A below args s (wX2_begin G a_mat a_mat_score a_mat_best a_mat_given res.1 res.2.1 mt_pairs mt_gap res.2.2)) (F0 m 30 ls []) := by
  obtain ⟨hx, hb, -⟩ := id X.1
  intro n
  induction n with
  | zero => intro v3 mt_score h; rw [fX2_begin_30] at h; cases h
  | succ n ih =>
    intro v3 mt_score h H locs hW ls hl
    rw [fX2_begin_30] at h
    refine lv_iload_n hx hb dX2_begin_30 rfl (lv_at hl 1 rfl) ?_
    refine lv_aload_n hx hb dX2_begin_31 rfl (lv_at hl 0 rfl) ?_
    refine g_get X hW eX2_begin_9 0 rfl rfl dX2_begin_32 ?_
    refine g_alen X hW 1 rfl dX2_begin_35 ?_
    refine lv_icmp_ge (tgt := 53) hx hb dX2_begin_36 (by decide) (fun c5 => ?_) (fun c5 => ?_)
    · have h := (if_pos c5).symm.trans h
      obtain rfl := Option.some.inj h
      exact g_vret X hW dX2_begin_53
    · have h := (if_neg c5).symm.trans h
      refine lv_aload_n hx hb dX2_begin_39 rfl (lv_at hl 0 rfl) ?_
      refine g_get X hW eX2_begin_9 0 rfl rfl dX2_begin_40 ?_
      refine lv_iload_n hx hb dX2_begin_43 rfl (lv_at hl 1 rfl) ?_
      refine lv_bipush hx hb dX2_begin_44 qB_m3 ?_
      obtain ⟨g11, h⟩ := gd_some h
      refine g_ast X hW (ws' := (wX2_begin G a_mat a_mat_score a_mat_best a_mat_given mt_offers mt_wants mt_pairs mt_gap (upd mt_score v3.toNatClampNeg (-3 : Int32)))) 1 rfl g11 rfl dX2_begin_46 (fun H locs hW => ?_)
      refine lv_iinc (v := (v3 + (1 : Int32))) (lv' := [(3, .int (v3 + (1 : Int32))), (0, .ref a_mat)]) hx hb dX2_begin_47 hl (k := 1) rfl (congrArg (fun z => v3 + z) qI_1) (by decide) rfl (fun ls hl => ?_)
      refine lv_goto (tgt := 30) hx hb dX2_begin_50 (by decide) ?_
      exact ih (v3 + (1 : Int32)) (upd mt_score v3.toNatClampNeg (-3 : Int32)) h H locs hW ls (lv_sub hl [1, 0] rfl)
set_option maxHeartbeats 4000000 in
set_option maxRecDepth 100000 in
theorem k0X2_begin {l : Launch} (G : Gt) (a_mat a_mat_score a_mat_best a_mat_given : Nat) (v1 : Int32) (v2 : Int32) (mt_offers : Int32) (mt_wants : Int32) (mt_pairs : Int32) (mt_gap : Int32) (mt_score : (Nat → Int32)) {res : Int32 × Int32 × (Nat → Int32)} (h : fX2_begin v1 v2 mt_offers mt_wants mt_score = some res) : CtV G l yX2_begin wsX2_begin rmX2_begin [.ref a_mat, .int v1, .int v2] (wX2_begin G a_mat a_mat_score a_mat_best a_mat_given mt_offers mt_wants mt_pairs mt_gap mt_score) (wX2_begin G a_mat a_mat_score a_mat_best a_mat_given res.1 res.2.1 mt_pairs mt_gap res.2.2) := by
  refine CtV.mk (cc := cX2_begin) (maxL := 4) (ret := none) (own := RX2) (by decide) rfl rfl (Nat.le_of_ble_eq_true rfl) ?_
  intro p e s m below meth c A X ls hl hW
  obtain ⟨hx, hb, -⟩ := id X.1
  have hl : lv_has ls 4 [(0, .ref a_mat), (1, .int v1), (2, .int v2)] := hl
  generalize hH : s.heap = H at hW ⊢
  generalize hLo : ([] : List Loc) = locs at hW ⊢
  rw [fX2_begin] at h
  refine lv_aload_n hx hb dX2_begin_0 rfl (lv_at hl 0 rfl) ?_
  refine lv_iconst hx hb dX2_begin_1 qI_0 ?_
  refine lv_iload_n hx hb dX2_begin_2 rfl (lv_at hl 1 rfl) ?_
  refine lv_bipush hx hb dX2_begin_3 qB_7 ?_
  refine g_mmin X cmX2_begin_21 hl.1 (Nat.le_of_ble_eq_true rfl) (Nat.le_of_ble_eq_true rfl) ⟨Nat.zero_le _, Nat.zero_le _⟩ dX2_begin_5 ?_
  refine g_mmax X cmX2_begin_27 hl.1 (Nat.le_of_ble_eq_true rfl) (Nat.le_of_ble_eq_true rfl) ⟨Nat.zero_le _, Nat.zero_le _⟩ dX2_begin_8 ?_
  refine g_put X hW (ws' := (wX2_begin G a_mat a_mat_score a_mat_best a_mat_given (imax (0 : Int32) (imin v1 (7 : Int32))) mt_wants mt_pairs mt_gap mt_score)) pX2_begin_30 0 rfl (Nat.le_of_ble_eq_true rfl) rfl rfl rfl dX2_begin_11 (fun H locs hW => ?_)
  refine lv_aload_n hx hb dX2_begin_14 rfl (lv_at hl 0 rfl) ?_
  refine lv_iconst hx hb dX2_begin_15 qI_0 ?_
  refine lv_iload_n hx hb dX2_begin_16 rfl (lv_at hl 2 rfl) ?_
  refine lv_bipush hx hb dX2_begin_17 qB_7 ?_
  refine g_mmin X cmX2_begin_21 hl.1 (Nat.le_of_ble_eq_true rfl) (Nat.le_of_ble_eq_true rfl) ⟨Nat.zero_le _, Nat.zero_le _⟩ dX2_begin_19 ?_
  refine g_mmax X cmX2_begin_27 hl.1 (Nat.le_of_ble_eq_true rfl) (Nat.le_of_ble_eq_true rfl) ⟨Nat.zero_le _, Nat.zero_le _⟩ dX2_begin_22 ?_
  refine g_put X hW (ws' := (wX2_begin G a_mat a_mat_score a_mat_best a_mat_given (imax (0 : Int32) (imin v1 (7 : Int32))) (imax (0 : Int32) (imin v2 (7 : Int32))) mt_pairs mt_gap mt_score)) pX2_begin_34 0 rfl (Nat.le_of_ble_eq_true rfl) rfl rfl rfl dX2_begin_25 (fun H locs hW => ?_)
  refine lv_iconst hx hb dX2_begin_28 qI_0 ?_
  refine lv_istore_n (lv' := [(3, .int (0 : Int32)), (0, .ref a_mat), (1, .int v1), (2, .int v2)]) hx hb dX2_begin_29 rfl hl (by decide) rfl (fun ls hl => ?_)
  exact tX2_begin_30 X (imax (0 : Int32) (imin v1 (7 : Int32))) (imax (0 : Int32) (imin v2 (7 : Int32))) FU (0 : Int32) mt_score h H locs hW ls (lv_sub hl [1, 0] rfl)
theorem kcX2_begin {l : Launch} (G : Gt) (a_mat a_mat_score a_mat_best a_mat_given : Nat) (v1 : Int32) (v2 : Int32) (mt_offers : Int32) (mt_wants : Int32) (mt_pairs : Int32) (mt_gap : Int32) (mt_score : (Nat → Int32))  {z_mt_offers : Int32} {z_mt_wants : Int32} {z_mt_score : (Nat → Int32)} (h : fX2_begin v1 v2 mt_offers mt_wants mt_score = some (z_mt_offers, z_mt_wants, z_mt_score)) : CtV G l yX2_begin wsX2_begin rmX2_begin [.ref a_mat, .int v1, .int v2] (wX2_begin G a_mat a_mat_score a_mat_best a_mat_given mt_offers mt_wants mt_pairs mt_gap mt_score) (wX2_begin G a_mat a_mat_score a_mat_best a_mat_given z_mt_offers z_mt_wants mt_pairs mt_gap z_mt_score) := k0X2_begin G a_mat a_mat_score a_mat_best a_mat_given v1 v2 mt_offers mt_wants mt_pairs mt_gap mt_score h
end MX2_begin
/-! EmptyBoxes$Matching.allow -/
section MX2_allow
theorem hdX2_allow : yX2_allow.cls = RX2 ∧ yX2_allow.cls ≠ "java/lang/invoke/MethodHandle" ∧ yX2_allow.cls ≠ "java/lang/invoke/VarHandle" ∧ (parseMethodDescriptor yX2_allow.desc).map (fun d => d.parameters.length) = some 3 := by decide +kernel
abbrev wX2_allow (G : Gt) (a_mat a_mat_score a_mat_best a_mat_given : Nat) (mt_offers : Int32) (mt_wants : Int32) (mt_pairs : Int32) (mt_gap : Int32) (mt_score : (Nat → Int32)) : va_W := [(a_mat, .inr (2, [.ref a_mat_score, .ref a_mat_best, .ref a_mat_given, .int mt_offers, .int mt_wants, .int mt_pairs, .int mt_gap])), (a_mat_score, .inl (G.2.1, 49, .inl mt_score))]
abbrev rmX2_allow : Room := { frames := 1, cells := 0, slots := 0, locals := 22 }
theorem iX2_allow_X2 : ∀ w ∈ wsX20, w ∈ wsX2_allow := by decide +kernel
theorem eX2_allow_30 : Fk wsX2_allow RX2 30 2 3 := ⟨RX2, TX2, 7, rfl, iX2_allow_X2, by decide, by decide +kernel⟩
theorem eX2_allow_34 : Fk wsX2_allow RX2 34 2 4 := ⟨RX2, TX2, 7, rfl, iX2_allow_X2, by decide, by decide +kernel⟩
theorem eX2_allow_9 : Fk wsX2_allow RX2 9 2 0 := ⟨RX2, TX2, 7, rfl, iX2_allow_X2, by decide, by decide +kernel⟩
theorem ckX2_allow_X6_isWithin_37 : CkN wsX2_allow RX2 37 yX6_isWithin wsX6_isWithin cX6_isWithin 3 (some .boolean) 3 := ⟨"EmptyBoxes", _, by decide +kernel, by decide +kernel, by decide +kernel, gX2_allow_X6_isWithin_n37, rfl, hdX6_isWithin.2⟩
variable {p : Program} {l : Launch} {e : Env} {s : State} {m : MethodId} {args : Array Value} {below : List Frame} {meth : Method} {c : Code} {A : Nat → Prop} {G : Gt} {a_mat a_mat_score a_mat_best a_mat_given : Nat} {mt_offers : Int32} {mt_wants : Int32} {mt_pairs : Int32} {mt_gap : Int32} {res : (Nat → Int32)}
set_option maxHeartbeats 4000000 in
set_option maxRecDepth 100000 in
theorem k0X2_allow {l : Launch} (G : Gt) (a_mat a_mat_score a_mat_best a_mat_given : Nat) (v1 : Int32) (v2 : Int32) (v3 : Int32) (mt_offers : Int32) (mt_wants : Int32) (mt_pairs : Int32) (mt_gap : Int32) (mt_score : (Nat → Int32)) {res : (Nat → Int32)} (h : fX2_allow v1 v2 v3 mt_offers mt_wants mt_score = some res) : CtV G l yX2_allow wsX2_allow rmX2_allow [.ref a_mat, .int v1, .int v2, .int v3] (wX2_allow G a_mat a_mat_score a_mat_best a_mat_given mt_offers mt_wants mt_pairs mt_gap mt_score) (wX2_allow G a_mat a_mat_score a_mat_best a_mat_given mt_offers mt_wants mt_pairs mt_gap res) := by
  refine CtV.mk (cc := cX2_allow) (maxL := 4) (ret := none) (own := RX2) (by decide) rfl rfl (Nat.le_of_ble_eq_true rfl) ?_
  intro p e s m below meth c A X ls hl hW
  obtain ⟨hx, hb, -⟩ := id X.1
  have hl : lv_has ls 4 [(0, .ref a_mat), (1, .int v1), (2, .int v2), (3, .int v3)] := hl
  generalize hH : s.heap = H at hW ⊢
  generalize hLo : ([] : List Loc) = locs at hW ⊢
  rw [fX2_allow] at h
  refine lv_iload_n hx hb dX2_allow_0 rfl (lv_at hl 1 rfl) ?_
  refine lv_iconst hx hb dX2_allow_1 qI_0 ?_
  refine lv_aload_n hx hb dX2_allow_2 rfl (lv_at hl 0 rfl) ?_
  refine g_get X hW eX2_allow_30 0 rfl rfl dX2_allow_3 ?_
  refine lv_iconst hx hb dX2_allow_6 qI_1 ?_
  refine lv_isub hx hb dX2_allow_7 ?_
  obtain ⟨r7, hq, h⟩ := bn1_some h
  refine g_cni X hW (As := [.int v1, .int (0 : Int32), .int (mt_offers - (1 : Int32))]) (ws' := (wX2_allow G a_mat a_mat_score a_mat_best a_mat_given mt_offers mt_wants mt_pairs mt_gap mt_score)) ckX2_allow_X6_isWithin_37 (kcX6_isWithin (l := l) G v1 (0 : Int32) (mt_offers - (1 : Int32)) hq) ⟨rfl, rfl, Nat.le_of_ble_eq_true rfl, Nat.le_of_ble_eq_true rfl⟩ [] rfl rfl rfl rfl rfl rfl hl.1 (Nat.le_of_ble_eq_true rfl) ⟨Nat.zero_le _, Nat.zero_le _⟩ dX2_allow_8 (fun H locs hW => ?_)
  refine lv_if_eq (tgt := 44) hx hb dX2_allow_11 (by decide) (fun c8 => ?_) (fun c8 => ?_)
  · have h := (if_pos c8).symm.trans h
    obtain rfl := Option.some.inj h
    exact g_vret X hW dX2_allow_44
  · have h := (if_neg c8).symm.trans h
    refine lv_iload_n hx hb dX2_allow_14 rfl (lv_at hl 2 rfl) ?_
    refine lv_iconst hx hb dX2_allow_15 qI_0 ?_
    refine lv_aload_n hx hb dX2_allow_16 rfl (lv_at hl 0 rfl) ?_
    refine g_get X hW eX2_allow_34 0 rfl rfl dX2_allow_17 ?_
    refine lv_iconst hx hb dX2_allow_20 qI_1 ?_
    refine lv_isub hx hb dX2_allow_21 ?_
    obtain ⟨r16, hq, h⟩ := bn1_some h
    refine g_cni X hW (As := [.int v2, .int (0 : Int32), .int (mt_wants - (1 : Int32))]) (ws' := (wX2_allow G a_mat a_mat_score a_mat_best a_mat_given mt_offers mt_wants mt_pairs mt_gap mt_score)) ckX2_allow_X6_isWithin_37 (kcX6_isWithin (l := l) G v2 (0 : Int32) (mt_wants - (1 : Int32)) hq) ⟨rfl, rfl, Nat.le_of_ble_eq_true rfl, Nat.le_of_ble_eq_true rfl⟩ [] rfl rfl rfl rfl rfl rfl hl.1 (Nat.le_of_ble_eq_true rfl) ⟨Nat.zero_le _, Nat.zero_le _⟩ dX2_allow_22 (fun H locs hW => ?_)
    refine lv_if_eq (tgt := 44) hx hb dX2_allow_25 (by decide) (fun c17 => ?_) (fun c17 => ?_)
    · have h := (if_pos c17).symm.trans h
      obtain rfl := Option.some.inj h
      exact g_vret X hW dX2_allow_44
    · have h := (if_neg c17).symm.trans h
      refine lv_aload_n hx hb dX2_allow_28 rfl (lv_at hl 0 rfl) ?_
      refine g_get X hW eX2_allow_9 0 rfl rfl dX2_allow_29 ?_
      refine lv_iload_n hx hb dX2_allow_32 rfl (lv_at hl 1 rfl) ?_
      refine lv_bipush hx hb dX2_allow_33 qB_7 ?_
      refine lv_imul hx hb dX2_allow_35 ?_
      refine lv_iload_n hx hb dX2_allow_36 rfl (lv_at hl 2 rfl) ?_
      refine lv_iadd hx hb dX2_allow_37 ?_
      refine lv_sipush hx hb dX2_allow_38 qS_10000 ?_
      refine lv_iload_n hx hb dX2_allow_41 rfl (lv_at hl 3 rfl) ?_
      refine lv_isub hx hb dX2_allow_42 ?_
      obtain ⟨g29, h⟩ := gd_some h
      refine g_ast X hW (ws' := (wX2_allow G a_mat a_mat_score a_mat_best a_mat_given mt_offers mt_wants mt_pairs mt_gap (upd mt_score ((v1 * (7 : Int32)) + v2).toNatClampNeg ((10000 : Int32) - v3)))) 1 rfl g29 rfl dX2_allow_43 (fun H locs hW => ?_)
      obtain rfl := Option.some.inj h
      exact g_vret X hW dX2_allow_44
theorem kcX2_allow {l : Launch} (G : Gt) (a_mat a_mat_score a_mat_best a_mat_given : Nat) (v1 : Int32) (v2 : Int32) (v3 : Int32) (mt_offers : Int32) (mt_wants : Int32) (mt_pairs : Int32) (mt_gap : Int32) (mt_score : (Nat → Int32))  {z_mt_score : (Nat → Int32)} (h : fX2_allow v1 v2 v3 mt_offers mt_wants mt_score = some z_mt_score) : CtV G l yX2_allow wsX2_allow rmX2_allow [.ref a_mat, .int v1, .int v2, .int v3] (wX2_allow G a_mat a_mat_score a_mat_best a_mat_given mt_offers mt_wants mt_pairs mt_gap mt_score) (wX2_allow G a_mat a_mat_score a_mat_best a_mat_given mt_offers mt_wants mt_pairs mt_gap z_mt_score) := k0X2_allow G a_mat a_mat_score a_mat_best a_mat_given v1 v2 v3 mt_offers mt_wants mt_pairs mt_gap mt_score h
end MX2_allow
/-! EmptyBoxes$Matching.wantOf -/
section MX2_wantOf
theorem hdX2_wantOf : yX2_wantOf.cls = RX2 ∧ yX2_wantOf.cls ≠ "java/lang/invoke/MethodHandle" ∧ yX2_wantOf.cls ≠ "java/lang/invoke/VarHandle" ∧ (parseMethodDescriptor yX2_wantOf.desc).map (fun d => d.parameters.length) = some 1 := by decide +kernel
abbrev wX2_wantOf (G : Gt) (a_mat a_mat_given a_mat_score a_mat_best : Nat) (mt_offers : Int32) (mt_wants : Int32) (mt_pairs : Int32) (mt_gap : Int32) (mt_given : (Nat → Int32)) : va_W := [(a_mat, .inr (2, [.ref a_mat_score, .ref a_mat_best, .ref a_mat_given, .int mt_offers, .int mt_wants, .int mt_pairs, .int mt_gap])), (a_mat_given, .inl (G.2.1, 7, .inl mt_given))]
abbrev rmX2_wantOf : Room := { frames := 1, cells := 0, slots := 0, locals := 22 }
theorem iX2_wantOf_X2 : ∀ w ∈ wsX20, w ∈ wsX2_wantOf := by decide +kernel
theorem eX2_wantOf_18 : Fk wsX2_wantOf RX2 18 2 2 := ⟨RX2, TX2, 7, rfl, iX2_wantOf_X2, by decide, by decide +kernel⟩
theorem eX2_wantOf_30 : Fk wsX2_wantOf RX2 30 2 3 := ⟨RX2, TX2, 7, rfl, iX2_wantOf_X2, by decide, by decide +kernel⟩
theorem ckX2_wantOf_X6_isWithin_37 : CkN wsX2_wantOf RX2 37 yX6_isWithin wsX6_isWithin cX6_isWithin 3 (some .boolean) 3 := ⟨"EmptyBoxes", _, by decide +kernel, by decide +kernel, by decide +kernel, gX2_wantOf_X6_isWithin_n37, rfl, hdX6_isWithin.2⟩
variable {p : Program} {l : Launch} {e : Env} {s : State} {m : MethodId} {args : Array Value} {below : List Frame} {meth : Method} {c : Code} {A : Nat → Prop} {G : Gt} {a_mat a_mat_given a_mat_score a_mat_best : Nat} {mt_offers : Int32} {mt_wants : Int32} {mt_pairs : Int32} {mt_gap : Int32} {mt_given : (Nat → Int32)} {res : Int32}
set_option maxHeartbeats 4000000 in
set_option maxRecDepth 100000 in
theorem k0X2_wantOf {l : Launch} (G : Gt) (a_mat a_mat_given a_mat_score a_mat_best : Nat) (v1 : Int32) (mt_offers : Int32) (mt_wants : Int32) (mt_pairs : Int32) (mt_gap : Int32) (mt_given : (Nat → Int32)) {res : Int32} (h : fX2_wantOf v1 mt_offers mt_given = some res) : CtI G l yX2_wantOf wsX2_wantOf rmX2_wantOf [.ref a_mat, .int v1] (wX2_wantOf G a_mat a_mat_given a_mat_score a_mat_best mt_offers mt_wants mt_pairs mt_gap mt_given) res (wX2_wantOf G a_mat a_mat_given a_mat_score a_mat_best mt_offers mt_wants mt_pairs mt_gap mt_given) := by
  refine CtI.mk (cc := cX2_wantOf) (maxL := 2) (ret := (some .int)) (own := RX2) (by decide) rfl rfl (Nat.le_of_ble_eq_true rfl) ?_
  intro p e s m below meth c A X ls hl hW
  obtain ⟨hx, hb, -⟩ := id X.1
  have hl : lv_has ls 2 [(0, .ref a_mat), (1, .int v1)] := hl
  generalize hH : s.heap = H at hW ⊢
  generalize hLo : ([] : List Loc) = locs at hW ⊢
  rw [fX2_wantOf] at h
  refine lv_iload_n hx hb dX2_wantOf_0 rfl (lv_at hl 1 rfl) ?_
  refine lv_iconst hx hb dX2_wantOf_1 qI_0 ?_
  refine lv_aload_n hx hb dX2_wantOf_2 rfl (lv_at hl 0 rfl) ?_
  refine g_get X hW eX2_wantOf_30 0 rfl rfl dX2_wantOf_3 ?_
  refine lv_iconst hx hb dX2_wantOf_6 qI_1 ?_
  refine lv_isub hx hb dX2_wantOf_7 ?_
  obtain ⟨r7, hq, h⟩ := bn1_some h
  refine g_cni X hW (As := [.int v1, .int (0 : Int32), .int (mt_offers - (1 : Int32))]) (ws' := (wX2_wantOf G a_mat a_mat_given a_mat_score a_mat_best mt_offers mt_wants mt_pairs mt_gap mt_given)) ckX2_wantOf_X6_isWithin_37 (kcX6_isWithin (l := l) G v1 (0 : Int32) (mt_offers - (1 : Int32)) hq) ⟨rfl, rfl, Nat.le_of_ble_eq_true rfl, Nat.le_of_ble_eq_true rfl⟩ [] rfl rfl rfl rfl rfl rfl hl.1 (Nat.le_of_ble_eq_true rfl) ⟨Nat.zero_le _, Nat.zero_le _⟩ dX2_wantOf_8 (fun H locs hW => ?_)
  refine lv_if_eq (tgt := 23) hx hb dX2_wantOf_11 (by decide) (fun c8 => ?_) (fun c8 => ?_)
  · have h := (if_pos c8).symm.trans h
    refine lv_bipush hx hb dX2_wantOf_23 qB_m3 ?_
    obtain rfl := Option.some.inj h
    exact g_iret X hW dX2_wantOf_25
  · have h := (if_neg c8).symm.trans h
    refine lv_aload_n hx hb dX2_wantOf_14 rfl (lv_at hl 0 rfl) ?_
    refine g_get X hW eX2_wantOf_18 0 rfl rfl dX2_wantOf_15 ?_
    refine lv_iload_n hx hb dX2_wantOf_18 rfl (lv_at hl 1 rfl) ?_
    obtain ⟨g14, h⟩ := gd_some h
    refine g_ald X hW 1 rfl g14 dX2_wantOf_19 ?_
    refine lv_goto (tgt := 25) hx hb dX2_wantOf_20 (by decide) ?_
    obtain rfl := Option.some.inj h
    exact g_iret X hW dX2_wantOf_25
theorem kcX2_wantOf {l : Launch} (G : Gt) (a_mat a_mat_given a_mat_score a_mat_best : Nat) (v1 : Int32) (mt_offers : Int32) (mt_wants : Int32) (mt_pairs : Int32) (mt_gap : Int32) (mt_given : (Nat → Int32)) {r : Int32}  (h : fX2_wantOf v1 mt_offers mt_given = some r) : CtI G l yX2_wantOf wsX2_wantOf rmX2_wantOf [.ref a_mat, .int v1] (wX2_wantOf G a_mat a_mat_given a_mat_score a_mat_best mt_offers mt_wants mt_pairs mt_gap mt_given) r (wX2_wantOf G a_mat a_mat_given a_mat_score a_mat_best mt_offers mt_wants mt_pairs mt_gap mt_given) := k0X2_wantOf G a_mat a_mat_given a_mat_score a_mat_best v1 mt_offers mt_wants mt_pairs mt_gap mt_given h
end MX2_wantOf
/-! EmptyBoxes$Matching.isOpen -/
section MX2_isOpen
theorem hdX2_isOpen : yX2_isOpen.cls = RX2 ∧ yX2_isOpen.cls ≠ "java/lang/invoke/MethodHandle" ∧ yX2_isOpen.cls ≠ "java/lang/invoke/VarHandle" ∧ (parseMethodDescriptor yX2_isOpen.desc).map (fun d => d.parameters.length) = some 3 := by decide +kernel
abbrev wX2_isOpen (G : Gt) (a_mat a_mat_score a_mat_best a_mat_given : Nat) (mt_offers : Int32) (mt_wants : Int32) (mt_pairs : Int32) (mt_gap : Int32) (mt_score : (Nat → Int32)) : va_W := [(a_mat, .inr (2, [.ref a_mat_score, .ref a_mat_best, .ref a_mat_given, .int mt_offers, .int mt_wants, .int mt_pairs, .int mt_gap])), (a_mat_score, .inl (G.2.1, 49, .inl mt_score))]
abbrev rmX2_isOpen : Room := { frames := 0, cells := 0, slots := 0, locals := 0 }
theorem iX2_isOpen_X2 : ∀ w ∈ wsX20, w ∈ wsX2_isOpen := by decide +kernel
theorem eX2_isOpen_9 : Fk wsX2_isOpen RX2 9 2 0 := ⟨RX2, TX2, 7, rfl, iX2_isOpen_X2, by decide, by decide +kernel⟩
variable {p : Program} {l : Launch} {e : Env} {s : State} {m : MethodId} {args : Array Value} {below : List Frame} {meth : Method} {c : Code} {A : Nat → Prop} {G : Gt} {a_mat a_mat_score a_mat_best a_mat_given : Nat} {mt_offers : Int32} {mt_wants : Int32} {mt_pairs : Int32} {mt_gap : Int32} {mt_score : (Nat → Int32)} {res : Int32}
set_option maxHeartbeats 4000000 in
set_option maxRecDepth 100000 in
theorem k0X2_isOpen {l : Launch} (G : Gt) (a_mat a_mat_score a_mat_best a_mat_given : Nat) (v1 : Int32) (v2 : Int32) (v3 : Int32) (mt_offers : Int32) (mt_wants : Int32) (mt_pairs : Int32) (mt_gap : Int32) (mt_score : (Nat → Int32)) {res : Int32} (h : fX2_isOpen v1 v2 v3 mt_score = some res) : CtI G l yX2_isOpen wsX2_isOpen rmX2_isOpen [.ref a_mat, .int v1, .int v2, .int v3] (wX2_isOpen G a_mat a_mat_score a_mat_best a_mat_given mt_offers mt_wants mt_pairs mt_gap mt_score) res (wX2_isOpen G a_mat a_mat_score a_mat_best a_mat_given mt_offers mt_wants mt_pairs mt_gap mt_score) := by
  refine CtI.mk (cc := cX2_isOpen) (maxL := 4) (ret := (some .boolean)) (own := RX2) (by decide) rfl rfl (Nat.le_of_ble_eq_true rfl) ?_
  intro p e s m below meth c A X ls hl hW
  obtain ⟨hx, hb, -⟩ := id X.1
  have hl : lv_has ls 4 [(0, .ref a_mat), (1, .int v1), (2, .int v2), (3, .int v3)] := hl
  generalize hH : s.heap = H at hW ⊢
  generalize hLo : ([] : List Loc) = locs at hW ⊢
  rw [fX2_isOpen] at h
  refine lv_iload_n hx hb dX2_isOpen_0 rfl (lv_at hl 3 rfl) ?_
  refine lv_iconst hx hb dX2_isOpen_1 qI_1 ?_
  refine lv_iload_n hx hb dX2_isOpen_2 rfl (lv_at hl 2 rfl) ?_
  refine g_ishl hx hb dX2_isOpen_3 ?_
  refine lv_iand hx hb dX2_isOpen_4 ?_
  refine lv_if_ne (tgt := 26) hx hb dX2_isOpen_5 (by decide) (fun c6 => ?_) (fun c6 => ?_)
  · have h := (if_neg c6).symm.trans h
    refine lv_iconst hx hb dX2_isOpen_26 qI_0 ?_
    obtain rfl := Option.some.inj h
    exact g_zret X hW rfl dX2_isOpen_27
  · have h := (if_pos c6).symm.trans h
    refine lv_aload_n hx hb dX2_isOpen_8 rfl (lv_at hl 0 rfl) ?_
    refine g_get X hW eX2_isOpen_9 0 rfl rfl dX2_isOpen_9 ?_
    refine lv_iload_n hx hb dX2_isOpen_12 rfl (lv_at hl 1 rfl) ?_
    refine lv_bipush hx hb dX2_isOpen_13 qB_7 ?_
    refine lv_imul hx hb dX2_isOpen_15 ?_
    refine lv_iload_n hx hb dX2_isOpen_16 rfl (lv_at hl 2 rfl) ?_
    refine lv_iadd hx hb dX2_isOpen_17 ?_
    obtain ⟨g16, h⟩ := gd_some h
    refine g_ald X hW 1 rfl g16 dX2_isOpen_18 ?_
    refine lv_if_lt (tgt := 26) hx hb dX2_isOpen_19 (by decide) (fun c17 => ?_) (fun c17 => ?_)
    · have h := (if_pos c17).symm.trans h
      refine lv_iconst hx hb dX2_isOpen_26 qI_0 ?_
      obtain rfl := Option.some.inj h
      exact g_zret X hW rfl dX2_isOpen_27
    · have h := (if_neg c17).symm.trans h
      refine lv_iconst hx hb dX2_isOpen_22 qI_1 ?_
      refine lv_goto (tgt := 27) hx hb dX2_isOpen_23 (by decide) ?_
      obtain rfl := Option.some.inj h
      exact g_zret X hW rfl dX2_isOpen_27
theorem kcX2_isOpen {l : Launch} (G : Gt) (a_mat a_mat_score a_mat_best a_mat_given : Nat) (v1 : Int32) (v2 : Int32) (v3 : Int32) (mt_offers : Int32) (mt_wants : Int32) (mt_pairs : Int32) (mt_gap : Int32) (mt_score : (Nat → Int32)) {r : Int32}  (h : fX2_isOpen v1 v2 v3 mt_score = some r) : CtI G l yX2_isOpen wsX2_isOpen rmX2_isOpen [.ref a_mat, .int v1, .int v2, .int v3] (wX2_isOpen G a_mat a_mat_score a_mat_best a_mat_given mt_offers mt_wants mt_pairs mt_gap mt_score) r (wX2_isOpen G a_mat a_mat_score a_mat_best a_mat_given mt_offers mt_wants mt_pairs mt_gap mt_score) := k0X2_isOpen G a_mat a_mat_score a_mat_best a_mat_given v1 v2 v3 mt_offers mt_wants mt_pairs mt_gap mt_score h
end MX2_isOpen
/-! EmptyBoxes$Matching.scoreWith -/
section MX2_scoreWith
theorem hdX2_scoreWith : yX2_scoreWith.cls = RX2 ∧ yX2_scoreWith.cls ≠ "java/lang/invoke/MethodHandle" ∧ yX2_scoreWith.cls ≠ "java/lang/invoke/VarHandle" ∧ (parseMethodDescriptor yX2_scoreWith.desc).map (fun d => d.parameters.length) = some 3 := by decide +kernel
abbrev wX2_scoreWith (G : Gt) (a_mat a_mat_score a_mat_best a_mat_given : Nat) (mt_offers : Int32) (mt_wants : Int32) (mt_pairs : Int32) (mt_gap : Int32) (mt_score : (Nat → Int32)) (mt_best : (Nat → Int32)) : va_W := [(a_mat, .inr (2, [.ref a_mat_score, .ref a_mat_best, .ref a_mat_given, .int mt_offers, .int mt_wants, .int mt_pairs, .int mt_gap])), (a_mat_score, .inl (G.2.1, 49, .inl mt_score)), (a_mat_best, .inl (G.2.1, 1024, .inl mt_best))]
abbrev rmX2_scoreWith : Room := { frames := 0, cells := 0, slots := 0, locals := 0 }
theorem iX2_scoreWith_X2 : ∀ w ∈ wsX20, w ∈ wsX2_scoreWith := by decide +kernel
theorem eX2_scoreWith_15 : Fk wsX2_scoreWith RX2 15 2 1 := ⟨RX2, TX2, 7, rfl, iX2_scoreWith_X2, by decide, by decide +kernel⟩
theorem eX2_scoreWith_9 : Fk wsX2_scoreWith RX2 9 2 0 := ⟨RX2, TX2, 7, rfl, iX2_scoreWith_X2, by decide, by decide +kernel⟩
variable {p : Program} {l : Launch} {e : Env} {s : State} {m : MethodId} {args : Array Value} {below : List Frame} {meth : Method} {c : Code} {A : Nat → Prop} {G : Gt} {a_mat a_mat_score a_mat_best a_mat_given : Nat} {mt_offers : Int32} {mt_wants : Int32} {mt_pairs : Int32} {mt_gap : Int32} {mt_score : (Nat → Int32)} {mt_best : (Nat → Int32)} {res : Int32}
set_option maxHeartbeats 4000000 in
set_option maxRecDepth 100000 in
theorem k0X2_scoreWith {l : Launch} (G : Gt) (a_mat a_mat_score a_mat_best a_mat_given : Nat) (v1 : Int32) (v2 : Int32) (v3 : Int32) (mt_offers : Int32) (mt_wants : Int32) (mt_pairs : Int32) (mt_gap : Int32) (mt_score : (Nat → Int32)) (mt_best : (Nat → Int32)) {res : Int32} (h : fX2_scoreWith v1 v2 v3 mt_score mt_best = some res) : CtI G l yX2_scoreWith wsX2_scoreWith rmX2_scoreWith [.ref a_mat, .int v1, .int v2, .int v3] (wX2_scoreWith G a_mat a_mat_score a_mat_best a_mat_given mt_offers mt_wants mt_pairs mt_gap mt_score mt_best) res (wX2_scoreWith G a_mat a_mat_score a_mat_best a_mat_given mt_offers mt_wants mt_pairs mt_gap mt_score mt_best) := by
  refine CtI.mk (cc := cX2_scoreWith) (maxL := 4) (ret := (some .int)) (own := RX2) (by decide) rfl rfl (Nat.le_of_ble_eq_true rfl) ?_
  intro p e s m below meth c A X ls hl hW
  obtain ⟨hx, hb, -⟩ := id X.1
  have hl : lv_has ls 4 [(0, .ref a_mat), (1, .int v1), (2, .int v2), (3, .int v3)] := hl
  generalize hH : s.heap = H at hW ⊢
  generalize hLo : ([] : List Loc) = locs at hW ⊢
  rw [fX2_scoreWith] at h
  refine lv_aload_n hx hb dX2_scoreWith_0 rfl (lv_at hl 0 rfl) ?_
  refine g_get X hW eX2_scoreWith_9 0 rfl rfl dX2_scoreWith_1 ?_
  refine lv_iload_n hx hb dX2_scoreWith_4 rfl (lv_at hl 1 rfl) ?_
  refine lv_bipush hx hb dX2_scoreWith_5 qB_7 ?_
  refine lv_imul hx hb dX2_scoreWith_7 ?_
  refine lv_iload_n hx hb dX2_scoreWith_8 rfl (lv_at hl 2 rfl) ?_
  refine lv_iadd hx hb dX2_scoreWith_9 ?_
  obtain ⟨g8, h⟩ := gd_some h
  refine g_ald X hW 1 rfl g8 dX2_scoreWith_10 ?_
  refine lv_aload_n hx hb dX2_scoreWith_11 rfl (lv_at hl 0 rfl) ?_
  refine g_get X hW eX2_scoreWith_15 0 rfl rfl dX2_scoreWith_12 ?_
  refine lv_iload_n hx hb dX2_scoreWith_15 rfl (lv_at hl 1 rfl) ?_
  refine lv_iconst hx hb dX2_scoreWith_16 qI_1 ?_
  refine lv_iadd hx hb dX2_scoreWith_17 ?_
  refine lv_sipush hx hb dX2_scoreWith_18 qS_128 ?_
  refine lv_imul hx hb dX2_scoreWith_21 ?_
  refine lv_iload_n hx hb dX2_scoreWith_22 rfl (lv_at hl 3 rfl) ?_
  refine lv_iconst hx hb dX2_scoreWith_23 qI_1 ?_
  refine lv_iload_n hx hb dX2_scoreWith_24 rfl (lv_at hl 2 rfl) ?_
  refine g_ishl hx hb dX2_scoreWith_25 ?_
  refine lv_ior hx hb dX2_scoreWith_26 ?_
  refine lv_iadd hx hb dX2_scoreWith_27 ?_
  obtain ⟨g22, h⟩ := gd_some h
  refine g_ald X hW 2 rfl g22 dX2_scoreWith_28 ?_
  refine lv_iadd hx hb dX2_scoreWith_29 ?_
  obtain rfl := Option.some.inj h
  exact g_iret X hW dX2_scoreWith_30
theorem kcX2_scoreWith {l : Launch} (G : Gt) (a_mat a_mat_score a_mat_best a_mat_given : Nat) (v1 : Int32) (v2 : Int32) (v3 : Int32) (mt_offers : Int32) (mt_wants : Int32) (mt_pairs : Int32) (mt_gap : Int32) (mt_score : (Nat → Int32)) (mt_best : (Nat → Int32)) {r : Int32}  (h : fX2_scoreWith v1 v2 v3 mt_score mt_best = some r) : CtI G l yX2_scoreWith wsX2_scoreWith rmX2_scoreWith [.ref a_mat, .int v1, .int v2, .int v3] (wX2_scoreWith G a_mat a_mat_score a_mat_best a_mat_given mt_offers mt_wants mt_pairs mt_gap mt_score mt_best) r (wX2_scoreWith G a_mat a_mat_score a_mat_best a_mat_given mt_offers mt_wants mt_pairs mt_gap mt_score mt_best) := k0X2_scoreWith G a_mat a_mat_score a_mat_best a_mat_given v1 v2 v3 mt_offers mt_wants mt_pairs mt_gap mt_score mt_best h
end MX2_scoreWith
/-! EmptyBoxes$Matching.bestFrom -/
section MX2_bestFrom
theorem hdX2_bestFrom : yX2_bestFrom.cls = RX2 ∧ yX2_bestFrom.cls ≠ "java/lang/invoke/MethodHandle" ∧ yX2_bestFrom.cls ≠ "java/lang/invoke/VarHandle" ∧ (parseMethodDescriptor yX2_bestFrom.desc).map (fun d => d.parameters.length) = some 2 := by decide +kernel
abbrev wX2_bestFrom (G : Gt) (a_mat a_mat_score a_mat_best a_mat_given : Nat) (mt_offers : Int32) (mt_wants : Int32) (mt_pairs : Int32) (mt_gap : Int32) (mt_score : (Nat → Int32)) (mt_best : (Nat → Int32)) : va_W := [(a_mat, .inr (2, [.ref a_mat_score, .ref a_mat_best, .ref a_mat_given, .int mt_offers, .int mt_wants, .int mt_pairs, .int mt_gap])), (a_mat_score, .inl (G.2.1, 49, .inl mt_score)), (a_mat_best, .inl (G.2.1, 1024, .inl mt_best))]
abbrev rmX2_bestFrom : Room := { frames := 1, cells := 0, slots := 0, locals := 23 }
theorem iX2_bestFrom_X2 : ∀ w ∈ wsX20, w ∈ wsX2_bestFrom := by decide +kernel
theorem eX2_bestFrom_15 : Fk wsX2_bestFrom RX2 15 2 1 := ⟨RX2, TX2, 7, rfl, iX2_bestFrom_X2, by decide, by decide +kernel⟩
theorem eX2_bestFrom_34 : Fk wsX2_bestFrom RX2 34 2 4 := ⟨RX2, TX2, 7, rfl, iX2_bestFrom_X2, by decide, by decide +kernel⟩
theorem ckX2_bestFrom_X2_isOpen_53 : CkV wsX2_bestFrom RX2 53 yX2_isOpen wsX2_isOpen cX2_isOpen 4 (some .boolean) 3 2 := ⟨RX2, TX2, 7, _, rfl, gX2_bestFrom_X2_isOpen, rfl, hdX2_isOpen⟩
theorem ckX2_bestFrom_X2_scoreWith_56 : CkV wsX2_bestFrom RX2 56 yX2_scoreWith wsX2_scoreWith cX2_scoreWith 4 (some .int) 3 2 := ⟨RX2, TX2, 7, _, rfl, gX2_bestFrom_X2_scoreWith, rfl, hdX2_scoreWith⟩
theorem cmX2_bestFrom_27 : CkM wsX2_bestFrom RX2 27 Lib.Math.max.name Lib.Math.max.code 2 := by decide +kernel
variable {p : Program} {l : Launch} {e : Env} {s : State} {m : MethodId} {args : Array Value} {below : List Frame} {meth : Method} {c : Code} {A : Nat → Prop} {G : Gt} {a_mat a_mat_score a_mat_best a_mat_given : Nat} {mt_offers : Int32} {mt_wants : Int32} {mt_pairs : Int32} {mt_gap : Int32} {mt_score : (Nat → Int32)} {mt_best : (Nat → Int32)} {res : Int32}
set_option maxHeartbeats 4000000 in
set_option maxRecDepth 100000 in
theorem tX2_bestFrom_51 (X : Bx p s m args meth c cX2_bestFrom 5 wsX2_bestFrom RX2 (some .int)) (v1 : Int32) (v2 : Int32) (v3 : Int32) (v4 : Int32) (k_18 : Int32 → Int32 → Option (Int32)) (Hk_18 : ∀ (v3 : Int32) (v4 : Int32), k_18 v3 v4 = some res → ∀ (H : Heap) (locs : List Loc), Wo G A s (wX2_bestFrom G a_mat a_mat_score a_mat_best a_mat_given mt_offers mt_wants mt_pairs mt_gap mt_score mt_best) H locs → ∀ ls : Array Slot, lv_has ls 5 [(0, .ref a_mat), (1, .int v1), (2, .int v2), (3, .int v3), (4, .int v4)] → W p l e rmX2_bestFrom s m args below meth c H locs 0 0 (QI G A below args s res (wX2_bestFrom G a_mat a_mat_score a_mat_best a_mat_given mt_offers mt_wants mt_pairs mt_gap mt_score mt_best)) (F0 m 18 ls [])) (h : fX2_bestFrom_51 k_18 v3 v4 = some res) : ∀ (H : Heap) (locs : List Loc), Wo G A s (wX2_bestFrom G a_mat a_mat_score a_mat_best a_mat_given mt_offers mt_wants mt_pairs mt_gap mt_score mt_best) H locs → ∀ ls : Array Slot, lv_has ls 5 [(0, .ref a_mat), (1, .int v1), (2, .int v2), (3, .int v3), (4, .int v4)] → W p l e rmX2_bestFrom s m args below meth c H locs 0 0 (QI G A below args s res (wX2_bestFrom G a_mat a_mat_score a_mat_best a_mat_given mt_offers mt_wants mt_pairs mt_gap mt_score mt_best)) (F0 m 51 ls []) := by
  obtain ⟨hx, hb, -⟩ := id X.1
  intro H locs hW ls hl
  rw [fX2_bestFrom_51] at h
  refine lv_iinc (v := (v4 + (1 : Int32))) (lv' := [(4, .int (v4 + (1 : Int32))), (0, .ref a_mat), (1, .int v1), (2, .int v2), (3, .int v3)]) hx hb dX2_bestFrom_51 hl (k := 4) rfl (congrArg (fun z => v4 + z) qI_1) (by decide) rfl (fun ls hl => ?_)
  refine lv_goto (tgt := 18) hx hb dX2_bestFrom_54 (by decide) ?_
  exact Hk_18 v3 (v4 + (1 : Int32)) h H locs hW ls (lv_sub hl [1, 2, 3, 4, 0] rfl)
set_option maxHeartbeats 4000000 in
set_option maxRecDepth 100000 in
theorem tX2_bestFrom_18 (X : Bx p s m args meth c cX2_bestFrom 5 wsX2_bestFrom RX2 (some .int)) (v1 : Int32) (v2 : Int32)   : ∀ (n : Nat) (v3 : Int32) (v4 : Int32), fX2_bestFrom_18 v1 v2 mt_wants mt_score mt_best n v3 v4 = some res → ∀ (H : Heap) (locs : List Loc), Wo G A s (wX2_bestFrom G a_mat a_mat_score a_mat_best a_mat_given mt_offers mt_wants mt_pairs mt_gap mt_score mt_best) H locs → ∀ ls : Array Slot, lv_has ls 5 [(0, .ref a_mat), (1, .int v1), (2, .int v2), (3, .int v3), (4, .int v4)] → W p l e rmX2_bestFrom s m args below meth c H locs 0 0 (QI G A below args s res (wX2_bestFrom G a_mat a_mat_score a_mat_best a_mat_given mt_offers mt_wants mt_pairs mt_gap mt_score mt_best)) (F0 m 18 ls []) := by
  obtain ⟨hx, hb, -⟩ := id X.1
  intro n
  induction n with
  | zero => intro v3 v4 h; rw [fX2_bestFrom_18] at h; cases h
  | succ n ih =>
    intro v3 v4 h H locs hW ls hl
    rw [fX2_bestFrom_18] at h
    refine lv_iload hx hb dX2_bestFrom_18 (lv_at hl 4 rfl) ?_
    refine lv_aload_n hx hb dX2_bestFrom_20 rfl (lv_at hl 0 rfl) ?_
    refine g_get X hW eX2_bestFrom_34 0 rfl rfl dX2_bestFrom_21 ?_
    refine lv_icmp_ge (tgt := 57) hx hb dX2_bestFrom_24 (by decide) (fun c6 => ?_) (fun c6 => ?_)
    · have h := (if_pos c6).symm.trans h
      refine lv_iload_n hx hb dX2_bestFrom_57 rfl (lv_at hl 3 rfl) ?_
      obtain rfl := Option.some.inj h
      exact g_iret X hW dX2_bestFrom_58
    · have h := (if_neg c6).symm.trans h
      refine lv_aload_n hx hb dX2_bestFrom_27 rfl (lv_at hl 0 rfl) ?_
      refine lv_iload_n hx hb dX2_bestFrom_28 rfl (lv_at hl 1 rfl) ?_
      refine lv_iload hx hb dX2_bestFrom_29 (lv_at hl 4 rfl) ?_
      refine lv_iload_n hx hb dX2_bestFrom_31 rfl (lv_at hl 2 rfl) ?_
      obtain ⟨r13, hq, h⟩ := bn1_some h
      refine g_cvi X hW (As := [.int v1, .int v4, .int v2]) (ws' := (wX2_bestFrom G a_mat a_mat_score a_mat_best a_mat_given mt_offers mt_wants mt_pairs mt_gap mt_score mt_best)) ckX2_bestFrom_X2_isOpen_53 (kcX2_isOpen (l := l) G a_mat a_mat_score a_mat_best a_mat_given v1 v4 v2 mt_offers mt_wants mt_pairs mt_gap mt_score hq) ⟨rfl, rfl, Nat.le_of_ble_eq_true rfl, Nat.le_of_ble_eq_true rfl⟩ [0, 1] rfl rfl rfl rfl rfl rfl rfl hl.1 (Nat.le_of_ble_eq_true rfl) ⟨Nat.zero_le _, Nat.zero_le _⟩ dX2_bestFrom_32 (fun H locs hW => ?_)
      refine lv_if_eq (tgt := 51) hx hb dX2_bestFrom_35 (by decide) (fun c14 => ?_) (fun c14 => ?_)
      · have h := (if_pos c14).symm.trans h
        exact tX2_bestFrom_51 X v1 v2 v3 v4 (fun v3 v4 => fX2_bestFrom_18 v1 v2 mt_wants mt_score mt_best n v3 v4) ih h H locs hW ls hl
      · have h := (if_neg c14).symm.trans h
        refine lv_iload_n hx hb dX2_bestFrom_38 rfl (lv_at hl 3 rfl) ?_
        refine lv_aload_n hx hb dX2_bestFrom_39 rfl (lv_at hl 0 rfl) ?_
        refine lv_iload_n hx hb dX2_bestFrom_40 rfl (lv_at hl 1 rfl) ?_
        refine lv_iload hx hb dX2_bestFrom_41 (lv_at hl 4 rfl) ?_
        refine lv_iload_n hx hb dX2_bestFrom_43 rfl (lv_at hl 2 rfl) ?_
        obtain ⟨r20, hq, h⟩ := bn1_some h
        refine g_cvi X hW (As := [.int v1, .int v4, .int v2]) (ws' := (wX2_bestFrom G a_mat a_mat_score a_mat_best a_mat_given mt_offers mt_wants mt_pairs mt_gap mt_score mt_best)) ckX2_bestFrom_X2_scoreWith_56 (kcX2_scoreWith (l := l) G a_mat a_mat_score a_mat_best a_mat_given v1 v4 v2 mt_offers mt_wants mt_pairs mt_gap mt_score mt_best hq) ⟨rfl, rfl, Nat.le_of_ble_eq_true rfl, Nat.le_of_ble_eq_true rfl⟩ [0, 1, 2] rfl rfl rfl rfl rfl rfl rfl hl.1 (Nat.le_of_ble_eq_true rfl) ⟨Nat.zero_le _, Nat.zero_le _⟩ dX2_bestFrom_44 (fun H locs hW => ?_)
        refine g_mmax X cmX2_bestFrom_27 hl.1 (Nat.le_of_ble_eq_true rfl) (Nat.le_of_ble_eq_true rfl) ⟨Nat.zero_le _, Nat.zero_le _⟩ dX2_bestFrom_47 ?_
        refine lv_istore_n (lv' := [(3, .int (imax v3 r20)), (0, .ref a_mat), (1, .int v1), (2, .int v2), (4, .int v4)]) hx hb dX2_bestFrom_50 rfl hl (by decide) rfl (fun ls hl => ?_)
        exact tX2_bestFrom_51 X v1 v2 (imax v3 r20) v4 (fun v3 v4 => fX2_bestFrom_18 v1 v2 mt_wants mt_score mt_best n v3 v4) ih h H locs hW ls (lv_sub hl [1, 2, 3, 0, 4] rfl)
set_option maxHeartbeats 4000000 in
set_option maxRecDepth 100000 in
theorem k0X2_bestFrom {l : Launch} (G : Gt) (a_mat a_mat_score a_mat_best a_mat_given : Nat) (v1 : Int32) (v2 : Int32) (mt_offers : Int32) (mt_wants : Int32) (mt_pairs : Int32) (mt_gap : Int32) (mt_score : (Nat → Int32)) (mt_best : (Nat → Int32)) {res : Int32} (h : fX2_bestFrom v1 v2 mt_wants mt_score mt_best = some res) : CtI G l yX2_bestFrom wsX2_bestFrom rmX2_bestFrom [.ref a_mat, .int v1, .int v2] (wX2_bestFrom G a_mat a_mat_score a_mat_best a_mat_given mt_offers mt_wants mt_pairs mt_gap mt_score mt_best) res (wX2_bestFrom G a_mat a_mat_score a_mat_best a_mat_given mt_offers mt_wants mt_pairs mt_gap mt_score mt_best) := by
  refine CtI.mk (cc := cX2_bestFrom) (maxL := 5) (ret := (some .int)) (own := RX2) (by decide) rfl rfl (Nat.le_of_ble_eq_true rfl) ?_
  intro p e s m below meth c A X ls hl hW
  obtain ⟨hx, hb, -⟩ := id X.1
  have hl : lv_has ls 5 [(0, .ref a_mat), (1, .int v1), (2, .int v2)] := hl
  generalize hH : s.heap = H at hW ⊢
  generalize hLo : ([] : List Loc) = locs at hW ⊢
  rw [fX2_bestFrom] at h
  refine lv_aload_n hx hb dX2_bestFrom_0 rfl (lv_at hl 0 rfl) ?_
  refine g_get X hW eX2_bestFrom_15 0 rfl rfl dX2_bestFrom_1 ?_
  refine lv_iload_n hx hb dX2_bestFrom_4 rfl (lv_at hl 1 rfl) ?_
  refine lv_iconst hx hb dX2_bestFrom_5 qI_1 ?_
  refine lv_iadd hx hb dX2_bestFrom_6 ?_
  refine lv_sipush hx hb dX2_bestFrom_7 qS_128 ?_
  refine lv_imul hx hb dX2_bestFrom_10 ?_
  refine lv_iload_n hx hb dX2_bestFrom_11 rfl (lv_at hl 2 rfl) ?_
  refine lv_iadd hx hb dX2_bestFrom_12 ?_
  obtain ⟨g32, h⟩ := gd_some h
  refine g_ald X hW 2 rfl g32 dX2_bestFrom_13 ?_
  refine lv_istore_n (lv' := [(3, .int (mt_best (((v1 + (1 : Int32)) * (128 : Int32)) + v2).toNatClampNeg)), (0, .ref a_mat), (1, .int v1), (2, .int v2)]) hx hb dX2_bestFrom_14 rfl hl (by decide) rfl (fun ls hl => ?_)
  refine lv_iconst hx hb dX2_bestFrom_15 qI_0 ?_
  refine lv_istore (lv' := [(4, .int (0 : Int32)), (3, .int (mt_best (((v1 + (1 : Int32)) * (128 : Int32)) + v2).toNatClampNeg)), (0, .ref a_mat), (1, .int v1), (2, .int v2)]) hx hb dX2_bestFrom_16 hl (by decide) rfl (fun ls hl => ?_)
  exact tX2_bestFrom_18 X v1 v2 FU (mt_best (((v1 + (1 : Int32)) * (128 : Int32)) + v2).toNatClampNeg) (0 : Int32) h H locs hW ls (lv_sub hl [2, 3, 4, 1, 0] rfl)
theorem kcX2_bestFrom {l : Launch} (G : Gt) (a_mat a_mat_score a_mat_best a_mat_given : Nat) (v1 : Int32) (v2 : Int32) (mt_offers : Int32) (mt_wants : Int32) (mt_pairs : Int32) (mt_gap : Int32) (mt_score : (Nat → Int32)) (mt_best : (Nat → Int32)) {r : Int32}  (h : fX2_bestFrom v1 v2 mt_wants mt_score mt_best = some r) : CtI G l yX2_bestFrom wsX2_bestFrom rmX2_bestFrom [.ref a_mat, .int v1, .int v2] (wX2_bestFrom G a_mat a_mat_score a_mat_best a_mat_given mt_offers mt_wants mt_pairs mt_gap mt_score mt_best) r (wX2_bestFrom G a_mat a_mat_score a_mat_best a_mat_given mt_offers mt_wants mt_pairs mt_gap mt_score mt_best) := k0X2_bestFrom G a_mat a_mat_score a_mat_best a_mat_given v1 v2 mt_offers mt_wants mt_pairs mt_gap mt_score mt_best h
end MX2_bestFrom
/-! EmptyBoxes$Matching.leastBestWant -/
section MX2_leastBestWant
theorem hdX2_leastBestWant : yX2_leastBestWant.cls = RX2 ∧ yX2_leastBestWant.cls ≠ "java/lang/invoke/MethodHandle" ∧ yX2_leastBestWant.cls ≠ "java/lang/invoke/VarHandle" ∧ (parseMethodDescriptor yX2_leastBestWant.desc).map (fun d => d.parameters.length) = some 2 := by decide +kernel
abbrev wX2_leastBestWant (G : Gt) (a_mat a_mat_score a_mat_best a_mat_given : Nat) (mt_offers : Int32) (mt_wants : Int32) (mt_pairs : Int32) (mt_gap : Int32) (mt_score : (Nat → Int32)) (mt_best : (Nat → Int32)) : va_W := [(a_mat, .inr (2, [.ref a_mat_score, .ref a_mat_best, .ref a_mat_given, .int mt_offers, .int mt_wants, .int mt_pairs, .int mt_gap])), (a_mat_score, .inl (G.2.1, 49, .inl mt_score)), (a_mat_best, .inl (G.2.1, 1024, .inl mt_best))]
abbrev rmX2_leastBestWant : Room := { frames := 1, cells := 0, slots := 0, locals := 23 }
theorem iX2_leastBestWant_X2 : ∀ w ∈ wsX20, w ∈ wsX2_leastBestWant := by decide +kernel
theorem eX2_leastBestWant_15 : Fk wsX2_leastBestWant RX2 15 2 1 := ⟨RX2, TX2, 7, rfl, iX2_leastBestWant_X2, by decide, by decide +kernel⟩
theorem eX2_leastBestWant_34 : Fk wsX2_leastBestWant RX2 34 2 4 := ⟨RX2, TX2, 7, rfl, iX2_leastBestWant_X2, by decide, by decide +kernel⟩
theorem ckX2_leastBestWant_X2_isOpen_53 : CkV wsX2_leastBestWant RX2 53 yX2_isOpen wsX2_isOpen cX2_isOpen 4 (some .boolean) 3 2 := ⟨RX2, TX2, 7, _, rfl, gX2_leastBestWant_X2_isOpen, rfl, hdX2_isOpen⟩
theorem ckX2_leastBestWant_X2_scoreWith_56 : CkV wsX2_leastBestWant RX2 56 yX2_scoreWith wsX2_scoreWith cX2_scoreWith 4 (some .int) 3 2 := ⟨RX2, TX2, 7, _, rfl, gX2_leastBestWant_X2_scoreWith, rfl, hdX2_scoreWith⟩
variable {p : Program} {l : Launch} {e : Env} {s : State} {m : MethodId} {args : Array Value} {below : List Frame} {meth : Method} {c : Code} {A : Nat → Prop} {G : Gt} {a_mat a_mat_score a_mat_best a_mat_given : Nat} {mt_offers : Int32} {mt_wants : Int32} {mt_pairs : Int32} {mt_gap : Int32} {mt_score : (Nat → Int32)} {mt_best : (Nat → Int32)} {res : Int32}
set_option maxHeartbeats 4000000 in
set_option maxRecDepth 100000 in
theorem tX2_leastBestWant_44 (X : Bx p s m args meth c cX2_leastBestWant 4 wsX2_leastBestWant RX2 (some .int)) (v1 : Int32) (v2 : Int32) (v3 : Int32) (k_2 : Int32 → Option (Int32)) (Hk_2 : ∀ (v3 : Int32), k_2 v3 = some res → ∀ (H : Heap) (locs : List Loc), Wo G A s (wX2_leastBestWant G a_mat a_mat_score a_mat_best a_mat_given mt_offers mt_wants mt_pairs mt_gap mt_score mt_best) H locs → ∀ ls : Array Slot, lv_has ls 4 [(0, .ref a_mat), (1, .int v1), (2, .int v2), (3, .int v3)] → W p l e rmX2_leastBestWant s m args below meth c H locs 0 0 (QI G A below args s res (wX2_leastBestWant G a_mat a_mat_score a_mat_best a_mat_given mt_offers mt_wants mt_pairs mt_gap mt_score mt_best)) (F0 m 2 ls [])) (h : fX2_leastBestWant_44 k_2 v3 = some res) : ∀ (H : Heap) (locs : List Loc), Wo G A s (wX2_leastBestWant G a_mat a_mat_score a_mat_best a_mat_given mt_offers mt_wants mt_pairs mt_gap mt_score mt_best) H locs → ∀ ls : Array Slot, lv_has ls 4 [(0, .ref a_mat), (1, .int v1), (2, .int v2), (3, .int v3)] → W p l e rmX2_leastBestWant s m args below meth c H locs 0 0 (QI G A below args s res (wX2_leastBestWant G a_mat a_mat_score a_mat_best a_mat_given mt_offers mt_wants mt_pairs mt_gap mt_score mt_best)) (F0 m 44 ls []) := by
  obtain ⟨hx, hb, -⟩ := id X.1
  intro H locs hW ls hl
  rw [fX2_leastBestWant_44] at h
  refine lv_iinc (v := (v3 + (1 : Int32))) (lv' := [(3, .int (v3 + (1 : Int32))), (0, .ref a_mat), (1, .int v1), (2, .int v2)]) hx hb dX2_leastBestWant_44 hl (k := 3) rfl (congrArg (fun z => v3 + z) qI_1) (by decide) rfl (fun ls hl => ?_)
  refine lv_goto (tgt := 2) hx hb dX2_leastBestWant_47 (by decide) ?_
  exact Hk_2 (v3 + (1 : Int32)) h H locs hW ls (lv_sub hl [1, 2, 3, 0] rfl)
set_option maxHeartbeats 4000000 in
set_option maxRecDepth 100000 in
theorem tX2_leastBestWant_2 (X : Bx p s m args meth c cX2_leastBestWant 4 wsX2_leastBestWant RX2 (some .int)) (v1 : Int32) (v2 : Int32)   : ∀ (n : Nat) (v3 : Int32), fX2_leastBestWant_2 v1 v2 mt_wants mt_score mt_best n v3 = some res → ∀ (H : Heap) (locs : List Loc), Wo G A s (wX2_leastBestWant G a_mat a_mat_score a_mat_best a_mat_given mt_offers mt_wants mt_pairs mt_gap mt_score mt_best) H locs → ∀ ls : Array Slot, lv_has ls 4 [(0, .ref a_mat), (1, .int v1), (2, .int v2), (3, .int v3)] → W p l e rmX2_leastBestWant s m args below meth c H locs 0 0 (QI G A below args s res (wX2_leastBestWant G a_mat a_mat_score a_mat_best a_mat_given mt_offers mt_wants mt_pairs mt_gap mt_score mt_best)) (F0 m 2 ls []) := by
  obtain ⟨hx, hb, -⟩ := id X.1
  intro n
  induction n with
  | zero => intro v3 h; rw [fX2_leastBestWant_2] at h; cases h
  | succ n ih =>
    intro v3 h H locs hW ls hl
    rw [fX2_leastBestWant_2] at h
    refine lv_iload_n hx hb dX2_leastBestWant_2 rfl (lv_at hl 3 rfl) ?_
    refine lv_aload_n hx hb dX2_leastBestWant_3 rfl (lv_at hl 0 rfl) ?_
    refine g_get X hW eX2_leastBestWant_34 0 rfl rfl dX2_leastBestWant_4 ?_
    refine lv_icmp_ge (tgt := 50) hx hb dX2_leastBestWant_7 (by decide) (fun c6 => ?_) (fun c6 => ?_)
    · have h := (if_pos c6).symm.trans h
      refine lv_bipush hx hb dX2_leastBestWant_50 qB_m3 ?_
      obtain rfl := Option.some.inj h
      exact g_iret X hW dX2_leastBestWant_52
    · have h := (if_neg c6).symm.trans h
      refine lv_aload_n hx hb dX2_leastBestWant_10 rfl (lv_at hl 0 rfl) ?_
      refine lv_iload_n hx hb dX2_leastBestWant_11 rfl (lv_at hl 1 rfl) ?_
      refine lv_iload_n hx hb dX2_leastBestWant_12 rfl (lv_at hl 3 rfl) ?_
      refine lv_iload_n hx hb dX2_leastBestWant_13 rfl (lv_at hl 2 rfl) ?_
      obtain ⟨r13, hq, h⟩ := bn1_some h
      refine g_cvi X hW (As := [.int v1, .int v3, .int v2]) (ws' := (wX2_leastBestWant G a_mat a_mat_score a_mat_best a_mat_given mt_offers mt_wants mt_pairs mt_gap mt_score mt_best)) ckX2_leastBestWant_X2_isOpen_53 (kcX2_isOpen (l := l) G a_mat a_mat_score a_mat_best a_mat_given v1 v3 v2 mt_offers mt_wants mt_pairs mt_gap mt_score hq) ⟨rfl, rfl, Nat.le_of_ble_eq_true rfl, Nat.le_of_ble_eq_true rfl⟩ [0, 1] rfl rfl rfl rfl rfl rfl rfl hl.1 (Nat.le_of_ble_eq_true rfl) ⟨Nat.zero_le _, Nat.zero_le _⟩ dX2_leastBestWant_14 (fun H locs hW => ?_)
      refine lv_if_eq (tgt := 44) hx hb dX2_leastBestWant_17 (by decide) (fun c14 => ?_) (fun c14 => ?_)
      · have h := (if_pos c14).symm.trans h
        exact tX2_leastBestWant_44 X v1 v2 v3 (fun v3 => fX2_leastBestWant_2 v1 v2 mt_wants mt_score mt_best n v3) ih h H locs hW ls hl
      · have h := (if_neg c14).symm.trans h
        refine lv_aload_n hx hb dX2_leastBestWant_20 rfl (lv_at hl 0 rfl) ?_
        refine lv_iload_n hx hb dX2_leastBestWant_21 rfl (lv_at hl 1 rfl) ?_
        refine lv_iload_n hx hb dX2_leastBestWant_22 rfl (lv_at hl 3 rfl) ?_
        refine lv_iload_n hx hb dX2_leastBestWant_23 rfl (lv_at hl 2 rfl) ?_
        obtain ⟨r19, hq, h⟩ := bn1_some h
        refine g_cvi X hW (As := [.int v1, .int v3, .int v2]) (ws' := (wX2_leastBestWant G a_mat a_mat_score a_mat_best a_mat_given mt_offers mt_wants mt_pairs mt_gap mt_score mt_best)) ckX2_leastBestWant_X2_scoreWith_56 (kcX2_scoreWith (l := l) G a_mat a_mat_score a_mat_best a_mat_given v1 v3 v2 mt_offers mt_wants mt_pairs mt_gap mt_score mt_best hq) ⟨rfl, rfl, Nat.le_of_ble_eq_true rfl, Nat.le_of_ble_eq_true rfl⟩ [0, 1, 2] rfl rfl rfl rfl rfl rfl rfl hl.1 (Nat.le_of_ble_eq_true rfl) ⟨Nat.zero_le _, Nat.zero_le _⟩ dX2_leastBestWant_24 (fun H locs hW => ?_)
        refine lv_aload_n hx hb dX2_leastBestWant_27 rfl (lv_at hl 0 rfl) ?_
        refine g_get X hW eX2_leastBestWant_15 0 rfl rfl dX2_leastBestWant_28 ?_
        refine lv_iload_n hx hb dX2_leastBestWant_31 rfl (lv_at hl 1 rfl) ?_
        refine lv_sipush hx hb dX2_leastBestWant_32 qS_128 ?_
        refine lv_imul hx hb dX2_leastBestWant_35 ?_
        refine lv_iload_n hx hb dX2_leastBestWant_36 rfl (lv_at hl 2 rfl) ?_
        refine lv_iadd hx hb dX2_leastBestWant_37 ?_
        obtain ⟨g27, h⟩ := gd_some h
        refine g_ald X hW 2 rfl g27 dX2_leastBestWant_38 ?_
        refine lv_icmp_ne (tgt := 44) hx hb dX2_leastBestWant_39 (by decide) (fun c28 => ?_) (fun c28 => ?_)
        · have h := (if_neg c28).symm.trans h
          exact tX2_leastBestWant_44 X v1 v2 v3 (fun v3 => fX2_leastBestWant_2 v1 v2 mt_wants mt_score mt_best n v3) ih h H locs hW ls hl
        · have h := (if_pos c28).symm.trans h
          refine lv_iload_n hx hb dX2_leastBestWant_42 rfl (lv_at hl 3 rfl) ?_
          obtain rfl := Option.some.inj h
          exact g_iret X hW dX2_leastBestWant_43
set_option maxHeartbeats 4000000 in
set_option maxRecDepth 100000 in
theorem k0X2_leastBestWant {l : Launch} (G : Gt) (a_mat a_mat_score a_mat_best a_mat_given : Nat) (v1 : Int32) (v2 : Int32) (mt_offers : Int32) (mt_wants : Int32) (mt_pairs : Int32) (mt_gap : Int32) (mt_score : (Nat → Int32)) (mt_best : (Nat → Int32)) {res : Int32} (h : fX2_leastBestWant v1 v2 mt_wants mt_score mt_best = some res) : CtI G l yX2_leastBestWant wsX2_leastBestWant rmX2_leastBestWant [.ref a_mat, .int v1, .int v2] (wX2_leastBestWant G a_mat a_mat_score a_mat_best a_mat_given mt_offers mt_wants mt_pairs mt_gap mt_score mt_best) res (wX2_leastBestWant G a_mat a_mat_score a_mat_best a_mat_given mt_offers mt_wants mt_pairs mt_gap mt_score mt_best) := by
  refine CtI.mk (cc := cX2_leastBestWant) (maxL := 4) (ret := (some .int)) (own := RX2) (by decide) rfl rfl (Nat.le_of_ble_eq_true rfl) ?_
  intro p e s m below meth c A X ls hl hW
  obtain ⟨hx, hb, -⟩ := id X.1
  have hl : lv_has ls 4 [(0, .ref a_mat), (1, .int v1), (2, .int v2)] := hl
  generalize hH : s.heap = H at hW ⊢
  generalize hLo : ([] : List Loc) = locs at hW ⊢
  rw [fX2_leastBestWant] at h
  refine lv_iconst hx hb dX2_leastBestWant_0 qI_0 ?_
  refine lv_istore_n (lv' := [(3, .int (0 : Int32)), (0, .ref a_mat), (1, .int v1), (2, .int v2)]) hx hb dX2_leastBestWant_1 rfl hl (by decide) rfl (fun ls hl => ?_)
  exact tX2_leastBestWant_2 X v1 v2 FU (0 : Int32) h H locs hW ls (lv_sub hl [1, 2, 3, 0] rfl)
theorem kcX2_leastBestWant {l : Launch} (G : Gt) (a_mat a_mat_score a_mat_best a_mat_given : Nat) (v1 : Int32) (v2 : Int32) (mt_offers : Int32) (mt_wants : Int32) (mt_pairs : Int32) (mt_gap : Int32) (mt_score : (Nat → Int32)) (mt_best : (Nat → Int32)) {r : Int32}  (h : fX2_leastBestWant v1 v2 mt_wants mt_score mt_best = some r) : CtI G l yX2_leastBestWant wsX2_leastBestWant rmX2_leastBestWant [.ref a_mat, .int v1, .int v2] (wX2_leastBestWant G a_mat a_mat_score a_mat_best a_mat_given mt_offers mt_wants mt_pairs mt_gap mt_score mt_best) r (wX2_leastBestWant G a_mat a_mat_score a_mat_best a_mat_given mt_offers mt_wants mt_pairs mt_gap mt_score mt_best) := k0X2_leastBestWant G a_mat a_mat_score a_mat_best a_mat_given v1 v2 mt_offers mt_wants mt_pairs mt_gap mt_score mt_best h
end MX2_leastBestWant
/-! EmptyBoxes$Matching.solve -/
section MX2_solve
theorem hdX2_solve : yX2_solve.cls = RX2 ∧ yX2_solve.cls ≠ "java/lang/invoke/MethodHandle" ∧ yX2_solve.cls ≠ "java/lang/invoke/VarHandle" ∧ (parseMethodDescriptor yX2_solve.desc).map (fun d => d.parameters.length) = some 0 := by decide +kernel
abbrev wX2_solve (G : Gt) (a_mat a_mat_score a_mat_best a_mat_given : Nat) (mt_offers : Int32) (mt_wants : Int32) (mt_pairs : Int32) (mt_gap : Int32) (mt_score : (Nat → Int32)) (mt_best : (Nat → Int32)) (mt_given : (Nat → Int32)) : va_W := [(a_mat, .inr (2, [.ref a_mat_score, .ref a_mat_best, .ref a_mat_given, .int mt_offers, .int mt_wants, .int mt_pairs, .int mt_gap])), (a_mat_score, .inl (G.2.1, 49, .inl mt_score)), (a_mat_best, .inl (G.2.1, 1024, .inl mt_best)), (a_mat_given, .inl (G.2.1, 7, .inl mt_given))]
abbrev rmX2_solve : Room := { frames := 2, cells := 0, slots := 0, locals := 47 }
theorem iX2_solve_X2 : ∀ w ∈ wsX20, w ∈ wsX2_solve := by decide +kernel
theorem eX2_solve_15 : Fk wsX2_solve RX2 15 2 1 := ⟨RX2, TX2, 7, rfl, iX2_solve_X2, by decide, by decide +kernel⟩
theorem eX2_solve_18 : Fk wsX2_solve RX2 18 2 2 := ⟨RX2, TX2, 7, rfl, iX2_solve_X2, by decide, by decide +kernel⟩
theorem eX2_solve_30 : Fk wsX2_solve RX2 30 2 3 := ⟨RX2, TX2, 7, rfl, iX2_solve_X2, by decide, by decide +kernel⟩
theorem eX2_solve_34 : Fk wsX2_solve RX2 34 2 4 := ⟨RX2, TX2, 7, rfl, iX2_solve_X2, by decide, by decide +kernel⟩
theorem eX2_solve_44 : Fk wsX2_solve RX2 44 2 5 := ⟨RX2, TX2, 7, rfl, iX2_solve_X2, by decide, by decide +kernel⟩
theorem eX2_solve_47 : Fk wsX2_solve RX2 47 2 6 := ⟨RX2, TX2, 7, rfl, iX2_solve_X2, by decide, by decide +kernel⟩
theorem eX2_solve_9 : Fk wsX2_solve RX2 9 2 0 := ⟨RX2, TX2, 7, rfl, iX2_solve_X2, by decide, by decide +kernel⟩
theorem pX2_solve_44 : Fp wsX2_solve RX2 44 2 5 .int := ⟨RX2, TX2, 7, tyX2, rfl, iX2_solve_X2, by decide, by decide +kernel, tyX2_ok, nmX2, rfl, by decide +kernel⟩
theorem pX2_solve_47 : Fp wsX2_solve RX2 47 2 6 .int := ⟨RX2, TX2, 7, tyX2, rfl, iX2_solve_X2, by decide, by decide +kernel, tyX2_ok, nmX2, rfl, by decide +kernel⟩
theorem ckX2_solve_X2_bestFrom_41 : CkV wsX2_solve RX2 41 yX2_bestFrom wsX2_bestFrom cX2_bestFrom 5 (some .int) 2 2 := ⟨RX2, TX2, 7, _, rfl, gX2_solve_X2_bestFrom, rfl, hdX2_bestFrom⟩
theorem ckX2_solve_X2_leastBestWant_50 : CkV wsX2_solve RX2 50 yX2_leastBestWant wsX2_leastBestWant cX2_leastBestWant 4 (some .int) 2 2 := ⟨RX2, TX2, 7, _, rfl, gX2_solve_X2_leastBestWant, rfl, hdX2_leastBestWant⟩
variable {p : Program} {l : Launch} {e : Env} {s : State} {m : MethodId} {args : Array Value} {below : List Frame} {meth : Method} {c : Code} {A : Nat → Prop} {G : Gt} {a_mat a_mat_score a_mat_best a_mat_given : Nat} {mt_offers : Int32} {mt_wants : Int32} {mt_score : (Nat → Int32)} {res : Int32 × Int32 × (Nat → Int32) × (Nat → Int32)}
set_option maxHeartbeats 4000000 in
set_option maxRecDepth 100000 in
theorem tX2_solve_180 (X : Bx p s m args meth c cX2_solve 3 wsX2_solve RX2 none) (v1 : Int32) (v2 : Int32) (mt_pairs : Int32) (mt_gap : Int32) (mt_best : (Nat → Int32)) (mt_given : (Nat → Int32)) (k_101 : Int32 → Int32 → Int32 → Int32 → (Nat → Int32) → Option (Int32 × Int32 × (Nat → Int32) × (Nat → Int32))) (Hk_101 : ∀ (v1 : Int32) (v2 : Int32) (mt_pairs : Int32) (mt_gap : Int32) (mt_given : (Nat → Int32)), k_101 v1 v2 mt_pairs mt_gap mt_given = some res → ∀ (H : Heap) (locs : List Loc), Wo G A s (wX2_solve G a_mat a_mat_score a_mat_best a_mat_given mt_offers mt_wants mt_pairs mt_gap mt_score mt_best mt_given) H locs → ∀ ls : Array Slot, lv_has ls 3 [(0, .ref a_mat), (1, .int v1), (2, .int v2)] → W p l e rmX2_solve s m args below meth c H locs 0 0 (QV G A below args s (wX2_solve G a_mat a_mat_score a_mat_best a_mat_given mt_offers mt_wants res.1 res.2.1 mt_score res.2.2.1 res.2.2.2)) (F0 m 101 ls [])) (h : fX2_solve_180 k_101 v1 v2 mt_pairs mt_gap mt_given = some res) : ∀ (H : Heap) (locs : List Loc), Wo G A s (wX2_solve G a_mat a_mat_score a_mat_best a_mat_given mt_offers mt_wants mt_pairs mt_gap mt_score mt_best mt_given) H locs → ∀ ls : Array Slot, lv_has ls 3 [(0, .ref a_mat), (1, .int v1), (2, .int v2)] → W p l e rmX2_solve s m args below meth c H locs 0 0 (QV G A below args s (wX2_solve G a_mat a_mat_score a_mat_best a_mat_given mt_offers mt_wants res.1 res.2.1 mt_score res.2.2.1 res.2.2.2)) (F0 m 180 ls []) := by
  obtain ⟨hx, hb, -⟩ := id X.1
  intro H locs hW ls hl
  rw [fX2_solve_180] at h
  refine lv_iinc (v := (v2 + (1 : Int32))) (lv' := [(2, .int (v2 + (1 : Int32))), (0, .ref a_mat), (1, .int v1)]) hx hb dX2_solve_180 hl (k := 2) rfl (congrArg (fun z => v2 + z) qI_1) (by decide) rfl (fun ls hl => ?_)
  refine lv_goto (tgt := 101) hx hb dX2_solve_183 (by decide) ?_
  exact Hk_101 v1 (v2 + (1 : Int32)) mt_pairs mt_gap mt_given h H locs hW ls (lv_sub hl [1, 2, 0] rfl)
set_option maxHeartbeats 4000000 in
set_option maxRecDepth 100000 in
theorem tX2_solve_101 (X : Bx p s m args meth c cX2_solve 3 wsX2_solve RX2 none) (mt_best : (Nat → Int32))   : ∀ (n : Nat) (v1 : Int32) (v2 : Int32) (mt_pairs : Int32) (mt_gap : Int32) (mt_given : (Nat → Int32)), fX2_solve_101 mt_offers mt_wants mt_score mt_best n v1 v2 mt_pairs mt_gap mt_given = some res → ∀ (H : Heap) (locs : List Loc), Wo G A s (wX2_solve G a_mat a_mat_score a_mat_best a_mat_given mt_offers mt_wants mt_pairs mt_gap mt_score mt_best mt_given) H locs → ∀ ls : Array Slot, lv_has ls 3 [(0, .ref a_mat), (1, .int v1), (2, .int v2)] → W p l e rmX2_solve s m args below meth c H locs 0 0 (QV G A below args s (wX2_solve G a_mat a_mat_score a_mat_best a_mat_given mt_offers mt_wants res.1 res.2.1 mt_score res.2.2.1 res.2.2.2)) (F0 m 101 ls []) := by
  obtain ⟨hx, hb, -⟩ := id X.1
  intro n
  induction n with
  | zero => intro v1 v2 mt_pairs mt_gap mt_given h; rw [fX2_solve_101] at h; cases h
  | succ n ih =>
    intro v1 v2 mt_pairs mt_gap mt_given h H locs hW ls hl
    rw [fX2_solve_101] at h
    refine lv_iload_n hx hb dX2_solve_101 rfl (lv_at hl 2 rfl) ?_
    refine lv_aload_n hx hb dX2_solve_102 rfl (lv_at hl 0 rfl) ?_
    refine g_get X hW eX2_solve_30 0 rfl rfl dX2_solve_103 ?_
    refine lv_icmp_ge (tgt := 186) hx hb dX2_solve_106 (by decide) (fun c6 => ?_) (fun c6 => ?_)
    · have h := (if_pos c6).symm.trans h
      obtain rfl := Option.some.inj h
      exact g_vret X hW dX2_solve_186
    · have h := (if_neg c6).symm.trans h
      refine lv_aload_n hx hb dX2_solve_109 rfl (lv_at hl 0 rfl) ?_
      refine g_get X hW eX2_solve_18 0 rfl rfl dX2_solve_110 ?_
      refine lv_iload_n hx hb dX2_solve_113 rfl (lv_at hl 2 rfl) ?_
      refine lv_aload_n hx hb dX2_solve_114 rfl (lv_at hl 0 rfl) ?_
      refine lv_iload_n hx hb dX2_solve_115 rfl (lv_at hl 2 rfl) ?_
      refine lv_iload_n hx hb dX2_solve_116 rfl (lv_at hl 1 rfl) ?_
      obtain ⟨r14, hq, h⟩ := bn1_some h
      refine g_cvi X hW (As := [.int v2, .int v1]) (ws' := (wX2_solve G a_mat a_mat_score a_mat_best a_mat_given mt_offers mt_wants mt_pairs mt_gap mt_score mt_best mt_given)) ckX2_solve_X2_leastBestWant_50 (kcX2_leastBestWant (l := l) G a_mat a_mat_score a_mat_best a_mat_given v2 v1 mt_offers mt_wants mt_pairs mt_gap mt_score mt_best hq) ⟨rfl, rfl, Nat.le_of_ble_eq_true rfl, Nat.le_of_ble_eq_true rfl⟩ [0, 1, 2] rfl rfl rfl rfl rfl rfl rfl hl.1 (Nat.le_of_ble_eq_true rfl) ⟨Nat.zero_le _, Nat.zero_le _⟩ dX2_solve_117 (fun H locs hW => ?_)
      obtain ⟨g15, h⟩ := gd_some h
      refine g_ast X hW (ws' := (wX2_solve G a_mat a_mat_score a_mat_best a_mat_given mt_offers mt_wants mt_pairs mt_gap mt_score mt_best (upd mt_given v2.toNatClampNeg r14))) 3 rfl g15 rfl dX2_solve_120 (fun H locs hW => ?_)
      refine lv_aload_n hx hb dX2_solve_121 rfl (lv_at hl 0 rfl) ?_
      refine g_get X hW eX2_solve_18 0 rfl rfl dX2_solve_122 ?_
      refine lv_iload_n hx hb dX2_solve_125 rfl (lv_at hl 2 rfl) ?_
      obtain ⟨g19, h⟩ := gd_some h
      refine g_ald X hW 3 rfl g19 dX2_solve_126 ?_
      refine lv_if_lt (tgt := 180) hx hb dX2_solve_127 (by decide) (fun c20 => ?_) (fun c20 => ?_)
      · have h := (if_pos c20).symm.trans h
        exact tX2_solve_180 X v1 v2 mt_pairs mt_gap mt_best (upd mt_given v2.toNatClampNeg r14) (fun v1 v2 mt_pairs mt_gap mt_given => fX2_solve_101 mt_offers mt_wants mt_score mt_best n v1 v2 mt_pairs mt_gap mt_given) ih h H locs hW ls hl
      · have h := (if_neg c20).symm.trans h
        refine lv_aload_n hx hb dX2_solve_130 rfl (lv_at hl 0 rfl) ?_
        refine lv_dup hx hb dX2_solve_131 rfl ?_
        refine g_get X hW eX2_solve_44 0 rfl rfl dX2_solve_132 ?_
        refine lv_iconst hx hb dX2_solve_135 qI_1 ?_
        refine lv_iadd hx hb dX2_solve_136 ?_
        refine g_put X hW (ws' := (wX2_solve G a_mat a_mat_score a_mat_best a_mat_given mt_offers mt_wants (mt_pairs + (1 : Int32)) mt_gap mt_score mt_best (upd mt_given v2.toNatClampNeg r14))) pX2_solve_44 0 rfl (Nat.le_of_ble_eq_true rfl) rfl rfl rfl dX2_solve_137 (fun H locs hW => ?_)
        refine lv_aload_n hx hb dX2_solve_140 rfl (lv_at hl 0 rfl) ?_
        refine lv_dup hx hb dX2_solve_141 rfl ?_
        refine g_get X hW eX2_solve_47 0 rfl rfl dX2_solve_142 ?_
        refine lv_sipush hx hb dX2_solve_145 qS_10000 ?_
        refine lv_aload_n hx hb dX2_solve_148 rfl (lv_at hl 0 rfl) ?_
        refine g_get X hW eX2_solve_9 0 rfl rfl dX2_solve_149 ?_
        refine lv_iload_n hx hb dX2_solve_152 rfl (lv_at hl 2 rfl) ?_
        refine lv_bipush hx hb dX2_solve_153 qB_7 ?_
        refine lv_imul hx hb dX2_solve_155 ?_
        refine lv_aload_n hx hb dX2_solve_156 rfl (lv_at hl 0 rfl) ?_
        refine g_get X hW eX2_solve_18 0 rfl rfl dX2_solve_157 ?_
        refine lv_iload_n hx hb dX2_solve_160 rfl (lv_at hl 2 rfl) ?_
        obtain ⟨g39, h⟩ := gd_some h
        refine g_ald X hW 3 rfl g39 dX2_solve_161 ?_
        refine lv_iadd hx hb dX2_solve_162 ?_
        obtain ⟨g41, h⟩ := gd_some h
        refine g_ald X hW 1 rfl g41 dX2_solve_163 ?_
        refine lv_isub hx hb dX2_solve_164 ?_
        refine lv_iadd hx hb dX2_solve_165 ?_
        refine g_put X hW (ws' := (wX2_solve G a_mat a_mat_score a_mat_best a_mat_given mt_offers mt_wants (mt_pairs + (1 : Int32)) (mt_gap + ((10000 : Int32) - (mt_score ((v2 * (7 : Int32)) + ((upd mt_given v2.toNatClampNeg r14) v2.toNatClampNeg)).toNatClampNeg))) mt_score mt_best (upd mt_given v2.toNatClampNeg r14))) pX2_solve_47 0 rfl (Nat.le_of_ble_eq_true rfl) rfl rfl rfl dX2_solve_166 (fun H locs hW => ?_)
        refine lv_iload_n hx hb dX2_solve_169 rfl (lv_at hl 1 rfl) ?_
        refine lv_iconst hx hb dX2_solve_170 qI_1 ?_
        refine lv_aload_n hx hb dX2_solve_171 rfl (lv_at hl 0 rfl) ?_
        refine g_get X hW eX2_solve_18 0 rfl rfl dX2_solve_172 ?_
        refine lv_iload_n hx hb dX2_solve_175 rfl (lv_at hl 2 rfl) ?_
        obtain ⟨g50, h⟩ := gd_some h
        refine g_ald X hW 3 rfl g50 dX2_solve_176 ?_
        refine g_ishl hx hb dX2_solve_177 ?_
        refine lv_ior hx hb dX2_solve_178 ?_
        refine lv_istore_n (lv' := [(1, .int (v1 ||| (ishl (1 : Int32) ((upd mt_given v2.toNatClampNeg r14) v2.toNatClampNeg)))), (0, .ref a_mat), (2, .int v2)]) hx hb dX2_solve_179 rfl hl (by decide) rfl (fun ls hl => ?_)
        exact tX2_solve_180 X (v1 ||| (ishl (1 : Int32) ((upd mt_given v2.toNatClampNeg r14) v2.toNatClampNeg))) v2 (mt_pairs + (1 : Int32)) (mt_gap + ((10000 : Int32) - (mt_score ((v2 * (7 : Int32)) + ((upd mt_given v2.toNatClampNeg r14) v2.toNatClampNeg)).toNatClampNeg))) mt_best (upd mt_given v2.toNatClampNeg r14) (fun v1 v2 mt_pairs mt_gap mt_given => fX2_solve_101 mt_offers mt_wants mt_score mt_best n v1 v2 mt_pairs mt_gap mt_given) ih h H locs hW ls (lv_sub hl [1, 0, 2] rfl)
set_option maxHeartbeats 4000000 in
set_option maxRecDepth 100000 in
theorem tX2_solve_87 (X : Bx p s m args meth c cX2_solve 3 wsX2_solve RX2 none) (mt_pairs : Int32) (mt_gap : Int32) (mt_best : (Nat → Int32)) (mt_given : (Nat → Int32))   (h : fX2_solve_87 mt_offers mt_wants mt_score mt_best mt_given = some res) : ∀ (H : Heap) (locs : List Loc), Wo G A s (wX2_solve G a_mat a_mat_score a_mat_best a_mat_given mt_offers mt_wants mt_pairs mt_gap mt_score mt_best mt_given) H locs → ∀ ls : Array Slot, lv_has ls 3 [(0, .ref a_mat)] → W p l e rmX2_solve s m args below meth c H locs 0 0 (QV G A below args s (wX2_solve G a_mat a_mat_score a_mat_best a_mat_given mt_offers mt_wants res.1 res.2.1 mt_score res.2.2.1 res.2.2.2)) (F0 m 87 ls []) := by
  obtain ⟨hx, hb, -⟩ := id X.1
  intro H locs hW ls hl
  rw [fX2_solve_87] at h
  refine lv_aload_n hx hb dX2_solve_87 rfl (lv_at hl 0 rfl) ?_
  refine lv_iconst hx hb dX2_solve_88 qI_0 ?_
  refine g_put X hW (ws' := (wX2_solve G a_mat a_mat_score a_mat_best a_mat_given mt_offers mt_wants (0 : Int32) mt_gap mt_score mt_best mt_given)) pX2_solve_44 0 rfl (Nat.le_of_ble_eq_true rfl) rfl rfl rfl dX2_solve_89 (fun H locs hW => ?_)
  refine lv_aload_n hx hb dX2_solve_92 rfl (lv_at hl 0 rfl) ?_
  refine lv_iconst hx hb dX2_solve_93 qI_0 ?_
  refine g_put X hW (ws' := (wX2_solve G a_mat a_mat_score a_mat_best a_mat_given mt_offers mt_wants (0 : Int32) (0 : Int32) mt_score mt_best mt_given)) pX2_solve_47 0 rfl (Nat.le_of_ble_eq_true rfl) rfl rfl rfl dX2_solve_94 (fun H locs hW => ?_)
  refine lv_iconst hx hb dX2_solve_97 qI_0 ?_
  refine lv_istore_n (lv' := [(1, .int (0 : Int32)), (0, .ref a_mat)]) hx hb dX2_solve_98 rfl hl (by decide) rfl (fun ls hl => ?_)
  refine lv_iconst hx hb dX2_solve_99 qI_0 ?_
  refine lv_istore_n (lv' := [(2, .int (0 : Int32)), (1, .int (0 : Int32)), (0, .ref a_mat)]) hx hb dX2_solve_100 rfl hl (by decide) rfl (fun ls hl => ?_)
  exact tX2_solve_101 X mt_best FU (0 : Int32) (0 : Int32) (0 : Int32) (0 : Int32) mt_given h H locs hW ls (lv_sub hl [2, 1, 0] rfl)
set_option maxHeartbeats 4000000 in
set_option maxRecDepth 100000 in
theorem tX2_solve_81 (X : Bx p s m args meth c cX2_solve 3 wsX2_solve RX2 none) (v1 : Int32) (mt_pairs : Int32) (mt_gap : Int32) (mt_best : (Nat → Int32)) (mt_given : (Nat → Int32)) (k_41 : Int32 → (Nat → Int32) → Option (Int32 × Int32 × (Nat → Int32) × (Nat → Int32))) (Hk_41 : ∀ (v1 : Int32) (mt_best : (Nat → Int32)), k_41 v1 mt_best = some res → ∀ (H : Heap) (locs : List Loc), Wo G A s (wX2_solve G a_mat a_mat_score a_mat_best a_mat_given mt_offers mt_wants mt_pairs mt_gap mt_score mt_best mt_given) H locs → ∀ ls : Array Slot, lv_has ls 3 [(0, .ref a_mat), (1, .int v1)] → W p l e rmX2_solve s m args below meth c H locs 0 0 (QV G A below args s (wX2_solve G a_mat a_mat_score a_mat_best a_mat_given mt_offers mt_wants res.1 res.2.1 mt_score res.2.2.1 res.2.2.2)) (F0 m 41 ls [])) (h : fX2_solve_81 k_41 v1 mt_best = some res) : ∀ (H : Heap) (locs : List Loc), Wo G A s (wX2_solve G a_mat a_mat_score a_mat_best a_mat_given mt_offers mt_wants mt_pairs mt_gap mt_score mt_best mt_given) H locs → ∀ ls : Array Slot, lv_has ls 3 [(0, .ref a_mat), (1, .int v1)] → W p l e rmX2_solve s m args below meth c H locs 0 0 (QV G A below args s (wX2_solve G a_mat a_mat_score a_mat_best a_mat_given mt_offers mt_wants res.1 res.2.1 mt_score res.2.2.1 res.2.2.2)) (F0 m 81 ls []) := by
  obtain ⟨hx, hb, -⟩ := id X.1
  intro H locs hW ls hl
  rw [fX2_solve_81] at h
  refine lv_iinc (v := (v1 + (-1 : Int32))) (lv' := [(1, .int (v1 + (-1 : Int32))), (0, .ref a_mat)]) hx hb dX2_solve_81 hl (k := 1) rfl (congrArg (fun z => v1 + z) qI_m1) (by decide) rfl (fun ls hl => ?_)
  refine lv_goto (tgt := 41) hx hb dX2_solve_84 (by decide) ?_
  exact Hk_41 (v1 + (-1 : Int32)) mt_best h H locs hW ls (lv_sub hl [1, 0] rfl)
set_option maxHeartbeats 4000000 in
set_option maxRecDepth 100000 in
theorem tX2_solve_47 (X : Bx p s m args meth c cX2_solve 3 wsX2_solve RX2 none) (v1 : Int32) (mt_pairs : Int32) (mt_gap : Int32) (mt_given : (Nat → Int32)) (k_81 : (Nat → Int32) → Option (Int32 × Int32 × (Nat → Int32) × (Nat → Int32))) (Hk_81 : ∀ (mt_best : (Nat → Int32)), k_81 mt_best = some res → ∀ (H : Heap) (locs : List Loc), Wo G A s (wX2_solve G a_mat a_mat_score a_mat_best a_mat_given mt_offers mt_wants mt_pairs mt_gap mt_score mt_best mt_given) H locs → ∀ ls : Array Slot, lv_has ls 3 [(0, .ref a_mat), (1, .int v1)] → W p l e rmX2_solve s m args below meth c H locs 0 0 (QV G A below args s (wX2_solve G a_mat a_mat_score a_mat_best a_mat_given mt_offers mt_wants res.1 res.2.1 mt_score res.2.2.1 res.2.2.2)) (F0 m 81 ls [])) : ∀ (n : Nat) (v2 : Int32) (mt_best : (Nat → Int32)), fX2_solve_47 v1 mt_wants mt_score k_81 n v2 mt_best = some res → ∀ (H : Heap) (locs : List Loc), Wo G A s (wX2_solve G a_mat a_mat_score a_mat_best a_mat_given mt_offers mt_wants mt_pairs mt_gap mt_score mt_best mt_given) H locs → ∀ ls : Array Slot, lv_has ls 3 [(0, .ref a_mat), (1, .int v1), (2, .int v2)] → W p l e rmX2_solve s m args below meth c H locs 0 0 (QV G A below args s (wX2_solve G a_mat a_mat_score a_mat_best a_mat_given mt_offers mt_wants res.1 res.2.1 mt_score res.2.2.1 res.2.2.2)) (F0 m 47 ls []) := by
  obtain ⟨hx, hb, -⟩ := id X.1
  intro n
  induction n with
  | zero => intro v2 mt_best h; rw [fX2_solve_47] at h; cases h
  | succ n ih =>
    intro v2 mt_best h H locs hW ls hl
    rw [fX2_solve_47] at h
    refine lv_iload_n hx hb dX2_solve_47 rfl (lv_at hl 2 rfl) ?_
    refine lv_iconst hx hb dX2_solve_48 qI_1 ?_
    refine lv_aload_n hx hb dX2_solve_49 rfl (lv_at hl 0 rfl) ?_
    refine g_get X hW eX2_solve_34 0 rfl rfl dX2_solve_50 ?_
    refine g_ishl hx hb dX2_solve_53 ?_
    refine lv_icmp_ge (tgt := 81) hx hb dX2_solve_54 (by decide) (fun c71 => ?_) (fun c71 => ?_)
    · have h := (if_pos c71).symm.trans h
      exact Hk_81 mt_best h H locs hW ls (lv_sub hl [0, 1] rfl)
    · have h := (if_neg c71).symm.trans h
      refine lv_aload_n hx hb dX2_solve_57 rfl (lv_at hl 0 rfl) ?_
      refine g_get X hW eX2_solve_15 0 rfl rfl dX2_solve_58 ?_
      refine lv_iload_n hx hb dX2_solve_61 rfl (lv_at hl 1 rfl) ?_
      refine lv_sipush hx hb dX2_solve_62 qS_128 ?_
      refine lv_imul hx hb dX2_solve_65 ?_
      refine lv_iload_n hx hb dX2_solve_66 rfl (lv_at hl 2 rfl) ?_
      refine lv_iadd hx hb dX2_solve_67 ?_
      refine lv_aload_n hx hb dX2_solve_68 rfl (lv_at hl 0 rfl) ?_
      refine lv_iload_n hx hb dX2_solve_69 rfl (lv_at hl 1 rfl) ?_
      refine lv_iload_n hx hb dX2_solve_70 rfl (lv_at hl 2 rfl) ?_
      obtain ⟨r82, hq, h⟩ := bn1_some h
      refine g_cvi X hW (As := [.int v1, .int v2]) (ws' := (wX2_solve G a_mat a_mat_score a_mat_best a_mat_given mt_offers mt_wants mt_pairs mt_gap mt_score mt_best mt_given)) ckX2_solve_X2_bestFrom_41 (kcX2_bestFrom (l := l) G a_mat a_mat_score a_mat_best a_mat_given v1 v2 mt_offers mt_wants mt_pairs mt_gap mt_score mt_best hq) ⟨rfl, rfl, Nat.le_of_ble_eq_true rfl, Nat.le_of_ble_eq_true rfl⟩ [0, 1, 2] rfl rfl rfl rfl rfl rfl rfl hl.1 (Nat.le_of_ble_eq_true rfl) ⟨Nat.zero_le _, Nat.zero_le _⟩ dX2_solve_71 (fun H locs hW => ?_)
      obtain ⟨g83, h⟩ := gd_some h
      refine g_ast X hW (ws' := (wX2_solve G a_mat a_mat_score a_mat_best a_mat_given mt_offers mt_wants mt_pairs mt_gap mt_score (upd mt_best ((v1 * (128 : Int32)) + v2).toNatClampNeg r82) mt_given)) 2 rfl g83 rfl dX2_solve_74 (fun H locs hW => ?_)
      refine lv_iinc (v := (v2 + (1 : Int32))) (lv' := [(2, .int (v2 + (1 : Int32))), (0, .ref a_mat), (1, .int v1)]) hx hb dX2_solve_75 hl (k := 2) rfl (congrArg (fun z => v2 + z) qI_1) (by decide) rfl (fun ls hl => ?_)
      refine lv_goto (tgt := 47) hx hb dX2_solve_78 (by decide) ?_
      exact ih (v2 + (1 : Int32)) (upd mt_best ((v1 * (128 : Int32)) + v2).toNatClampNeg r82) h H locs hW ls (lv_sub hl [1, 2, 0] rfl)
set_option maxHeartbeats 4000000 in
set_option maxRecDepth 100000 in
theorem tX2_solve_41 (X : Bx p s m args meth c cX2_solve 3 wsX2_solve RX2 none) (mt_pairs : Int32) (mt_gap : Int32) (mt_given : (Nat → Int32)) (k_87 : (Nat → Int32) → Option (Int32 × Int32 × (Nat → Int32) × (Nat → Int32))) (Hk_87 : ∀ (mt_best : (Nat → Int32)), k_87 mt_best = some res → ∀ (H : Heap) (locs : List Loc), Wo G A s (wX2_solve G a_mat a_mat_score a_mat_best a_mat_given mt_offers mt_wants mt_pairs mt_gap mt_score mt_best mt_given) H locs → ∀ ls : Array Slot, lv_has ls 3 [(0, .ref a_mat)] → W p l e rmX2_solve s m args below meth c H locs 0 0 (QV G A below args s (wX2_solve G a_mat a_mat_score a_mat_best a_mat_given mt_offers mt_wants res.1 res.2.1 mt_score res.2.2.1 res.2.2.2)) (F0 m 87 ls [])) : ∀ (n : Nat) (v1 : Int32) (mt_best : (Nat → Int32)), fX2_solve_41 mt_wants mt_score k_87 n v1 mt_best = some res → ∀ (H : Heap) (locs : List Loc), Wo G A s (wX2_solve G a_mat a_mat_score a_mat_best a_mat_given mt_offers mt_wants mt_pairs mt_gap mt_score mt_best mt_given) H locs → ∀ ls : Array Slot, lv_has ls 3 [(0, .ref a_mat), (1, .int v1)] → W p l e rmX2_solve s m args below meth c H locs 0 0 (QV G A below args s (wX2_solve G a_mat a_mat_score a_mat_best a_mat_given mt_offers mt_wants res.1 res.2.1 mt_score res.2.2.1 res.2.2.2)) (F0 m 41 ls []) := by
  obtain ⟨hx, hb, -⟩ := id X.1
  intro n
  induction n with
  | zero => intro v1 mt_best h; rw [fX2_solve_41] at h; cases h
  | succ n ih =>
    intro v1 mt_best h H locs hW ls hl
    rw [fX2_solve_41] at h
    refine lv_iload_n hx hb dX2_solve_41 rfl (lv_at hl 1 rfl) ?_
    refine lv_if_lt (tgt := 87) hx hb dX2_solve_42 (by decide) (fun c87 => ?_) (fun c87 => ?_)
    · have h := (if_pos c87).symm.trans h
      exact Hk_87 mt_best h H locs hW ls (lv_sub hl [0] rfl)
    · have h := (if_neg c87).symm.trans h
      refine lv_iconst hx hb dX2_solve_45 qI_0 ?_
      refine lv_istore_n (lv' := [(2, .int (0 : Int32)), (0, .ref a_mat), (1, .int v1)]) hx hb dX2_solve_46 rfl hl (by decide) rfl (fun ls hl => ?_)
      exact tX2_solve_47 X v1 mt_pairs mt_gap mt_given (fun mt_best_q90 => fX2_solve_81 (fun v1 mt_best => fX2_solve_41 mt_wants mt_score k_87 n v1 mt_best) v1 mt_best_q90) (fun mt_best_q90 h H locs hW ls hl => by exact tX2_solve_81 X v1 mt_pairs mt_gap mt_best_q90 mt_given (fun v1 mt_best => fX2_solve_41 mt_wants mt_score k_87 n v1 mt_best) ih h H locs hW ls hl) FU (0 : Int32) mt_best h H locs hW ls (lv_sub hl [1, 2, 0] rfl)
set_option maxHeartbeats 4000000 in
set_option maxRecDepth 100000 in
theorem tX2_solve_34 (X : Bx p s m args meth c cX2_solve 3 wsX2_solve RX2 none) (mt_pairs : Int32) (mt_gap : Int32) (mt_best : (Nat → Int32)) (mt_given : (Nat → Int32))   (h : fX2_solve_34 mt_offers mt_wants mt_score mt_best mt_given = some res) : ∀ (H : Heap) (locs : List Loc), Wo G A s (wX2_solve G a_mat a_mat_score a_mat_best a_mat_given mt_offers mt_wants mt_pairs mt_gap mt_score mt_best mt_given) H locs → ∀ ls : Array Slot, lv_has ls 3 [(0, .ref a_mat)] → W p l e rmX2_solve s m args below meth c H locs 0 0 (QV G A below args s (wX2_solve G a_mat a_mat_score a_mat_best a_mat_given mt_offers mt_wants res.1 res.2.1 mt_score res.2.2.1 res.2.2.2)) (F0 m 34 ls []) := by
  obtain ⟨hx, hb, -⟩ := id X.1
  intro H locs hW ls hl
  rw [fX2_solve_34] at h
  refine lv_aload_n hx hb dX2_solve_34 rfl (lv_at hl 0 rfl) ?_
  refine g_get X hW eX2_solve_30 0 rfl rfl dX2_solve_35 ?_
  refine lv_iconst hx hb dX2_solve_38 qI_1 ?_
  refine lv_isub hx hb dX2_solve_39 ?_
  refine lv_istore_n (lv' := [(1, .int (mt_offers - (1 : Int32))), (0, .ref a_mat)]) hx hb dX2_solve_40 rfl hl (by decide) rfl (fun ls hl => ?_)
  exact tX2_solve_41 X mt_pairs mt_gap mt_given (fun mt_best_q96 => fX2_solve_87 mt_offers mt_wants mt_score mt_best_q96 mt_given) (fun mt_best_q96 h H locs hW ls hl => by exact tX2_solve_87 X mt_pairs mt_gap mt_best_q96 mt_given h H locs hW ls hl) FU (mt_offers - (1 : Int32)) mt_best h H locs hW ls (lv_sub hl [1, 0] rfl)
set_option maxHeartbeats 4000000 in
set_option maxRecDepth 100000 in
theorem tX2_solve_2 (X : Bx p s m args meth c cX2_solve 3 wsX2_solve RX2 none) (mt_pairs : Int32) (mt_gap : Int32) (mt_given : (Nat → Int32)) (k_34 : (Nat → Int32) → Option (Int32 × Int32 × (Nat → Int32) × (Nat → Int32))) (Hk_34 : ∀ (mt_best : (Nat → Int32)), k_34 mt_best = some res → ∀ (H : Heap) (locs : List Loc), Wo G A s (wX2_solve G a_mat a_mat_score a_mat_best a_mat_given mt_offers mt_wants mt_pairs mt_gap mt_score mt_best mt_given) H locs → ∀ ls : Array Slot, lv_has ls 3 [(0, .ref a_mat)] → W p l e rmX2_solve s m args below meth c H locs 0 0 (QV G A below args s (wX2_solve G a_mat a_mat_score a_mat_best a_mat_given mt_offers mt_wants res.1 res.2.1 mt_score res.2.2.1 res.2.2.2)) (F0 m 34 ls [])) : ∀ (n : Nat) (v1 : Int32) (mt_best : (Nat → Int32)), fX2_solve_2 mt_offers mt_wants k_34 n v1 mt_best = some res → ∀ (H : Heap) (locs : List Loc), Wo G A s (wX2_solve G a_mat a_mat_score a_mat_best a_mat_given mt_offers mt_wants mt_pairs mt_gap mt_score mt_best mt_given) H locs → ∀ ls : Array Slot, lv_has ls 3 [(0, .ref a_mat), (1, .int v1)] → W p l e rmX2_solve s m args below meth c H locs 0 0 (QV G A below args s (wX2_solve G a_mat a_mat_score a_mat_best a_mat_given mt_offers mt_wants res.1 res.2.1 mt_score res.2.2.1 res.2.2.2)) (F0 m 2 ls []) := by
  obtain ⟨hx, hb, -⟩ := id X.1
  intro n
  induction n with
  | zero => intro v1 mt_best h; rw [fX2_solve_2] at h; cases h
  | succ n ih =>
    intro v1 mt_best h H locs hW ls hl
    rw [fX2_solve_2] at h
    refine lv_iload_n hx hb dX2_solve_2 rfl (lv_at hl 1 rfl) ?_
    refine lv_iconst hx hb dX2_solve_3 qI_1 ?_
    refine lv_aload_n hx hb dX2_solve_4 rfl (lv_at hl 0 rfl) ?_
    refine g_get X hW eX2_solve_34 0 rfl rfl dX2_solve_5 ?_
    refine g_ishl hx hb dX2_solve_8 ?_
    refine lv_icmp_ge (tgt := 34) hx hb dX2_solve_9 (by decide) (fun c102 => ?_) (fun c102 => ?_)
    · have h := (if_pos c102).symm.trans h
      exact Hk_34 mt_best h H locs hW ls (lv_sub hl [0] rfl)
    · have h := (if_neg c102).symm.trans h
      refine lv_aload_n hx hb dX2_solve_12 rfl (lv_at hl 0 rfl) ?_
      refine g_get X hW eX2_solve_15 0 rfl rfl dX2_solve_13 ?_
      refine lv_aload_n hx hb dX2_solve_16 rfl (lv_at hl 0 rfl) ?_
      refine g_get X hW eX2_solve_30 0 rfl rfl dX2_solve_17 ?_
      refine lv_sipush hx hb dX2_solve_20 qS_128 ?_
      refine lv_imul hx hb dX2_solve_23 ?_
      refine lv_iload_n hx hb dX2_solve_24 rfl (lv_at hl 1 rfl) ?_
      refine lv_iadd hx hb dX2_solve_25 ?_
      refine lv_iconst hx hb dX2_solve_26 qI_0 ?_
      obtain ⟨g112, h⟩ := gd_some h
      refine g_ast X hW (ws' := (wX2_solve G a_mat a_mat_score a_mat_best a_mat_given mt_offers mt_wants mt_pairs mt_gap mt_score (upd mt_best ((mt_offers * (128 : Int32)) + v1).toNatClampNeg (0 : Int32)) mt_given)) 2 rfl g112 rfl dX2_solve_27 (fun H locs hW => ?_)
      refine lv_iinc (v := (v1 + (1 : Int32))) (lv' := [(1, .int (v1 + (1 : Int32))), (0, .ref a_mat)]) hx hb dX2_solve_28 hl (k := 1) rfl (congrArg (fun z => v1 + z) qI_1) (by decide) rfl (fun ls hl => ?_)
      refine lv_goto (tgt := 2) hx hb dX2_solve_31 (by decide) ?_
      exact ih (v1 + (1 : Int32)) (upd mt_best ((mt_offers * (128 : Int32)) + v1).toNatClampNeg (0 : Int32)) h H locs hW ls (lv_sub hl [1, 0] rfl)
set_option maxHeartbeats 4000000 in
set_option maxRecDepth 100000 in
theorem k0X2_solve {l : Launch} (G : Gt) (a_mat a_mat_score a_mat_best a_mat_given : Nat)  (mt_offers : Int32) (mt_wants : Int32) (mt_pairs : Int32) (mt_gap : Int32) (mt_score : (Nat → Int32)) (mt_best : (Nat → Int32)) (mt_given : (Nat → Int32)) {res : Int32 × Int32 × (Nat → Int32) × (Nat → Int32)} (h : fX2_solve mt_offers mt_wants mt_pairs mt_gap mt_score mt_best mt_given = some res) : CtV G l yX2_solve wsX2_solve rmX2_solve [.ref a_mat] (wX2_solve G a_mat a_mat_score a_mat_best a_mat_given mt_offers mt_wants mt_pairs mt_gap mt_score mt_best mt_given) (wX2_solve G a_mat a_mat_score a_mat_best a_mat_given mt_offers mt_wants res.1 res.2.1 mt_score res.2.2.1 res.2.2.2) := by
  refine CtV.mk (cc := cX2_solve) (maxL := 3) (ret := none) (own := RX2) (by decide) rfl rfl (Nat.le_of_ble_eq_true rfl) ?_
  intro p e s m below meth c A X ls hl hW
  obtain ⟨hx, hb, -⟩ := id X.1
  have hl : lv_has ls 3 [(0, .ref a_mat)] := hl
  generalize hH : s.heap = H at hW ⊢
  generalize hLo : ([] : List Loc) = locs at hW ⊢
  rw [fX2_solve] at h
  refine lv_iconst hx hb dX2_solve_0 qI_0 ?_
  refine lv_istore_n (lv' := [(1, .int (0 : Int32)), (0, .ref a_mat)]) hx hb dX2_solve_1 rfl hl (by decide) rfl (fun ls hl => ?_)
  exact tX2_solve_2 X mt_pairs mt_gap mt_given (fun mt_best_q117 => fX2_solve_34 mt_offers mt_wants mt_score mt_best_q117 mt_given) (fun mt_best_q117 h H locs hW ls hl => by exact tX2_solve_34 X mt_pairs mt_gap mt_best_q117 mt_given h H locs hW ls hl) FU (0 : Int32) mt_best h H locs hW ls (lv_sub hl [1, 0] rfl)
theorem kcX2_solve {l : Launch} (G : Gt) (a_mat a_mat_score a_mat_best a_mat_given : Nat)  (mt_offers : Int32) (mt_wants : Int32) (mt_pairs : Int32) (mt_gap : Int32) (mt_score : (Nat → Int32)) (mt_best : (Nat → Int32)) (mt_given : (Nat → Int32))  {z_mt_pairs : Int32} {z_mt_gap : Int32} {z_mt_best : (Nat → Int32)} {z_mt_given : (Nat → Int32)} (h : fX2_solve mt_offers mt_wants mt_pairs mt_gap mt_score mt_best mt_given = some (z_mt_pairs, z_mt_gap, z_mt_best, z_mt_given)) : CtV G l yX2_solve wsX2_solve rmX2_solve [.ref a_mat] (wX2_solve G a_mat a_mat_score a_mat_best a_mat_given mt_offers mt_wants mt_pairs mt_gap mt_score mt_best mt_given) (wX2_solve G a_mat a_mat_score a_mat_best a_mat_given mt_offers mt_wants z_mt_pairs z_mt_gap mt_score z_mt_best z_mt_given) := k0X2_solve G a_mat a_mat_score a_mat_best a_mat_given mt_offers mt_wants mt_pairs mt_gap mt_score mt_best mt_given h
end MX2_solve
/-! EmptyBoxes$Plan.isKnot -/
section MX3_isKnot
theorem hdX3_isKnot : yX3_isKnot.cls = RX3 ∧ yX3_isKnot.cls ≠ "java/lang/invoke/MethodHandle" ∧ yX3_isKnot.cls ≠ "java/lang/invoke/VarHandle" ∧ (parseMethodDescriptor yX3_isKnot.desc).map (fun d => d.parameters.length) = some 1 := by decide +kernel
abbrev rmX3_isKnot : Room := { frames := 1, cells := 0, slots := 0, locals := 22 }
theorem ckX3_isKnot_X6_isWithin_40 : CkN wsX3_isKnot RX3 40 yX6_isWithin wsX6_isWithin cX6_isWithin 3 (some .boolean) 3 := ⟨"EmptyBoxes", _, by decide +kernel, by decide +kernel, by decide +kernel, gX3_isKnot_X6_isWithin_n40, rfl, hdX6_isWithin.2⟩
variable {p : Program} {l : Launch} {e : Env} {s : State} {m : MethodId} {args : Array Value} {below : List Frame} {meth : Method} {c : Code} {A : Nat → Prop} {G : Gt} {res : Int32}
set_option maxHeartbeats 4000000 in
set_option maxRecDepth 100000 in
theorem k0X3_isKnot {l : Launch} (G : Gt) (v0 : Int32)  {res : Int32} (h : fX3_isKnot v0 = some res) : CtI G l yX3_isKnot wsX3_isKnot rmX3_isKnot [.int v0] ([] : va_W) res ([] : va_W) := by
  refine CtI.mk (cc := cX3_isKnot) (maxL := 1) (ret := (some .boolean)) (own := RX3) (by decide) rfl rfl (Nat.le_of_ble_eq_true rfl) ?_
  intro p e s m below meth c A X ls hl hW
  obtain ⟨hx, hb, -⟩ := id X.1
  have hl : lv_has ls 1 [(0, .int v0)] := hl
  generalize hH : s.heap = H at hW ⊢
  generalize hLo : ([] : List Loc) = locs at hW ⊢
  rw [fX3_isKnot] at h
  refine lv_iload_n hx hb dX3_isKnot_0 rfl (lv_at hl 0 rfl) ?_
  refine lv_iconst hx hb dX3_isKnot_1 qI_0 ?_
  refine lv_bipush hx hb dX3_isKnot_2 qB_29 ?_
  obtain ⟨r4, hq, h⟩ := bn1_some h
  refine g_cni X hW (As := [.int v0, .int (0 : Int32), .int (29 : Int32)]) (ws' := ([] : va_W)) ckX3_isKnot_X6_isWithin_40 (kcX6_isWithin (l := l) G v0 (0 : Int32) (29 : Int32) hq) ⟨rfl, rfl, Nat.le_of_ble_eq_true rfl, Nat.le_of_ble_eq_true rfl⟩ [] rfl rfl rfl rfl rfl rfl hl.1 (Nat.le_of_ble_eq_true rfl) ⟨Nat.zero_le _, Nat.zero_le _⟩ dX3_isKnot_4 (fun H locs hW => ?_)
  obtain ⟨g5, h⟩ := gd_some h
  obtain rfl := Option.some.inj h
  exact g_zret X hW g5 dX3_isKnot_7
theorem kcX3_isKnot {l : Launch} (G : Gt) (v0 : Int32)  {r : Int32}  (h : fX3_isKnot v0 = some r) : CtI G l yX3_isKnot wsX3_isKnot rmX3_isKnot [.int v0] ([] : va_W) r ([] : va_W) := k0X3_isKnot G v0 h
end MX3_isKnot
/-! EmptyBoxes$Plan.gainAt -/
section MX3_gainAt
theorem hdX3_gainAt : yX3_gainAt.cls = RX3 ∧ yX3_gainAt.cls ≠ "java/lang/invoke/MethodHandle" ∧ yX3_gainAt.cls ≠ "java/lang/invoke/VarHandle" ∧ (parseMethodDescriptor yX3_gainAt.desc).map (fun d => d.parameters.length) = some 1 := by decide +kernel
abbrev wX3_gainAt (G : Gt) (a_plan a_plan_gain a_plan_start a_plan_end a_plan_cost a_plan_room a_plan_idle a_plan_unmet a_plan_way : Nat) (pl_arcs : Int32) (pl_lack : Int32) (pl_least : Int32) (pl_gain : (Nat → Int32)) : va_W := [(a_plan, .inr (3, [.ref a_plan_start, .ref a_plan_end, .ref a_plan_cost, .ref a_plan_room, .ref a_plan_idle, .ref a_plan_unmet, .ref a_plan_gain, .ref a_plan_way, .int pl_arcs, .int pl_lack, .int pl_least])), (a_plan_gain, .inl (G.2.1, 30, .inl pl_gain))]
abbrev rmX3_gainAt : Room := { frames := 2, cells := 0, slots := 0, locals := 42 }
theorem iX3_gainAt_X3 : ∀ w ∈ wsX30, w ∈ wsX3_gainAt := by decide +kernel
theorem eX3_gainAt_30 : Fk wsX3_gainAt RX3 30 3 6 := ⟨RX3, TX3, 11, rfl, iX3_gainAt_X3, by decide, by decide +kernel⟩
theorem ckX3_gainAt_X3_isKnot_36 : CkS wsX3_gainAt RX3 36 yX3_isKnot wsX3_isKnot cX3_isKnot 1 (some .boolean) 1 := ⟨_, gX3_gainAt_X3_isKnot, rfl, hdX3_isKnot.2⟩
variable {p : Program} {l : Launch} {e : Env} {s : State} {m : MethodId} {args : Array Value} {below : List Frame} {meth : Method} {c : Code} {A : Nat → Prop} {G : Gt} {a_plan a_plan_gain a_plan_start a_plan_end a_plan_cost a_plan_room a_plan_idle a_plan_unmet a_plan_way : Nat} {pl_arcs : Int32} {pl_lack : Int32} {pl_least : Int32} {pl_gain : (Nat → Int32)} {res : Int32}
set_option maxHeartbeats 4000000 in
set_option maxRecDepth 100000 in
theorem k0X3_gainAt {l : Launch} (G : Gt) (a_plan a_plan_gain a_plan_start a_plan_end a_plan_cost a_plan_room a_plan_idle a_plan_unmet a_plan_way : Nat) (v1 : Int32) (pl_arcs : Int32) (pl_lack : Int32) (pl_least : Int32) (pl_gain : (Nat → Int32)) {res : Int32} (h : fX3_gainAt v1 pl_gain = some res) : CtI G l yX3_gainAt wsX3_gainAt rmX3_gainAt [.ref a_plan, .int v1] (wX3_gainAt G a_plan a_plan_gain a_plan_start a_plan_end a_plan_cost a_plan_room a_plan_idle a_plan_unmet a_plan_way pl_arcs pl_lack pl_least pl_gain) res (wX3_gainAt G a_plan a_plan_gain a_plan_start a_plan_end a_plan_cost a_plan_room a_plan_idle a_plan_unmet a_plan_way pl_arcs pl_lack pl_least pl_gain) := by
  refine CtI.mk (cc := cX3_gainAt) (maxL := 2) (ret := (some .int)) (own := RX3) (by decide) rfl rfl (Nat.le_of_ble_eq_true rfl) ?_
  intro p e s m below meth c A X ls hl hW
  obtain ⟨hx, hb, -⟩ := id X.1
  have hl : lv_has ls 2 [(0, .ref a_plan), (1, .int v1)] := hl
  generalize hH : s.heap = H at hW ⊢
  generalize hLo : ([] : List Loc) = locs at hW ⊢
  rw [fX3_gainAt] at h
  refine lv_iload_n hx hb dX3_gainAt_0 rfl (lv_at hl 1 rfl) ?_
  obtain ⟨r2, hq, h⟩ := bn1_some h
  refine g_csi X hW (As := [.int v1]) (ws' := (wX3_gainAt G a_plan a_plan_gain a_plan_start a_plan_end a_plan_cost a_plan_room a_plan_idle a_plan_unmet a_plan_way pl_arcs pl_lack pl_least pl_gain)) ckX3_gainAt_X3_isKnot_36 (kcX3_isKnot (l := l) G v1 hq) ⟨rfl, rfl, Nat.le_of_ble_eq_true rfl, Nat.le_of_ble_eq_true rfl⟩ [] rfl rfl rfl rfl rfl rfl hl.1 (Nat.le_of_ble_eq_true rfl) ⟨Nat.zero_le _, Nat.zero_le _⟩ dX3_gainAt_1 (fun H locs hW => ?_)
  refine lv_if_eq (tgt := 16) hx hb dX3_gainAt_4 (by decide) (fun c3 => ?_) (fun c3 => ?_)
  · have h := (if_pos c3).symm.trans h
    refine lv_iconst hx hb dX3_gainAt_16 qI_0 ?_
    obtain rfl := Option.some.inj h
    exact g_iret X hW dX3_gainAt_17
  · have h := (if_neg c3).symm.trans h
    refine lv_aload_n hx hb dX3_gainAt_7 rfl (lv_at hl 0 rfl) ?_
    refine g_get X hW eX3_gainAt_30 0 rfl rfl dX3_gainAt_8 ?_
    refine lv_iload_n hx hb dX3_gainAt_11 rfl (lv_at hl 1 rfl) ?_
    obtain ⟨g9, h⟩ := gd_some h
    refine g_ald X hW 1 rfl g9 dX3_gainAt_12 ?_
    refine lv_goto (tgt := 17) hx hb dX3_gainAt_13 (by decide) ?_
    obtain rfl := Option.some.inj h
    exact g_iret X hW dX3_gainAt_17
theorem kcX3_gainAt {l : Launch} (G : Gt) (a_plan a_plan_gain a_plan_start a_plan_end a_plan_cost a_plan_room a_plan_idle a_plan_unmet a_plan_way : Nat) (v1 : Int32) (pl_arcs : Int32) (pl_lack : Int32) (pl_least : Int32) (pl_gain : (Nat → Int32)) {r : Int32}  (h : fX3_gainAt v1 pl_gain = some r) : CtI G l yX3_gainAt wsX3_gainAt rmX3_gainAt [.ref a_plan, .int v1] (wX3_gainAt G a_plan a_plan_gain a_plan_start a_plan_end a_plan_cost a_plan_room a_plan_idle a_plan_unmet a_plan_way pl_arcs pl_lack pl_least pl_gain) r (wX3_gainAt G a_plan a_plan_gain a_plan_start a_plan_end a_plan_cost a_plan_room a_plan_idle a_plan_unmet a_plan_way pl_arcs pl_lack pl_least pl_gain) := k0X3_gainAt G a_plan a_plan_gain a_plan_start a_plan_end a_plan_cost a_plan_room a_plan_idle a_plan_unmet a_plan_way v1 pl_arcs pl_lack pl_least pl_gain h
end MX3_gainAt
/-! EmptyBoxes$Plan.layKnots -/
section MX3_layKnots
theorem hdX3_layKnots : yX3_layKnots.cls = RX3 ∧ yX3_layKnots.cls ≠ "java/lang/invoke/MethodHandle" ∧ yX3_layKnots.cls ≠ "java/lang/invoke/VarHandle" ∧ (parseMethodDescriptor yX3_layKnots.desc).map (fun d => d.parameters.length) = some 1 := by decide +kernel
abbrev wX3_layKnots (G : Gt) (a_plan a_plan_idle a_plan_unmet a_od a_od_weeks a_od_weeks_a a_plan_start a_plan_end a_plan_cost a_plan_room a_plan_gain a_plan_way a_od_boxes a_od_words a_od_routes a_od_offers a_od_wants a_od_leaves a_od_leases a_od_uses : Nat) (pl_arcs : Int32) (pl_lack : Int32) (pl_least : Int32) (pl_idle : (Nat → Int32)) (pl_unmet : (Nat → Int32)) (o_today : Int32) (o_lack : Int32) (o_rate : Int32) (o_free : Int32) (o_weeks_r : Int32) (o_weeks_f : (Nat → Int32)) : va_W := [(a_plan, .inr (3, [.ref a_plan_start, .ref a_plan_end, .ref a_plan_cost, .ref a_plan_room, .ref a_plan_idle, .ref a_plan_unmet, .ref a_plan_gain, .ref a_plan_way, .int pl_arcs, .int pl_lack, .int pl_least])), (a_plan_idle, .inl (G.2.1, 30, .inl pl_idle)), (a_plan_unmet, .inl (G.2.1, 30, .inl pl_unmet)), (a_od, .inr (0, [.ref a_od_boxes, .ref a_od_words, .ref a_od_weeks, .ref a_od_routes, .ref a_od_offers, .ref a_od_wants, .ref a_od_leaves, .ref a_od_leases, .ref a_od_uses, .int o_today, .int o_lack, .int o_rate, .int o_free])), (a_od_weeks, .inr (4, [.ref a_od_weeks_a, .int (2 : Int32), .int (30 : Int32), .int o_weeks_r])), (a_od_weeks_a, .inl (G.2.1, 60, .inl o_weeks_f))]
abbrev rmX3_layKnots : Room := { frames := 2, cells := 0, slots := 0, locals := 44 }
theorem iX3_layKnots_X0 : ∀ w ∈ wsX00, w ∈ wsX3_layKnots := by decide +kernel
theorem iX3_layKnots_X3 : ∀ w ∈ wsX30, w ∈ wsX3_layKnots := by decide +kernel
theorem eX3_layKnots_24 : Fk wsX3_layKnots RX3 24 3 4 := ⟨RX3, TX3, 11, rfl, iX3_layKnots_X3, by decide, by decide +kernel⟩
theorem eX3_layKnots_27 : Fk wsX3_layKnots RX3 27 3 5 := ⟨RX3, TX3, 11, rfl, iX3_layKnots_X3, by decide, by decide +kernel⟩
theorem eX3_layKnots_69 : Fk wsX3_layKnots RX3 69 0 10 := ⟨RX0, TX0, 13, rfl, iX3_layKnots_X0, by decide, by decide +kernel⟩
theorem eX3_layKnots_73 : Fk wsX3_layKnots RX3 73 3 9 := ⟨RX3, TX3, 11, rfl, iX3_layKnots_X3, by decide, by decide +kernel⟩
theorem eX3_layKnots_74 : Fk wsX3_layKnots RX3 74 3 10 := ⟨RX3, TX3, 11, rfl, iX3_layKnots_X3, by decide, by decide +kernel⟩
theorem eX3_layKnots_77 : Fk wsX3_layKnots RX3 77 0 2 := ⟨RX0, TX0, 13, rfl, iX3_layKnots_X0, by decide, by decide +kernel⟩
theorem pX3_layKnots_73 : Fp wsX3_layKnots RX3 73 3 9 .int := ⟨RX3, TX3, 11, tyX3, rfl, iX3_layKnots_X3, by decide, by decide +kernel, tyX3_ok, nmX3, rfl, by decide +kernel⟩
theorem pX3_layKnots_74 : Fp wsX3_layKnots RX3 74 3 10 .int := ⟨RX3, TX3, 11, tyX3, rfl, iX3_layKnots_X3, by decide, by decide +kernel, tyX3_ok, nmX3, rfl, by decide +kernel⟩
theorem ckX3_layKnots_X4_cell_80 : CkV wsX3_layKnots RX3 80 yX4_cell wsX4_cell cX4_cell 3 (some .int) 2 4 := ⟨RX4, TX4, 4, _, rfl, gX3_layKnots_X4_cell, rfl, hdX4_cell⟩
theorem cmX3_layKnots_86 : CkM wsX3_layKnots RX3 86 Lib.Math.max.name Lib.Math.max.code 2 := by decide +kernel
variable {p : Program} {l : Launch} {e : Env} {s : State} {m : MethodId} {args : Array Value} {below : List Frame} {meth : Method} {c : Code} {A : Nat → Prop} {G : Gt} {a_plan a_plan_idle a_plan_unmet a_od a_od_weeks a_od_weeks_a a_plan_start a_plan_end a_plan_cost a_plan_room a_plan_gain a_plan_way a_od_boxes a_od_words a_od_routes a_od_offers a_od_wants a_od_leaves a_od_leases a_od_uses : Nat} {pl_arcs : Int32} {o_today : Int32} {o_lack : Int32} {o_rate : Int32} {o_free : Int32} {o_weeks_r : Int32} {o_weeks_f : (Nat → Int32)} {res : Int32 × Int32 × (Nat → Int32) × (Nat → Int32)}
set_option maxHeartbeats 4000000 in
set_option maxRecDepth 100000 in
theorem tX3_layKnots_15 (X : Bx p s m args meth c cX3_layKnots 5 wsX3_layKnots RX3 none) (pl_lack : Int32)   : ∀ (n : Nat) (v2 : Int32) (pl_least : Int32) (pl_idle : (Nat → Int32)) (pl_unmet : (Nat → Int32)), fX3_layKnots_15 pl_lack o_weeks_r o_weeks_f n v2 pl_least pl_idle pl_unmet = some res → ∀ (H : Heap) (locs : List Loc), Wo G A s (wX3_layKnots G a_plan a_plan_idle a_plan_unmet a_od a_od_weeks a_od_weeks_a a_plan_start a_plan_end a_plan_cost a_plan_room a_plan_gain a_plan_way a_od_boxes a_od_words a_od_routes a_od_offers a_od_wants a_od_leaves a_od_leases a_od_uses pl_arcs pl_lack pl_least pl_idle pl_unmet o_today o_lack o_rate o_free o_weeks_r o_weeks_f) H locs → ∀ ls : Array Slot, lv_has ls 5 [(0, .ref a_plan), (1, .ref a_od), (2, .int v2)] → W p l e rmX3_layKnots s m args below meth c H locs 0 0 (QV G A below args s (wX3_layKnots G a_plan a_plan_idle a_plan_unmet a_od a_od_weeks a_od_weeks_a a_plan_start a_plan_end a_plan_cost a_plan_room a_plan_gain a_plan_way a_od_boxes a_od_words a_od_routes a_od_offers a_od_wants a_od_leaves a_od_leases a_od_uses pl_arcs res.1 res.2.1 res.2.2.1 res.2.2.2 o_today o_lack o_rate o_free o_weeks_r o_weeks_f)) (F0 m 15 ls []) := by
  obtain ⟨hx, hb, -⟩ := id X.1
  intro n
  induction n with
  | zero => intro v2 pl_least pl_idle pl_unmet h; rw [fX3_layKnots_15] at h; cases h
  | succ n ih =>
    intro v2 pl_least pl_idle pl_unmet h H locs hW ls hl
    rw [fX3_layKnots_15] at h
    refine lv_iload_n hx hb dX3_layKnots_15 rfl (lv_at hl 2 rfl) ?_
    refine lv_bipush hx hb dX3_layKnots_16 qB_30 ?_
    refine lv_icmp_ge (tgt := 96) hx hb dX3_layKnots_18 (by decide) (fun c3 => ?_) (fun c3 => ?_)
    · have h := (if_pos c3).symm.trans h
      obtain rfl := Option.some.inj h
      exact g_vret X hW dX3_layKnots_96
    · have h := (if_neg c3).symm.trans h
      refine lv_aload_n hx hb dX3_layKnots_21 rfl (lv_at hl 1 rfl) ?_
      refine g_get X hW eX3_layKnots_77 3 rfl rfl dX3_layKnots_22 ?_
      refine lv_iload_n hx hb dX3_layKnots_25 rfl (lv_at hl 2 rfl) ?_
      refine lv_iconst hx hb dX3_layKnots_26 qI_0 ?_
      obtain ⟨r9, hq, h⟩ := bn1_some h
      refine g_cvi X hW (As := [.int v2, .int (0 : Int32)]) (ws' := (wX3_layKnots G a_plan a_plan_idle a_plan_unmet a_od a_od_weeks a_od_weeks_a a_plan_start a_plan_end a_plan_cost a_plan_room a_plan_gain a_plan_way a_od_boxes a_od_words a_od_routes a_od_offers a_od_wants a_od_leaves a_od_leases a_od_uses pl_arcs pl_lack pl_least pl_idle pl_unmet o_today o_lack o_rate o_free o_weeks_r o_weeks_f)) ckX3_layKnots_X4_cell_80 (kcX4_cell (l := l) G a_od_weeks a_od_weeks_a v2 (0 : Int32) (2 : Int32) (30 : Int32) o_weeks_r 60 o_weeks_f hq) ⟨rfl, rfl, Nat.le_of_ble_eq_true rfl, Nat.le_of_ble_eq_true rfl⟩ [4, 5] rfl rfl rfl rfl rfl rfl rfl hl.1 (Nat.le_of_ble_eq_true rfl) ⟨Nat.zero_le _, Nat.zero_le _⟩ dX3_layKnots_27 (fun H locs hW => ?_)
      refine lv_istore_n (lv' := [(3, .int r9), (0, .ref a_plan), (1, .ref a_od), (2, .int v2)]) hx hb dX3_layKnots_30 rfl hl (by decide) rfl (fun ls hl => ?_)
      refine lv_aload_n hx hb dX3_layKnots_31 rfl (lv_at hl 2 rfl) ?_
      refine g_get X hW eX3_layKnots_77 3 rfl rfl dX3_layKnots_32 ?_
      refine lv_iload_n hx hb dX3_layKnots_35 rfl (lv_at hl 3 rfl) ?_
      refine lv_iconst hx hb dX3_layKnots_36 qI_1 ?_
      obtain ⟨r15, hq, h⟩ := bn1_some h
      refine g_cvi X hW (As := [.int v2, .int (1 : Int32)]) (ws' := (wX3_layKnots G a_plan a_plan_idle a_plan_unmet a_od a_od_weeks a_od_weeks_a a_plan_start a_plan_end a_plan_cost a_plan_room a_plan_gain a_plan_way a_od_boxes a_od_words a_od_routes a_od_offers a_od_wants a_od_leaves a_od_leases a_od_uses pl_arcs pl_lack pl_least pl_idle pl_unmet o_today o_lack o_rate o_free o_weeks_r o_weeks_f)) ckX3_layKnots_X4_cell_80 (kcX4_cell (l := l) G a_od_weeks a_od_weeks_a v2 (1 : Int32) (2 : Int32) (30 : Int32) o_weeks_r 60 o_weeks_f hq) ⟨rfl, rfl, Nat.le_of_ble_eq_true rfl, Nat.le_of_ble_eq_true rfl⟩ [4, 5] rfl rfl rfl rfl rfl rfl rfl hl.1 (Nat.le_of_ble_eq_true rfl) ⟨Nat.zero_le _, Nat.zero_le _⟩ dX3_layKnots_37 (fun H locs hW => ?_)
      refine lv_istore (lv' := [(4, .int r15), (3, .int r9), (0, .ref a_plan), (1, .ref a_od), (2, .int v2)]) hx hb dX3_layKnots_40 hl (by decide) rfl (fun ls hl => ?_)
      refine lv_aload_n hx hb dX3_layKnots_42 rfl (lv_at hl 2 rfl) ?_
      refine g_get X hW eX3_layKnots_24 0 rfl rfl dX3_layKnots_43 ?_
      refine lv_iload_n hx hb dX3_layKnots_46 rfl (lv_at hl 4 rfl) ?_
      refine lv_iconst hx hb dX3_layKnots_47 qI_0 ?_
      refine lv_iload_n hx hb dX3_layKnots_48 rfl (lv_at hl 1 rfl) ?_
      refine lv_iload hx hb dX3_layKnots_49 (lv_at hl 0 rfl) ?_
      refine lv_isub hx hb dX3_layKnots_51 ?_
      refine g_mmax X cmX3_layKnots_86 hl.1 (Nat.le_of_ble_eq_true rfl) (Nat.le_of_ble_eq_true rfl) ⟨Nat.zero_le _, Nat.zero_le _⟩ dX3_layKnots_52 ?_
      obtain ⟨g25, h⟩ := gd_some h
      refine g_ast X hW (ws' := (wX3_layKnots G a_plan a_plan_idle a_plan_unmet a_od a_od_weeks a_od_weeks_a a_plan_start a_plan_end a_plan_cost a_plan_room a_plan_gain a_plan_way a_od_boxes a_od_words a_od_routes a_od_offers a_od_wants a_od_leaves a_od_leases a_od_uses pl_arcs pl_lack pl_least (upd pl_idle v2.toNatClampNeg (imax (0 : Int32) (r9 - r15))) pl_unmet o_today o_lack o_rate o_free o_weeks_r o_weeks_f)) 1 rfl g25 rfl dX3_layKnots_55 (fun H locs hW => ?_)
      refine lv_aload_n hx hb dX3_layKnots_56 rfl (lv_at hl 2 rfl) ?_
      refine g_get X hW eX3_layKnots_27 0 rfl rfl dX3_layKnots_57 ?_
      refine lv_iload_n hx hb dX3_layKnots_60 rfl (lv_at hl 4 rfl) ?_
      refine lv_iconst hx hb dX3_layKnots_61 qI_0 ?_
      refine lv_iload hx hb dX3_layKnots_62 (lv_at hl 0 rfl) ?_
      refine lv_iload_n hx hb dX3_layKnots_64 rfl (lv_at hl 1 rfl) ?_
      refine lv_isub hx hb dX3_layKnots_65 ?_
      refine g_mmax X cmX3_layKnots_86 hl.1 (Nat.le_of_ble_eq_true rfl) (Nat.le_of_ble_eq_true rfl) ⟨Nat.zero_le _, Nat.zero_le _⟩ dX3_layKnots_66 ?_
      obtain ⟨g34, h⟩ := gd_some h
      refine g_ast X hW (ws' := (wX3_layKnots G a_plan a_plan_idle a_plan_unmet a_od a_od_weeks a_od_weeks_a a_plan_start a_plan_end a_plan_cost a_plan_room a_plan_gain a_plan_way a_od_boxes a_od_words a_od_routes a_od_offers a_od_wants a_od_leaves a_od_leases a_od_uses pl_arcs pl_lack pl_least (upd pl_idle v2.toNatClampNeg (imax (0 : Int32) (r9 - r15))) (upd pl_unmet v2.toNatClampNeg (imax (0 : Int32) (r15 - r9))) o_today o_lack o_rate o_free o_weeks_r o_weeks_f)) 2 rfl g34 rfl dX3_layKnots_69 (fun H locs hW => ?_)
      refine lv_aload_n hx hb dX3_layKnots_70 rfl (lv_at hl 2 rfl) ?_
      refine lv_dup hx hb dX3_layKnots_71 rfl ?_
      refine g_get X hW eX3_layKnots_74 0 rfl rfl dX3_layKnots_72 ?_
      refine lv_aload_n hx hb dX3_layKnots_75 rfl (lv_at hl 2 rfl) ?_
      refine g_get X hW eX3_layKnots_73 0 rfl rfl dX3_layKnots_76 ?_
      refine lv_aload_n hx hb dX3_layKnots_79 rfl (lv_at hl 2 rfl) ?_
      refine g_get X hW eX3_layKnots_27 0 rfl rfl dX3_layKnots_80 ?_
      refine lv_iload_n hx hb dX3_layKnots_83 rfl (lv_at hl 4 rfl) ?_
      obtain ⟨g43, h⟩ := gd_some h
      refine g_ald X hW 2 rfl g43 dX3_layKnots_84 ?_
      refine lv_imul hx hb dX3_layKnots_85 ?_
      refine lv_iadd hx hb dX3_layKnots_86 ?_
      refine g_put X hW (ws' := (wX3_layKnots G a_plan a_plan_idle a_plan_unmet a_od a_od_weeks a_od_weeks_a a_plan_start a_plan_end a_plan_cost a_plan_room a_plan_gain a_plan_way a_od_boxes a_od_words a_od_routes a_od_offers a_od_wants a_od_leaves a_od_leases a_od_uses pl_arcs pl_lack (pl_least + (pl_lack * ((upd pl_unmet v2.toNatClampNeg (imax (0 : Int32) (r15 - r9))) v2.toNatClampNeg))) (upd pl_idle v2.toNatClampNeg (imax (0 : Int32) (r9 - r15))) (upd pl_unmet v2.toNatClampNeg (imax (0 : Int32) (r15 - r9))) o_today o_lack o_rate o_free o_weeks_r o_weeks_f)) pX3_layKnots_74 0 rfl (Nat.le_of_ble_eq_true rfl) rfl rfl rfl dX3_layKnots_87 (fun H locs hW => ?_)
      refine lv_iinc (v := (v2 + (1 : Int32))) (lv' := [(2, .int (v2 + (1 : Int32))), (4, .int r15), (3, .int r9), (0, .ref a_plan), (1, .ref a_od)]) hx hb dX3_layKnots_90 hl (k := 4) rfl (congrArg (fun z => v2 + z) qI_1) (by decide) rfl (fun ls hl => ?_)
      refine lv_goto (tgt := 15) hx hb dX3_layKnots_93 (by decide) ?_
      exact ih (v2 + (1 : Int32)) (pl_least + (pl_lack * ((upd pl_unmet v2.toNatClampNeg (imax (0 : Int32) (r15 - r9))) v2.toNatClampNeg))) (upd pl_idle v2.toNatClampNeg (imax (0 : Int32) (r9 - r15))) (upd pl_unmet v2.toNatClampNeg (imax (0 : Int32) (r15 - r9))) h H locs hW ls (lv_sub hl [3, 4, 0] rfl)
set_option maxHeartbeats 4000000 in
set_option maxRecDepth 100000 in
theorem k0X3_layKnots {l : Launch} (G : Gt) (a_plan a_plan_idle a_plan_unmet a_od a_od_weeks a_od_weeks_a a_plan_start a_plan_end a_plan_cost a_plan_room a_plan_gain a_plan_way a_od_boxes a_od_words a_od_routes a_od_offers a_od_wants a_od_leaves a_od_leases a_od_uses : Nat)  (pl_arcs : Int32) (pl_lack : Int32) (pl_least : Int32) (pl_idle : (Nat → Int32)) (pl_unmet : (Nat → Int32)) (o_today : Int32) (o_lack : Int32) (o_rate : Int32) (o_free : Int32) (o_weeks_r : Int32) (o_weeks_f : (Nat → Int32)) {res : Int32 × Int32 × (Nat → Int32) × (Nat → Int32)} (h : fX3_layKnots pl_lack pl_least pl_idle pl_unmet o_lack o_weeks_r o_weeks_f = some res) : CtV G l yX3_layKnots wsX3_layKnots rmX3_layKnots [.ref a_plan, .ref a_od] (wX3_layKnots G a_plan a_plan_idle a_plan_unmet a_od a_od_weeks a_od_weeks_a a_plan_start a_plan_end a_plan_cost a_plan_room a_plan_gain a_plan_way a_od_boxes a_od_words a_od_routes a_od_offers a_od_wants a_od_leaves a_od_leases a_od_uses pl_arcs pl_lack pl_least pl_idle pl_unmet o_today o_lack o_rate o_free o_weeks_r o_weeks_f) (wX3_layKnots G a_plan a_plan_idle a_plan_unmet a_od a_od_weeks a_od_weeks_a a_plan_start a_plan_end a_plan_cost a_plan_room a_plan_gain a_plan_way a_od_boxes a_od_words a_od_routes a_od_offers a_od_wants a_od_leaves a_od_leases a_od_uses pl_arcs res.1 res.2.1 res.2.2.1 res.2.2.2 o_today o_lack o_rate o_free o_weeks_r o_weeks_f) := by
  refine CtV.mk (cc := cX3_layKnots) (maxL := 5) (ret := none) (own := RX3) (by decide) rfl rfl (Nat.le_of_ble_eq_true rfl) ?_
  intro p e s m below meth c A X ls hl hW
  obtain ⟨hx, hb, -⟩ := id X.1
  have hl : lv_has ls 5 [(0, .ref a_plan), (1, .ref a_od)] := hl
  generalize hH : s.heap = H at hW ⊢
  generalize hLo : ([] : List Loc) = locs at hW ⊢
  rw [fX3_layKnots] at h
  refine lv_aload_n hx hb dX3_layKnots_0 rfl (lv_at hl 0 rfl) ?_
  refine lv_aload_n hx hb dX3_layKnots_1 rfl (lv_at hl 1 rfl) ?_
  refine g_get X hW eX3_layKnots_69 3 rfl rfl dX3_layKnots_2 ?_
  refine g_put X hW (ws' := (wX3_layKnots G a_plan a_plan_idle a_plan_unmet a_od a_od_weeks a_od_weeks_a a_plan_start a_plan_end a_plan_cost a_plan_room a_plan_gain a_plan_way a_od_boxes a_od_words a_od_routes a_od_offers a_od_wants a_od_leaves a_od_leases a_od_uses pl_arcs o_lack pl_least pl_idle pl_unmet o_today o_lack o_rate o_free o_weeks_r o_weeks_f)) pX3_layKnots_73 0 rfl (Nat.le_of_ble_eq_true rfl) rfl rfl rfl dX3_layKnots_5 (fun H locs hW => ?_)
  refine lv_aload_n hx hb dX3_layKnots_8 rfl (lv_at hl 0 rfl) ?_
  refine lv_iconst hx hb dX3_layKnots_9 qI_0 ?_
  refine g_put X hW (ws' := (wX3_layKnots G a_plan a_plan_idle a_plan_unmet a_od a_od_weeks a_od_weeks_a a_plan_start a_plan_end a_plan_cost a_plan_room a_plan_gain a_plan_way a_od_boxes a_od_words a_od_routes a_od_offers a_od_wants a_od_leaves a_od_leases a_od_uses pl_arcs o_lack (0 : Int32) pl_idle pl_unmet o_today o_lack o_rate o_free o_weeks_r o_weeks_f)) pX3_layKnots_74 0 rfl (Nat.le_of_ble_eq_true rfl) rfl rfl rfl dX3_layKnots_10 (fun H locs hW => ?_)
  refine lv_iconst hx hb dX3_layKnots_13 qI_0 ?_
  refine lv_istore_n (lv' := [(2, .int (0 : Int32)), (0, .ref a_plan), (1, .ref a_od)]) hx hb dX3_layKnots_14 rfl hl (by decide) rfl (fun ls hl => ?_)
  exact tX3_layKnots_15 X o_lack FU (0 : Int32) (0 : Int32) pl_idle pl_unmet h H locs hW ls (lv_sub hl [1, 2, 0] rfl)
theorem kcX3_layKnots {l : Launch} (G : Gt) (a_plan a_plan_idle a_plan_unmet a_od a_od_weeks a_od_weeks_a a_plan_start a_plan_end a_plan_cost a_plan_room a_plan_gain a_plan_way a_od_boxes a_od_words a_od_routes a_od_offers a_od_wants a_od_leaves a_od_leases a_od_uses : Nat)  (pl_arcs : Int32) (pl_lack : Int32) (pl_least : Int32) (pl_idle : (Nat → Int32)) (pl_unmet : (Nat → Int32)) (o_today : Int32) (o_lack : Int32) (o_rate : Int32) (o_free : Int32) (o_weeks_r : Int32) (o_weeks_f : (Nat → Int32))  {z_pl_lack : Int32} {z_pl_least : Int32} {z_pl_idle : (Nat → Int32)} {z_pl_unmet : (Nat → Int32)} (h : fX3_layKnots pl_lack pl_least pl_idle pl_unmet o_lack o_weeks_r o_weeks_f = some (z_pl_lack, z_pl_least, z_pl_idle, z_pl_unmet)) : CtV G l yX3_layKnots wsX3_layKnots rmX3_layKnots [.ref a_plan, .ref a_od] (wX3_layKnots G a_plan a_plan_idle a_plan_unmet a_od a_od_weeks a_od_weeks_a a_plan_start a_plan_end a_plan_cost a_plan_room a_plan_gain a_plan_way a_od_boxes a_od_words a_od_routes a_od_offers a_od_wants a_od_leaves a_od_leases a_od_uses pl_arcs pl_lack pl_least pl_idle pl_unmet o_today o_lack o_rate o_free o_weeks_r o_weeks_f) (wX3_layKnots G a_plan a_plan_idle a_plan_unmet a_od a_od_weeks a_od_weeks_a a_plan_start a_plan_end a_plan_cost a_plan_room a_plan_gain a_plan_way a_od_boxes a_od_words a_od_routes a_od_offers a_od_wants a_od_leaves a_od_leases a_od_uses pl_arcs z_pl_lack z_pl_least z_pl_idle z_pl_unmet o_today o_lack o_rate o_free o_weeks_r o_weeks_f) := k0X3_layKnots G a_plan a_plan_idle a_plan_unmet a_od a_od_weeks a_od_weeks_a a_plan_start a_plan_end a_plan_cost a_plan_room a_plan_gain a_plan_way a_od_boxes a_od_words a_od_routes a_od_offers a_od_wants a_od_leaves a_od_leases a_od_uses pl_arcs pl_lack pl_least pl_idle pl_unmet o_today o_lack o_rate o_free o_weeks_r o_weeks_f h
end MX3_layKnots
/-! EmptyBoxes$Plan.putArc -/
section MX3_putArc
theorem hdX3_putArc : yX3_putArc.cls = RX3 ∧ yX3_putArc.cls ≠ "java/lang/invoke/MethodHandle" ∧ yX3_putArc.cls ≠ "java/lang/invoke/VarHandle" ∧ (parseMethodDescriptor yX3_putArc.desc).map (fun d => d.parameters.length) = some 5 := by decide +kernel
abbrev wX3_putArc (G : Gt) (a_plan a_plan_start a_plan_end a_plan_cost a_plan_room a_plan_idle a_plan_unmet a_plan_gain a_plan_way : Nat) (pl_arcs : Int32) (pl_lack : Int32) (pl_least : Int32) (pl_start : (Nat → Int32)) (pl_end : (Nat → Int32)) (pl_cost : (Nat → Int32)) (pl_room : (Nat → Int32)) : va_W := [(a_plan, .inr (3, [.ref a_plan_start, .ref a_plan_end, .ref a_plan_cost, .ref a_plan_room, .ref a_plan_idle, .ref a_plan_unmet, .ref a_plan_gain, .ref a_plan_way, .int pl_arcs, .int pl_lack, .int pl_least])), (a_plan_start, .inl (G.2.1, 148, .inl pl_start)), (a_plan_end, .inl (G.2.1, 148, .inl pl_end)), (a_plan_cost, .inl (G.2.1, 148, .inl pl_cost)), (a_plan_room, .inl (G.2.1, 148, .inl pl_room))]
abbrev rmX3_putArc : Room := { frames := 0, cells := 0, slots := 0, locals := 0 }
theorem iX3_putArc_X3 : ∀ w ∈ wsX30, w ∈ wsX3_putArc := by decide +kernel
theorem eX3_putArc_11 : Fk wsX3_putArc RX3 11 3 0 := ⟨RX3, TX3, 11, rfl, iX3_putArc_X3, by decide, by decide +kernel⟩
theorem eX3_putArc_15 : Fk wsX3_putArc RX3 15 3 1 := ⟨RX3, TX3, 11, rfl, iX3_putArc_X3, by decide, by decide +kernel⟩
theorem eX3_putArc_18 : Fk wsX3_putArc RX3 18 3 2 := ⟨RX3, TX3, 11, rfl, iX3_putArc_X3, by decide, by decide +kernel⟩
theorem eX3_putArc_21 : Fk wsX3_putArc RX3 21 3 3 := ⟨RX3, TX3, 11, rfl, iX3_putArc_X3, by decide, by decide +kernel⟩
variable {p : Program} {l : Launch} {e : Env} {s : State} {m : MethodId} {args : Array Value} {below : List Frame} {meth : Method} {c : Code} {A : Nat → Prop} {G : Gt} {a_plan a_plan_start a_plan_end a_plan_cost a_plan_room a_plan_idle a_plan_unmet a_plan_gain a_plan_way : Nat} {pl_arcs : Int32} {pl_lack : Int32} {pl_least : Int32} {res : (Nat → Int32) × (Nat → Int32) × (Nat → Int32) × (Nat → Int32)}
set_option maxHeartbeats 4000000 in
set_option maxRecDepth 100000 in
theorem k0X3_putArc {l : Launch} (G : Gt) (a_plan a_plan_start a_plan_end a_plan_cost a_plan_room a_plan_idle a_plan_unmet a_plan_gain a_plan_way : Nat) (v1 : Int32) (v2 : Int32) (v3 : Int32) (v4 : Int32) (v5 : Int32) (pl_arcs : Int32) (pl_lack : Int32) (pl_least : Int32) (pl_start : (Nat → Int32)) (pl_end : (Nat → Int32)) (pl_cost : (Nat → Int32)) (pl_room : (Nat → Int32)) {res : (Nat → Int32) × (Nat → Int32) × (Nat → Int32) × (Nat → Int32)} (h : fX3_putArc v1 v2 v3 v4 v5 pl_start pl_end pl_cost pl_room = some res) : CtV G l yX3_putArc wsX3_putArc rmX3_putArc [.ref a_plan, .int v1, .int v2, .int v3, .int v4, .int v5] (wX3_putArc G a_plan a_plan_start a_plan_end a_plan_cost a_plan_room a_plan_idle a_plan_unmet a_plan_gain a_plan_way pl_arcs pl_lack pl_least pl_start pl_end pl_cost pl_room) (wX3_putArc G a_plan a_plan_start a_plan_end a_plan_cost a_plan_room a_plan_idle a_plan_unmet a_plan_gain a_plan_way pl_arcs pl_lack pl_least res.1 res.2.1 res.2.2.1 res.2.2.2) := by
  refine CtV.mk (cc := cX3_putArc) (maxL := 6) (ret := none) (own := RX3) (by decide) rfl rfl (Nat.le_of_ble_eq_true rfl) ?_
  intro p e s m below meth c A X ls hl hW
  obtain ⟨hx, hb, -⟩ := id X.1
  have hl : lv_has ls 6 [(0, .ref a_plan), (1, .int v1), (2, .int v2), (3, .int v3), (4, .int v4), (5, .int v5)] := hl
  generalize hH : s.heap = H at hW ⊢
  generalize hLo : ([] : List Loc) = locs at hW ⊢
  rw [fX3_putArc] at h
  refine lv_aload_n hx hb dX3_putArc_0 rfl (lv_at hl 0 rfl) ?_
  refine g_get X hW eX3_putArc_11 0 rfl rfl dX3_putArc_1 ?_
  refine lv_iload_n hx hb dX3_putArc_4 rfl (lv_at hl 1 rfl) ?_
  refine lv_iload_n hx hb dX3_putArc_5 rfl (lv_at hl 2 rfl) ?_
  obtain ⟨g5, h⟩ := gd_some h
  refine g_ast X hW (ws' := (wX3_putArc G a_plan a_plan_start a_plan_end a_plan_cost a_plan_room a_plan_idle a_plan_unmet a_plan_gain a_plan_way pl_arcs pl_lack pl_least (upd pl_start v1.toNatClampNeg v2) pl_end pl_cost pl_room)) 1 rfl g5 rfl dX3_putArc_6 (fun H locs hW => ?_)
  refine lv_aload_n hx hb dX3_putArc_7 rfl (lv_at hl 0 rfl) ?_
  refine g_get X hW eX3_putArc_15 0 rfl rfl dX3_putArc_8 ?_
  refine lv_iload_n hx hb dX3_putArc_11 rfl (lv_at hl 1 rfl) ?_
  refine lv_iload_n hx hb dX3_putArc_12 rfl (lv_at hl 3 rfl) ?_
  obtain ⟨g10, h⟩ := gd_some h
  refine g_ast X hW (ws' := (wX3_putArc G a_plan a_plan_start a_plan_end a_plan_cost a_plan_room a_plan_idle a_plan_unmet a_plan_gain a_plan_way pl_arcs pl_lack pl_least (upd pl_start v1.toNatClampNeg v2) (upd pl_end v1.toNatClampNeg v3) pl_cost pl_room)) 2 rfl g10 rfl dX3_putArc_13 (fun H locs hW => ?_)
  refine lv_aload_n hx hb dX3_putArc_14 rfl (lv_at hl 0 rfl) ?_
  refine g_get X hW eX3_putArc_18 0 rfl rfl dX3_putArc_15 ?_
  refine lv_iload_n hx hb dX3_putArc_18 rfl (lv_at hl 1 rfl) ?_
  refine lv_iload hx hb dX3_putArc_19 (lv_at hl 4 rfl) ?_
  obtain ⟨g15, h⟩ := gd_some h
  refine g_ast X hW (ws' := (wX3_putArc G a_plan a_plan_start a_plan_end a_plan_cost a_plan_room a_plan_idle a_plan_unmet a_plan_gain a_plan_way pl_arcs pl_lack pl_least (upd pl_start v1.toNatClampNeg v2) (upd pl_end v1.toNatClampNeg v3) (upd pl_cost v1.toNatClampNeg v4) pl_room)) 3 rfl g15 rfl dX3_putArc_21 (fun H locs hW => ?_)
  refine lv_aload_n hx hb dX3_putArc_22 rfl (lv_at hl 0 rfl) ?_
  refine g_get X hW eX3_putArc_21 0 rfl rfl dX3_putArc_23 ?_
  refine lv_iload_n hx hb dX3_putArc_26 rfl (lv_at hl 1 rfl) ?_
  refine lv_iload hx hb dX3_putArc_27 (lv_at hl 5 rfl) ?_
  obtain ⟨g20, h⟩ := gd_some h
  refine g_ast X hW (ws' := (wX3_putArc G a_plan a_plan_start a_plan_end a_plan_cost a_plan_room a_plan_idle a_plan_unmet a_plan_gain a_plan_way pl_arcs pl_lack pl_least (upd pl_start v1.toNatClampNeg v2) (upd pl_end v1.toNatClampNeg v3) (upd pl_cost v1.toNatClampNeg v4) (upd pl_room v1.toNatClampNeg v5))) 4 rfl g20 rfl dX3_putArc_29 (fun H locs hW => ?_)
  obtain rfl := Option.some.inj h
  exact g_vret X hW dX3_putArc_30
theorem kcX3_putArc {l : Launch} (G : Gt) (a_plan a_plan_start a_plan_end a_plan_cost a_plan_room a_plan_idle a_plan_unmet a_plan_gain a_plan_way : Nat) (v1 : Int32) (v2 : Int32) (v3 : Int32) (v4 : Int32) (v5 : Int32) (pl_arcs : Int32) (pl_lack : Int32) (pl_least : Int32) (pl_start : (Nat → Int32)) (pl_end : (Nat → Int32)) (pl_cost : (Nat → Int32)) (pl_room : (Nat → Int32))  {z_pl_start : (Nat → Int32)} {z_pl_end : (Nat → Int32)} {z_pl_cost : (Nat → Int32)} {z_pl_room : (Nat → Int32)} (h : fX3_putArc v1 v2 v3 v4 v5 pl_start pl_end pl_cost pl_room = some (z_pl_start, z_pl_end, z_pl_cost, z_pl_room)) : CtV G l yX3_putArc wsX3_putArc rmX3_putArc [.ref a_plan, .int v1, .int v2, .int v3, .int v4, .int v5] (wX3_putArc G a_plan a_plan_start a_plan_end a_plan_cost a_plan_room a_plan_idle a_plan_unmet a_plan_gain a_plan_way pl_arcs pl_lack pl_least pl_start pl_end pl_cost pl_room) (wX3_putArc G a_plan a_plan_start a_plan_end a_plan_cost a_plan_room a_plan_idle a_plan_unmet a_plan_gain a_plan_way pl_arcs pl_lack pl_least z_pl_start z_pl_end z_pl_cost z_pl_room) := k0X3_putArc G a_plan a_plan_start a_plan_end a_plan_cost a_plan_room a_plan_idle a_plan_unmet a_plan_gain a_plan_way v1 v2 v3 v4 v5 pl_arcs pl_lack pl_least pl_start pl_end pl_cost pl_room h
end MX3_putArc
/-! EmptyBoxes$Plan.layArc -/
section MX3_layArc
theorem hdX3_layArc : yX3_layArc.cls = RX3 ∧ yX3_layArc.cls ≠ "java/lang/invoke/MethodHandle" ∧ yX3_layArc.cls ≠ "java/lang/invoke/VarHandle" ∧ (parseMethodDescriptor yX3_layArc.desc).map (fun d => d.parameters.length) = some 4 := by decide +kernel
abbrev wX3_layArc (G : Gt) (a_plan a_plan_start a_plan_end a_plan_cost a_plan_room a_plan_idle a_plan_unmet a_plan_gain a_plan_way : Nat) (pl_arcs : Int32) (pl_lack : Int32) (pl_least : Int32) (pl_start : (Nat → Int32)) (pl_end : (Nat → Int32)) (pl_cost : (Nat → Int32)) (pl_room : (Nat → Int32)) : va_W := [(a_plan, .inr (3, [.ref a_plan_start, .ref a_plan_end, .ref a_plan_cost, .ref a_plan_room, .ref a_plan_idle, .ref a_plan_unmet, .ref a_plan_gain, .ref a_plan_way, .int pl_arcs, .int pl_lack, .int pl_least])), (a_plan_start, .inl (G.2.1, 148, .inl pl_start)), (a_plan_end, .inl (G.2.1, 148, .inl pl_end)), (a_plan_cost, .inl (G.2.1, 148, .inl pl_cost)), (a_plan_room, .inl (G.2.1, 148, .inl pl_room))]
abbrev rmX3_layArc : Room := { frames := 2, cells := 0, slots := 0, locals := 42 }
theorem iX3_layArc_X3 : ∀ w ∈ wsX30, w ∈ wsX3_layArc := by decide +kernel
theorem eX3_layArc_91 : Fk wsX3_layArc RX3 91 3 8 := ⟨RX3, TX3, 11, rfl, iX3_layArc_X3, by decide, by decide +kernel⟩
theorem pX3_layArc_91 : Fp wsX3_layArc RX3 91 3 8 .int := ⟨RX3, TX3, 11, tyX3, rfl, iX3_layArc_X3, by decide, by decide +kernel, tyX3_ok, nmX3, rfl, by decide +kernel⟩
theorem ckX3_layArc_X3_isKnot_36 : CkS wsX3_layArc RX3 36 yX3_isKnot wsX3_isKnot cX3_isKnot 1 (some .boolean) 1 := ⟨_, gX3_layArc_X3_isKnot, rfl, hdX3_isKnot.2⟩
theorem ckX3_layArc_X3_putArc_104 : CkV wsX3_layArc RX3 104 yX3_putArc wsX3_putArc cX3_putArc 6 none 5 3 := ⟨RX3, TX3, 11, _, rfl, gX3_layArc_X3_putArc, rfl, hdX3_putArc⟩
variable {p : Program} {l : Launch} {e : Env} {s : State} {m : MethodId} {args : Array Value} {below : List Frame} {meth : Method} {c : Code} {A : Nat → Prop} {G : Gt} {a_plan a_plan_start a_plan_end a_plan_cost a_plan_room a_plan_idle a_plan_unmet a_plan_gain a_plan_way : Nat} {pl_lack : Int32} {pl_least : Int32} {res : Int32 × (Nat → Int32) × (Nat → Int32) × (Nat → Int32) × (Nat → Int32)}
set_option maxHeartbeats 4000000 in
set_option maxRecDepth 100000 in
theorem k0X3_layArc {l : Launch} (G : Gt) (a_plan a_plan_start a_plan_end a_plan_cost a_plan_room a_plan_idle a_plan_unmet a_plan_gain a_plan_way : Nat) (v1 : Int32) (v2 : Int32) (v3 : Int32) (v4 : Int32) (pl_arcs : Int32) (pl_lack : Int32) (pl_least : Int32) (pl_start : (Nat → Int32)) (pl_end : (Nat → Int32)) (pl_cost : (Nat → Int32)) (pl_room : (Nat → Int32)) {res : Int32 × (Nat → Int32) × (Nat → Int32) × (Nat → Int32) × (Nat → Int32)} (h : fX3_layArc v1 v2 v3 v4 pl_arcs pl_start pl_end pl_cost pl_room = some res) : CtV G l yX3_layArc wsX3_layArc rmX3_layArc [.ref a_plan, .int v1, .int v2, .int v3, .int v4] (wX3_layArc G a_plan a_plan_start a_plan_end a_plan_cost a_plan_room a_plan_idle a_plan_unmet a_plan_gain a_plan_way pl_arcs pl_lack pl_least pl_start pl_end pl_cost pl_room) (wX3_layArc G a_plan a_plan_start a_plan_end a_plan_cost a_plan_room a_plan_idle a_plan_unmet a_plan_gain a_plan_way res.1 pl_lack pl_least res.2.1 res.2.2.1 res.2.2.2.1 res.2.2.2.2) := by
  refine CtV.mk (cc := cX3_layArc) (maxL := 5) (ret := none) (own := RX3) (by decide) rfl rfl (Nat.le_of_ble_eq_true rfl) ?_
  intro p e s m below meth c A X ls hl hW
  obtain ⟨hx, hb, -⟩ := id X.1
  have hl : lv_has ls 5 [(0, .ref a_plan), (1, .int v1), (2, .int v2), (3, .int v3), (4, .int v4)] := hl
  generalize hH : s.heap = H at hW ⊢
  generalize hLo : ([] : List Loc) = locs at hW ⊢
  rw [fX3_layArc] at h
  refine lv_aload_n hx hb dX3_layArc_0 rfl (lv_at hl 0 rfl) ?_
  refine g_get X hW eX3_layArc_91 0 rfl rfl dX3_layArc_1 ?_
  refine lv_iconst hx hb dX3_layArc_4 qI_1 ?_
  refine lv_iadd hx hb dX3_layArc_5 ?_
  refine lv_sipush hx hb dX3_layArc_6 qS_148 ?_
  refine lv_icmp_ge (tgt := 64) hx hb dX3_layArc_9 (by decide) (fun c6 => ?_) (fun c6 => ?_)
  · have h := (if_pos c6).symm.trans h
    obtain rfl := Option.some.inj h
    exact g_vret X hW dX3_layArc_64
  · have h := (if_neg c6).symm.trans h
    refine lv_iload_n hx hb dX3_layArc_12 rfl (lv_at hl 1 rfl) ?_
    obtain ⟨r9, hq, h⟩ := bn1_some h
    refine g_csi X hW (As := [.int v1]) (ws' := (wX3_layArc G a_plan a_plan_start a_plan_end a_plan_cost a_plan_room a_plan_idle a_plan_unmet a_plan_gain a_plan_way pl_arcs pl_lack pl_least pl_start pl_end pl_cost pl_room)) ckX3_layArc_X3_isKnot_36 (kcX3_isKnot (l := l) G v1 hq) ⟨rfl, rfl, Nat.le_of_ble_eq_true rfl, Nat.le_of_ble_eq_true rfl⟩ [] rfl rfl rfl rfl rfl rfl hl.1 (Nat.le_of_ble_eq_true rfl) ⟨Nat.zero_le _, Nat.zero_le _⟩ dX3_layArc_13 (fun H locs hW => ?_)
    refine lv_if_eq (tgt := 64) hx hb dX3_layArc_16 (by decide) (fun c10 => ?_) (fun c10 => ?_)
    · have h := (if_pos c10).symm.trans h
      obtain rfl := Option.some.inj h
      exact g_vret X hW dX3_layArc_64
    · have h := (if_neg c10).symm.trans h
      refine lv_iload_n hx hb dX3_layArc_19 rfl (lv_at hl 2 rfl) ?_
      obtain ⟨r13, hq, h⟩ := bn1_some h
      refine g_csi X hW (As := [.int v2]) (ws' := (wX3_layArc G a_plan a_plan_start a_plan_end a_plan_cost a_plan_room a_plan_idle a_plan_unmet a_plan_gain a_plan_way pl_arcs pl_lack pl_least pl_start pl_end pl_cost pl_room)) ckX3_layArc_X3_isKnot_36 (kcX3_isKnot (l := l) G v2 hq) ⟨rfl, rfl, Nat.le_of_ble_eq_true rfl, Nat.le_of_ble_eq_true rfl⟩ [] rfl rfl rfl rfl rfl rfl hl.1 (Nat.le_of_ble_eq_true rfl) ⟨Nat.zero_le _, Nat.zero_le _⟩ dX3_layArc_20 (fun H locs hW => ?_)
      refine lv_if_eq (tgt := 64) hx hb dX3_layArc_23 (by decide) (fun c14 => ?_) (fun c14 => ?_)
      · have h := (if_pos c14).symm.trans h
        obtain rfl := Option.some.inj h
        exact g_vret X hW dX3_layArc_64
      · have h := (if_neg c14).symm.trans h
        refine lv_aload_n hx hb dX3_layArc_26 rfl (lv_at hl 0 rfl) ?_
        refine lv_aload_n hx hb dX3_layArc_27 rfl (lv_at hl 0 rfl) ?_
        refine g_get X hW eX3_layArc_91 0 rfl rfl dX3_layArc_28 ?_
        refine lv_iload_n hx hb dX3_layArc_31 rfl (lv_at hl 1 rfl) ?_
        refine lv_iload_n hx hb dX3_layArc_32 rfl (lv_at hl 2 rfl) ?_
        refine lv_iload_n hx hb dX3_layArc_33 rfl (lv_at hl 3 rfl) ?_
        refine lv_iload hx hb dX3_layArc_34 (lv_at hl 4 rfl) ?_
        obtain ⟨o23_pl_start, o23_pl_end, o23_pl_cost, o23_pl_room, hq, h⟩ := bn4_some h
        refine g_cvv X hW (As := [.int pl_arcs, .int v1, .int v2, .int v3, .int v4]) (ws' := (wX3_layArc G a_plan a_plan_start a_plan_end a_plan_cost a_plan_room a_plan_idle a_plan_unmet a_plan_gain a_plan_way pl_arcs pl_lack pl_least o23_pl_start o23_pl_end o23_pl_cost o23_pl_room)) ckX3_layArc_X3_putArc_104 (kcX3_putArc (l := l) G a_plan a_plan_start a_plan_end a_plan_cost a_plan_room a_plan_idle a_plan_unmet a_plan_gain a_plan_way pl_arcs v1 v2 v3 v4 pl_arcs pl_lack pl_least pl_start pl_end pl_cost pl_room hq) ⟨rfl, rfl, Nat.le_of_ble_eq_true rfl, Nat.le_of_ble_eq_true rfl⟩ [0, 1, 2, 3, 4] rfl rfl rfl rfl rfl rfl rfl hl.1 (Nat.le_of_ble_eq_true rfl) ⟨Nat.zero_le _, Nat.zero_le _⟩ dX3_layArc_36 (fun H locs hW => ?_)
        refine lv_aload_n hx hb dX3_layArc_39 rfl (lv_at hl 0 rfl) ?_
        refine lv_aload_n hx hb dX3_layArc_40 rfl (lv_at hl 0 rfl) ?_
        refine g_get X hW eX3_layArc_91 0 rfl rfl dX3_layArc_41 ?_
        refine lv_iconst hx hb dX3_layArc_44 qI_1 ?_
        refine lv_iadd hx hb dX3_layArc_45 ?_
        refine lv_iload_n hx hb dX3_layArc_46 rfl (lv_at hl 2 rfl) ?_
        refine lv_iload_n hx hb dX3_layArc_47 rfl (lv_at hl 1 rfl) ?_
        refine lv_iload_n hx hb dX3_layArc_48 rfl (lv_at hl 3 rfl) ?_
        refine lv_ineg hx hb dX3_layArc_49 ?_
        refine lv_iconst hx hb dX3_layArc_50 qI_0 ?_
        obtain ⟨o34_pl_start, o34_pl_end, o34_pl_cost, o34_pl_room, hq, h⟩ := bn4_some h
        refine g_cvv X hW (As := [.int (pl_arcs + (1 : Int32)), .int v2, .int v1, .int (-v3), .int (0 : Int32)]) (ws' := (wX3_layArc G a_plan a_plan_start a_plan_end a_plan_cost a_plan_room a_plan_idle a_plan_unmet a_plan_gain a_plan_way pl_arcs pl_lack pl_least o34_pl_start o34_pl_end o34_pl_cost o34_pl_room)) ckX3_layArc_X3_putArc_104 (kcX3_putArc (l := l) G a_plan a_plan_start a_plan_end a_plan_cost a_plan_room a_plan_idle a_plan_unmet a_plan_gain a_plan_way (pl_arcs + (1 : Int32)) v2 v1 (-v3) (0 : Int32) pl_arcs pl_lack pl_least o23_pl_start o23_pl_end o23_pl_cost o23_pl_room hq) ⟨rfl, rfl, Nat.le_of_ble_eq_true rfl, Nat.le_of_ble_eq_true rfl⟩ [0, 1, 2, 3, 4] rfl rfl rfl rfl rfl rfl rfl hl.1 (Nat.le_of_ble_eq_true rfl) ⟨Nat.zero_le _, Nat.zero_le _⟩ dX3_layArc_51 (fun H locs hW => ?_)
        refine lv_aload_n hx hb dX3_layArc_54 rfl (lv_at hl 0 rfl) ?_
        refine lv_dup hx hb dX3_layArc_55 rfl ?_
        refine g_get X hW eX3_layArc_91 0 rfl rfl dX3_layArc_56 ?_
        refine lv_iconst hx hb dX3_layArc_59 qI_2 ?_
        refine lv_iadd hx hb dX3_layArc_60 ?_
        refine g_put X hW (ws' := (wX3_layArc G a_plan a_plan_start a_plan_end a_plan_cost a_plan_room a_plan_idle a_plan_unmet a_plan_gain a_plan_way (pl_arcs + (2 : Int32)) pl_lack pl_least o34_pl_start o34_pl_end o34_pl_cost o34_pl_room)) pX3_layArc_91 0 rfl (Nat.le_of_ble_eq_true rfl) rfl rfl rfl dX3_layArc_61 (fun H locs hW => ?_)
        obtain rfl := Option.some.inj h
        exact g_vret X hW dX3_layArc_64
theorem kcX3_layArc {l : Launch} (G : Gt) (a_plan a_plan_start a_plan_end a_plan_cost a_plan_room a_plan_idle a_plan_unmet a_plan_gain a_plan_way : Nat) (v1 : Int32) (v2 : Int32) (v3 : Int32) (v4 : Int32) (pl_arcs : Int32) (pl_lack : Int32) (pl_least : Int32) (pl_start : (Nat → Int32)) (pl_end : (Nat → Int32)) (pl_cost : (Nat → Int32)) (pl_room : (Nat → Int32))  {z_pl_arcs : Int32} {z_pl_start : (Nat → Int32)} {z_pl_end : (Nat → Int32)} {z_pl_cost : (Nat → Int32)} {z_pl_room : (Nat → Int32)} (h : fX3_layArc v1 v2 v3 v4 pl_arcs pl_start pl_end pl_cost pl_room = some (z_pl_arcs, z_pl_start, z_pl_end, z_pl_cost, z_pl_room)) : CtV G l yX3_layArc wsX3_layArc rmX3_layArc [.ref a_plan, .int v1, .int v2, .int v3, .int v4] (wX3_layArc G a_plan a_plan_start a_plan_end a_plan_cost a_plan_room a_plan_idle a_plan_unmet a_plan_gain a_plan_way pl_arcs pl_lack pl_least pl_start pl_end pl_cost pl_room) (wX3_layArc G a_plan a_plan_start a_plan_end a_plan_cost a_plan_room a_plan_idle a_plan_unmet a_plan_gain a_plan_way z_pl_arcs pl_lack pl_least z_pl_start z_pl_end z_pl_cost z_pl_room) := k0X3_layArc G a_plan a_plan_start a_plan_end a_plan_cost a_plan_room a_plan_idle a_plan_unmet a_plan_gain a_plan_way v1 v2 v3 v4 pl_arcs pl_lack pl_least pl_start pl_end pl_cost pl_room h
end MX3_layArc
/-! EmptyBoxes$Plan.layArcs -/
section MX3_layArcs
theorem hdX3_layArcs : yX3_layArcs.cls = RX3 ∧ yX3_layArcs.cls ≠ "java/lang/invoke/MethodHandle" ∧ yX3_layArcs.cls ≠ "java/lang/invoke/VarHandle" ∧ (parseMethodDescriptor yX3_layArcs.desc).map (fun d => d.parameters.length) = some 1 := by decide +kernel
abbrev wX3_layArcs (G : Gt) (a_plan a_plan_start a_plan_end a_plan_cost a_plan_room a_ob a_ob_a a_plan_idle a_plan_unmet a_plan_gain a_plan_way : Nat) (pl_arcs : Int32) (pl_lack : Int32) (pl_least : Int32) (pl_start : (Nat → Int32)) (pl_end : (Nat → Int32)) (pl_cost : (Nat → Int32)) (pl_room : (Nat → Int32)) (routes_r : Int32) (routes_f : (Nat → Int32)) : va_W := [(a_plan, .inr (3, [.ref a_plan_start, .ref a_plan_end, .ref a_plan_cost, .ref a_plan_room, .ref a_plan_idle, .ref a_plan_unmet, .ref a_plan_gain, .ref a_plan_way, .int pl_arcs, .int pl_lack, .int pl_least])), (a_plan_start, .inl (G.2.1, 148, .inl pl_start)), (a_plan_end, .inl (G.2.1, 148, .inl pl_end)), (a_plan_cost, .inl (G.2.1, 148, .inl pl_cost)), (a_plan_room, .inl (G.2.1, 148, .inl pl_room)), (a_ob, .inr (4, [.ref a_ob_a, .int (5 : Int32), .int (10 : Int32), .int routes_r])), (a_ob_a, .inl (G.2.1, 50, .inl routes_f))]
abbrev rmX3_layArcs : Room := { frames := 3, cells := 0, slots := 0, locals := 66 }
theorem iX3_layArcs_X3 : ∀ w ∈ wsX30, w ∈ wsX3_layArcs := by decide +kernel
theorem pX3_layArcs_91 : Fp wsX3_layArcs RX3 91 3 8 .int := ⟨RX3, TX3, 11, tyX3, rfl, iX3_layArcs_X3, by decide, by decide +kernel, tyX3_ok, nmX3, rfl, by decide +kernel⟩
theorem ckX3_layArcs_X3_layArc_100 : CkV wsX3_layArcs RX3 100 yX3_layArc wsX3_layArc cX3_layArc 5 none 4 3 := ⟨RX3, TX3, 11, _, rfl, gX3_layArcs_X3_layArc, rfl, hdX3_layArc⟩
theorem ckX3_layArcs_X4_cell_80 : CkV wsX3_layArcs RX3 80 yX4_cell wsX4_cell cX4_cell 3 (some .int) 2 4 := ⟨RX4, TX4, 4, _, rfl, gX3_layArcs_X4_cell, rfl, hdX4_cell⟩
theorem ckX3_layArcs_X4_size_94 : CkV wsX3_layArcs RX3 94 yX4_size wsX4_size cX4_size 1 (some .int) 0 4 := ⟨RX4, TX4, 4, _, rfl, gX3_layArcs_X4_size, rfl, hdX4_size⟩
theorem ckX3_layArcs_X6_knotOf_97 : CkN wsX3_layArcs RX3 97 yX6_knotOf wsX6_knotOf cX6_knotOf 2 (some .int) 2 := ⟨"EmptyBoxes", _, by decide +kernel, by decide +kernel, by decide +kernel, gX3_layArcs_X6_knotOf_n97, rfl, hdX6_knotOf.2⟩
variable {p : Program} {l : Launch} {e : Env} {s : State} {m : MethodId} {args : Array Value} {below : List Frame} {meth : Method} {c : Code} {A : Nat → Prop} {G : Gt} {a_plan a_plan_start a_plan_end a_plan_cost a_plan_room a_ob a_ob_a a_plan_idle a_plan_unmet a_plan_gain a_plan_way : Nat} {pl_lack : Int32} {pl_least : Int32} {routes_r : Int32} {routes_f : (Nat → Int32)} {res : Int32 × (Nat → Int32) × (Nat → Int32) × (Nat → Int32) × (Nat → Int32)}
set_option maxHeartbeats 4000000 in
set_option maxRecDepth 100000 in
theorem tX3_layArcs_121 (X : Bx p s m args meth c cX3_layArcs 5 wsX3_layArcs RX3 none) (v2 : Int32) (pl_arcs : Int32) (pl_start : (Nat → Int32)) (pl_end : (Nat → Int32)) (pl_cost : (Nat → Int32)) (pl_room : (Nat → Int32)) (k_7 : Int32 → Int32 → (Nat → Int32) → (Nat → Int32) → (Nat → Int32) → (Nat → Int32) → Option (Int32 × (Nat → Int32) × (Nat → Int32) × (Nat → Int32) × (Nat → Int32))) (Hk_7 : ∀ (v2 : Int32) (pl_arcs : Int32) (pl_start : (Nat → Int32)) (pl_end : (Nat → Int32)) (pl_cost : (Nat → Int32)) (pl_room : (Nat → Int32)), k_7 v2 pl_arcs pl_start pl_end pl_cost pl_room = some res → ∀ (H : Heap) (locs : List Loc), Wo G A s (wX3_layArcs G a_plan a_plan_start a_plan_end a_plan_cost a_plan_room a_ob a_ob_a a_plan_idle a_plan_unmet a_plan_gain a_plan_way pl_arcs pl_lack pl_least pl_start pl_end pl_cost pl_room routes_r routes_f) H locs → ∀ ls : Array Slot, lv_has ls 5 [(0, .ref a_plan), (1, .ref a_ob), (2, .int v2)] → W p l e rmX3_layArcs s m args below meth c H locs 0 0 (QV G A below args s (wX3_layArcs G a_plan a_plan_start a_plan_end a_plan_cost a_plan_room a_ob a_ob_a a_plan_idle a_plan_unmet a_plan_gain a_plan_way res.1 pl_lack pl_least res.2.1 res.2.2.1 res.2.2.2.1 res.2.2.2.2 routes_r routes_f)) (F0 m 7 ls [])) (h : fX3_layArcs_121 k_7 v2 pl_arcs pl_start pl_end pl_cost pl_room = some res) : ∀ (H : Heap) (locs : List Loc), Wo G A s (wX3_layArcs G a_plan a_plan_start a_plan_end a_plan_cost a_plan_room a_ob a_ob_a a_plan_idle a_plan_unmet a_plan_gain a_plan_way pl_arcs pl_lack pl_least pl_start pl_end pl_cost pl_room routes_r routes_f) H locs → ∀ ls : Array Slot, lv_has ls 5 [(0, .ref a_plan), (1, .ref a_ob), (2, .int v2)] → W p l e rmX3_layArcs s m args below meth c H locs 0 0 (QV G A below args s (wX3_layArcs G a_plan a_plan_start a_plan_end a_plan_cost a_plan_room a_ob a_ob_a a_plan_idle a_plan_unmet a_plan_gain a_plan_way res.1 pl_lack pl_least res.2.1 res.2.2.1 res.2.2.2.1 res.2.2.2.2 routes_r routes_f)) (F0 m 121 ls []) := by
  obtain ⟨hx, hb, -⟩ := id X.1
  intro H locs hW ls hl
  rw [fX3_layArcs_121] at h
  refine lv_iinc (v := (v2 + (-1 : Int32))) (lv' := [(2, .int (v2 + (-1 : Int32))), (0, .ref a_plan), (1, .ref a_ob)]) hx hb dX3_layArcs_121 hl (k := 2) rfl (congrArg (fun z => v2 + z) qI_m1) (by decide) rfl (fun ls hl => ?_)
  refine lv_goto (tgt := 7) hx hb dX3_layArcs_124 (by decide) ?_
  exact Hk_7 (v2 + (-1 : Int32)) pl_arcs pl_start pl_end pl_cost pl_room h H locs hW ls (lv_sub hl [1, 2, 0] rfl)
set_option maxHeartbeats 4000000 in
set_option maxRecDepth 100000 in
theorem tX3_layArcs_82 (X : Bx p s m args meth c cX3_layArcs 5 wsX3_layArcs RX3 none) (v2 : Int32) (k_121 : Int32 → (Nat → Int32) → (Nat → Int32) → (Nat → Int32) → (Nat → Int32) → Option (Int32 × (Nat → Int32) × (Nat → Int32) × (Nat → Int32) × (Nat → Int32))) (Hk_121 : ∀ (pl_arcs : Int32) (pl_start : (Nat → Int32)) (pl_end : (Nat → Int32)) (pl_cost : (Nat → Int32)) (pl_room : (Nat → Int32)), k_121 pl_arcs pl_start pl_end pl_cost pl_room = some res → ∀ (H : Heap) (locs : List Loc), Wo G A s (wX3_layArcs G a_plan a_plan_start a_plan_end a_plan_cost a_plan_room a_ob a_ob_a a_plan_idle a_plan_unmet a_plan_gain a_plan_way pl_arcs pl_lack pl_least pl_start pl_end pl_cost pl_room routes_r routes_f) H locs → ∀ ls : Array Slot, lv_has ls 5 [(0, .ref a_plan), (1, .ref a_ob), (2, .int v2)] → W p l e rmX3_layArcs s m args below meth c H locs 0 0 (QV G A below args s (wX3_layArcs G a_plan a_plan_start a_plan_end a_plan_cost a_plan_room a_ob a_ob_a a_plan_idle a_plan_unmet a_plan_gain a_plan_way res.1 pl_lack pl_least res.2.1 res.2.2.1 res.2.2.2.1 res.2.2.2.2 routes_r routes_f)) (F0 m 121 ls [])) : ∀ (n : Nat) (v3 : Int32) (pl_arcs : Int32) (pl_start : (Nat → Int32)) (pl_end : (Nat → Int32)) (pl_cost : (Nat → Int32)) (pl_room : (Nat → Int32)), fX3_layArcs_82 v2 k_121 n v3 pl_arcs pl_start pl_end pl_cost pl_room = some res → ∀ (H : Heap) (locs : List Loc), Wo G A s (wX3_layArcs G a_plan a_plan_start a_plan_end a_plan_cost a_plan_room a_ob a_ob_a a_plan_idle a_plan_unmet a_plan_gain a_plan_way pl_arcs pl_lack pl_least pl_start pl_end pl_cost pl_room routes_r routes_f) H locs → ∀ ls : Array Slot, lv_has ls 5 [(0, .ref a_plan), (1, .ref a_ob), (2, .int v2), (3, .int v3)] → W p l e rmX3_layArcs s m args below meth c H locs 0 0 (QV G A below args s (wX3_layArcs G a_plan a_plan_start a_plan_end a_plan_cost a_plan_room a_ob a_ob_a a_plan_idle a_plan_unmet a_plan_gain a_plan_way res.1 pl_lack pl_least res.2.1 res.2.2.1 res.2.2.2.1 res.2.2.2.2 routes_r routes_f)) (F0 m 82 ls []) := by
  obtain ⟨hx, hb, -⟩ := id X.1
  intro n
  induction n with
  | zero => intro v3 pl_arcs pl_start pl_end pl_cost pl_room h; rw [fX3_layArcs_82] at h; cases h
  | succ n ih =>
    intro v3 pl_arcs pl_start pl_end pl_cost pl_room h H locs hW ls hl
    rw [fX3_layArcs_82] at h
    refine lv_iload_n hx hb dX3_layArcs_82 rfl (lv_at hl 3 rfl) ?_
    refine lv_bipush hx hb dX3_layArcs_83 qB_6 ?_
    refine lv_icmp_ge (tgt := 121) hx hb dX3_layArcs_85 (by decide) (fun c5 => ?_) (fun c5 => ?_)
    · have h := (if_pos c5).symm.trans h
      exact Hk_121 pl_arcs pl_start pl_end pl_cost pl_room h H locs hW ls (lv_sub hl [0, 1, 2] rfl)
    · have h := (if_neg c5).symm.trans h
      refine lv_iload_n hx hb dX3_layArcs_88 rfl (lv_at hl 2 rfl) ?_
      refine lv_iconst hx hb dX3_layArcs_89 qI_1 ?_
      refine lv_iadd hx hb dX3_layArcs_90 ?_
      refine lv_iconst hx hb dX3_layArcs_91 qI_5 ?_
      refine lv_icmp_ge (tgt := 121) hx hb dX3_layArcs_92 (by decide) (fun c10 => ?_) (fun c10 => ?_)
      · have h := (if_pos c10).symm.trans h
        exact Hk_121 pl_arcs pl_start pl_end pl_cost pl_room h H locs hW ls (lv_sub hl [0, 1, 2] rfl)
      · have h := (if_neg c10).symm.trans h
        refine lv_aload_n hx hb dX3_layArcs_95 rfl (lv_at hl 0 rfl) ?_
        refine lv_iload_n hx hb dX3_layArcs_96 rfl (lv_at hl 3 rfl) ?_
        refine lv_iload_n hx hb dX3_layArcs_97 rfl (lv_at hl 2 rfl) ?_
        obtain ⟨r14, hq, h⟩ := bn1_some h
        refine g_cni X hW (As := [.int v3, .int v2]) (ws' := (wX3_layArcs G a_plan a_plan_start a_plan_end a_plan_cost a_plan_room a_ob a_ob_a a_plan_idle a_plan_unmet a_plan_gain a_plan_way pl_arcs pl_lack pl_least pl_start pl_end pl_cost pl_room routes_r routes_f)) ckX3_layArcs_X6_knotOf_97 (kcX6_knotOf (l := l) G v3 v2 hq) ⟨rfl, rfl, Nat.le_of_ble_eq_true rfl, Nat.le_of_ble_eq_true rfl⟩ [] rfl rfl rfl rfl rfl rfl hl.1 (Nat.le_of_ble_eq_true rfl) ⟨Nat.zero_le _, Nat.zero_le _⟩ dX3_layArcs_98 (fun H locs hW => ?_)
        refine lv_iload_n hx hb dX3_layArcs_101 rfl (lv_at hl 3 rfl) ?_
        refine lv_iload_n hx hb dX3_layArcs_102 rfl (lv_at hl 2 rfl) ?_
        refine lv_iconst hx hb dX3_layArcs_103 qI_1 ?_
        refine lv_iadd hx hb dX3_layArcs_104 ?_
        obtain ⟨r19, hq, h⟩ := bn1_some h
        refine g_cni X hW (As := [.int v3, .int (v2 + (1 : Int32))]) (ws' := (wX3_layArcs G a_plan a_plan_start a_plan_end a_plan_cost a_plan_room a_ob a_ob_a a_plan_idle a_plan_unmet a_plan_gain a_plan_way pl_arcs pl_lack pl_least pl_start pl_end pl_cost pl_room routes_r routes_f)) ckX3_layArcs_X6_knotOf_97 (kcX6_knotOf (l := l) G v3 (v2 + (1 : Int32)) hq) ⟨rfl, rfl, Nat.le_of_ble_eq_true rfl, Nat.le_of_ble_eq_true rfl⟩ [] rfl rfl rfl rfl rfl rfl hl.1 (Nat.le_of_ble_eq_true rfl) ⟨Nat.zero_le _, Nat.zero_le _⟩ dX3_layArcs_105 (fun H locs hW => ?_)
        refine lv_iconst hx hb dX3_layArcs_108 qI_0 ?_
        refine lv_sipush hx hb dX3_layArcs_109 qS_1000 ?_
        obtain ⟨o22_pl_arcs, o22_pl_start, o22_pl_end, o22_pl_cost, o22_pl_room, hq, h⟩ := bn5_some h
        refine g_cvv X hW (As := [.int r14, .int r19, .int (0 : Int32), .int (1000 : Int32)]) (ws' := (wX3_layArcs G a_plan a_plan_start a_plan_end a_plan_cost a_plan_room a_ob a_ob_a a_plan_idle a_plan_unmet a_plan_gain a_plan_way o22_pl_arcs pl_lack pl_least o22_pl_start o22_pl_end o22_pl_cost o22_pl_room routes_r routes_f)) ckX3_layArcs_X3_layArc_100 (kcX3_layArc (l := l) G a_plan a_plan_start a_plan_end a_plan_cost a_plan_room a_plan_idle a_plan_unmet a_plan_gain a_plan_way r14 r19 (0 : Int32) (1000 : Int32) pl_arcs pl_lack pl_least pl_start pl_end pl_cost pl_room hq) ⟨rfl, rfl, Nat.le_of_ble_eq_true rfl, Nat.le_of_ble_eq_true rfl⟩ [0, 1, 2, 3, 4] rfl rfl rfl rfl rfl rfl rfl hl.1 (Nat.le_of_ble_eq_true rfl) ⟨Nat.zero_le _, Nat.zero_le _⟩ dX3_layArcs_112 (fun H locs hW => ?_)
        refine lv_iinc (v := (v3 + (1 : Int32))) (lv' := [(3, .int (v3 + (1 : Int32))), (0, .ref a_plan), (1, .ref a_ob), (2, .int v2)]) hx hb dX3_layArcs_115 hl (k := 3) rfl (congrArg (fun z => v3 + z) qI_1) (by decide) rfl (fun ls hl => ?_)
        refine lv_goto (tgt := 82) hx hb dX3_layArcs_118 (by decide) ?_
        exact ih (v3 + (1 : Int32)) o22_pl_arcs o22_pl_start o22_pl_end o22_pl_cost o22_pl_room h H locs hW ls (lv_sub hl [1, 2, 3, 0] rfl)
set_option maxHeartbeats 4000000 in
set_option maxRecDepth 100000 in
theorem tX3_layArcs_80 (X : Bx p s m args meth c cX3_layArcs 5 wsX3_layArcs RX3 none) (v2 : Int32) (pl_arcs : Int32) (pl_start : (Nat → Int32)) (pl_end : (Nat → Int32)) (pl_cost : (Nat → Int32)) (pl_room : (Nat → Int32)) (k_7 : Int32 → Int32 → (Nat → Int32) → (Nat → Int32) → (Nat → Int32) → (Nat → Int32) → Option (Int32 × (Nat → Int32) × (Nat → Int32) × (Nat → Int32) × (Nat → Int32))) (Hk_7 : ∀ (v2 : Int32) (pl_arcs : Int32) (pl_start : (Nat → Int32)) (pl_end : (Nat → Int32)) (pl_cost : (Nat → Int32)) (pl_room : (Nat → Int32)), k_7 v2 pl_arcs pl_start pl_end pl_cost pl_room = some res → ∀ (H : Heap) (locs : List Loc), Wo G A s (wX3_layArcs G a_plan a_plan_start a_plan_end a_plan_cost a_plan_room a_ob a_ob_a a_plan_idle a_plan_unmet a_plan_gain a_plan_way pl_arcs pl_lack pl_least pl_start pl_end pl_cost pl_room routes_r routes_f) H locs → ∀ ls : Array Slot, lv_has ls 5 [(0, .ref a_plan), (1, .ref a_ob), (2, .int v2)] → W p l e rmX3_layArcs s m args below meth c H locs 0 0 (QV G A below args s (wX3_layArcs G a_plan a_plan_start a_plan_end a_plan_cost a_plan_room a_ob a_ob_a a_plan_idle a_plan_unmet a_plan_gain a_plan_way res.1 pl_lack pl_least res.2.1 res.2.2.1 res.2.2.2.1 res.2.2.2.2 routes_r routes_f)) (F0 m 7 ls [])) (h : fX3_layArcs_80 k_7 v2 pl_arcs pl_start pl_end pl_cost pl_room = some res) : ∀ (H : Heap) (locs : List Loc), Wo G A s (wX3_layArcs G a_plan a_plan_start a_plan_end a_plan_cost a_plan_room a_ob a_ob_a a_plan_idle a_plan_unmet a_plan_gain a_plan_way pl_arcs pl_lack pl_least pl_start pl_end pl_cost pl_room routes_r routes_f) H locs → ∀ ls : Array Slot, lv_has ls 5 [(0, .ref a_plan), (1, .ref a_ob), (2, .int v2)] → W p l e rmX3_layArcs s m args below meth c H locs 0 0 (QV G A below args s (wX3_layArcs G a_plan a_plan_start a_plan_end a_plan_cost a_plan_room a_ob a_ob_a a_plan_idle a_plan_unmet a_plan_gain a_plan_way res.1 pl_lack pl_least res.2.1 res.2.2.1 res.2.2.2.1 res.2.2.2.2 routes_r routes_f)) (F0 m 80 ls []) := by
  obtain ⟨hx, hb, -⟩ := id X.1
  intro H locs hW ls hl
  rw [fX3_layArcs_80] at h
  refine lv_iconst hx hb dX3_layArcs_80 qI_0 ?_
  refine lv_istore_n (lv' := [(3, .int (0 : Int32)), (0, .ref a_plan), (1, .ref a_ob), (2, .int v2)]) hx hb dX3_layArcs_81 rfl hl (by decide) rfl (fun ls hl => ?_)
  exact tX3_layArcs_82 X v2 (fun pl_arcs_q27 pl_start_q27 pl_end_q27 pl_cost_q27 pl_room_q27 => fX3_layArcs_121 k_7 v2 pl_arcs_q27 pl_start_q27 pl_end_q27 pl_cost_q27 pl_room_q27) (fun pl_arcs_q27 pl_start_q27 pl_end_q27 pl_cost_q27 pl_room_q27 h H locs hW ls hl => by exact tX3_layArcs_121 X v2 pl_arcs_q27 pl_start_q27 pl_end_q27 pl_cost_q27 pl_room_q27 k_7 Hk_7 h H locs hW ls hl) FU (0 : Int32) pl_arcs pl_start pl_end pl_cost pl_room h H locs hW ls (lv_sub hl [1, 2, 3, 0] rfl)
set_option maxHeartbeats 4000000 in
set_option maxRecDepth 100000 in
theorem tX3_layArcs_74 (X : Bx p s m args meth c cX3_layArcs 5 wsX3_layArcs RX3 none) (v2 : Int32) (v3 : Int32) (pl_arcs : Int32) (pl_start : (Nat → Int32)) (pl_end : (Nat → Int32)) (pl_cost : (Nat → Int32)) (pl_room : (Nat → Int32)) (k_13 : Int32 → Int32 → (Nat → Int32) → (Nat → Int32) → (Nat → Int32) → (Nat → Int32) → Option (Int32 × (Nat → Int32) × (Nat → Int32) × (Nat → Int32) × (Nat → Int32))) (Hk_13 : ∀ (v3 : Int32) (pl_arcs : Int32) (pl_start : (Nat → Int32)) (pl_end : (Nat → Int32)) (pl_cost : (Nat → Int32)) (pl_room : (Nat → Int32)), k_13 v3 pl_arcs pl_start pl_end pl_cost pl_room = some res → ∀ (H : Heap) (locs : List Loc), Wo G A s (wX3_layArcs G a_plan a_plan_start a_plan_end a_plan_cost a_plan_room a_ob a_ob_a a_plan_idle a_plan_unmet a_plan_gain a_plan_way pl_arcs pl_lack pl_least pl_start pl_end pl_cost pl_room routes_r routes_f) H locs → ∀ ls : Array Slot, lv_has ls 5 [(0, .ref a_plan), (1, .ref a_ob), (2, .int v2), (3, .int v3)] → W p l e rmX3_layArcs s m args below meth c H locs 0 0 (QV G A below args s (wX3_layArcs G a_plan a_plan_start a_plan_end a_plan_cost a_plan_room a_ob a_ob_a a_plan_idle a_plan_unmet a_plan_gain a_plan_way res.1 pl_lack pl_least res.2.1 res.2.2.1 res.2.2.2.1 res.2.2.2.2 routes_r routes_f)) (F0 m 13 ls [])) (h : fX3_layArcs_74 k_13 v3 pl_arcs pl_start pl_end pl_cost pl_room = some res) : ∀ (H : Heap) (locs : List Loc), Wo G A s (wX3_layArcs G a_plan a_plan_start a_plan_end a_plan_cost a_plan_room a_ob a_ob_a a_plan_idle a_plan_unmet a_plan_gain a_plan_way pl_arcs pl_lack pl_least pl_start pl_end pl_cost pl_room routes_r routes_f) H locs → ∀ ls : Array Slot, lv_has ls 5 [(0, .ref a_plan), (1, .ref a_ob), (2, .int v2), (3, .int v3)] → W p l e rmX3_layArcs s m args below meth c H locs 0 0 (QV G A below args s (wX3_layArcs G a_plan a_plan_start a_plan_end a_plan_cost a_plan_room a_ob a_ob_a a_plan_idle a_plan_unmet a_plan_gain a_plan_way res.1 pl_lack pl_least res.2.1 res.2.2.1 res.2.2.2.1 res.2.2.2.2 routes_r routes_f)) (F0 m 74 ls []) := by
  obtain ⟨hx, hb, -⟩ := id X.1
  intro H locs hW ls hl
  rw [fX3_layArcs_74] at h
  refine lv_iinc (v := (v3 + (1 : Int32))) (lv' := [(3, .int (v3 + (1 : Int32))), (0, .ref a_plan), (1, .ref a_ob), (2, .int v2)]) hx hb dX3_layArcs_74 hl (k := 3) rfl (congrArg (fun z => v3 + z) qI_1) (by decide) rfl (fun ls hl => ?_)
  refine lv_goto (tgt := 13) hx hb dX3_layArcs_77 (by decide) ?_
  exact Hk_13 (v3 + (1 : Int32)) pl_arcs pl_start pl_end pl_cost pl_room h H locs hW ls (lv_sub hl [1, 2, 3, 0] rfl)
set_option maxHeartbeats 4000000 in
set_option maxRecDepth 100000 in
theorem tX3_layArcs_13 (X : Bx p s m args meth c cX3_layArcs 5 wsX3_layArcs RX3 none) (v2 : Int32) (k_80 : Int32 → (Nat → Int32) → (Nat → Int32) → (Nat → Int32) → (Nat → Int32) → Option (Int32 × (Nat → Int32) × (Nat → Int32) × (Nat → Int32) × (Nat → Int32))) (Hk_80 : ∀ (pl_arcs : Int32) (pl_start : (Nat → Int32)) (pl_end : (Nat → Int32)) (pl_cost : (Nat → Int32)) (pl_room : (Nat → Int32)), k_80 pl_arcs pl_start pl_end pl_cost pl_room = some res → ∀ (H : Heap) (locs : List Loc), Wo G A s (wX3_layArcs G a_plan a_plan_start a_plan_end a_plan_cost a_plan_room a_ob a_ob_a a_plan_idle a_plan_unmet a_plan_gain a_plan_way pl_arcs pl_lack pl_least pl_start pl_end pl_cost pl_room routes_r routes_f) H locs → ∀ ls : Array Slot, lv_has ls 5 [(0, .ref a_plan), (1, .ref a_ob), (2, .int v2)] → W p l e rmX3_layArcs s m args below meth c H locs 0 0 (QV G A below args s (wX3_layArcs G a_plan a_plan_start a_plan_end a_plan_cost a_plan_room a_ob a_ob_a a_plan_idle a_plan_unmet a_plan_gain a_plan_way res.1 pl_lack pl_least res.2.1 res.2.2.1 res.2.2.2.1 res.2.2.2.2 routes_r routes_f)) (F0 m 80 ls [])) : ∀ (n : Nat) (v3 : Int32) (pl_arcs : Int32) (pl_start : (Nat → Int32)) (pl_end : (Nat → Int32)) (pl_cost : (Nat → Int32)) (pl_room : (Nat → Int32)), fX3_layArcs_13 v2 routes_r routes_f k_80 n v3 pl_arcs pl_start pl_end pl_cost pl_room = some res → ∀ (H : Heap) (locs : List Loc), Wo G A s (wX3_layArcs G a_plan a_plan_start a_plan_end a_plan_cost a_plan_room a_ob a_ob_a a_plan_idle a_plan_unmet a_plan_gain a_plan_way pl_arcs pl_lack pl_least pl_start pl_end pl_cost pl_room routes_r routes_f) H locs → ∀ ls : Array Slot, lv_has ls 5 [(0, .ref a_plan), (1, .ref a_ob), (2, .int v2), (3, .int v3)] → W p l e rmX3_layArcs s m args below meth c H locs 0 0 (QV G A below args s (wX3_layArcs G a_plan a_plan_start a_plan_end a_plan_cost a_plan_room a_ob a_ob_a a_plan_idle a_plan_unmet a_plan_gain a_plan_way res.1 pl_lack pl_least res.2.1 res.2.2.1 res.2.2.2.1 res.2.2.2.2 routes_r routes_f)) (F0 m 13 ls []) := by
  obtain ⟨hx, hb, -⟩ := id X.1
  intro n
  induction n with
  | zero => intro v3 pl_arcs pl_start pl_end pl_cost pl_room h; rw [fX3_layArcs_13] at h; cases h
  | succ n ih =>
    intro v3 pl_arcs pl_start pl_end pl_cost pl_room h H locs hW ls hl
    rw [fX3_layArcs_13] at h
    refine lv_iload_n hx hb dX3_layArcs_13 rfl (lv_at hl 3 rfl) ?_
    refine lv_aload_n hx hb dX3_layArcs_14 rfl (lv_at hl 1 rfl) ?_
    obtain ⟨r32, hq, h⟩ := bn1_some h
    refine g_cvi X hW (As := []) (ws' := (wX3_layArcs G a_plan a_plan_start a_plan_end a_plan_cost a_plan_room a_ob a_ob_a a_plan_idle a_plan_unmet a_plan_gain a_plan_way pl_arcs pl_lack pl_least pl_start pl_end pl_cost pl_room routes_r routes_f)) ckX3_layArcs_X4_size_94 (kcX4_size (l := l) G a_ob a_ob_a (5 : Int32) (10 : Int32) routes_r hq) ⟨rfl, rfl, Nat.le_of_ble_eq_true rfl, Nat.le_of_ble_eq_true rfl⟩ [5] rfl rfl rfl rfl rfl rfl rfl hl.1 (Nat.le_of_ble_eq_true rfl) ⟨Nat.zero_le _, Nat.zero_le _⟩ dX3_layArcs_15 (fun H locs hW => ?_)
    refine lv_icmp_ge (tgt := 80) hx hb dX3_layArcs_18 (by decide) (fun c33 => ?_) (fun c33 => ?_)
    · have h := (if_pos c33).symm.trans h
      exact Hk_80 pl_arcs pl_start pl_end pl_cost pl_room h H locs hW ls (lv_sub hl [0, 1, 2] rfl)
    · have h := (if_neg c33).symm.trans h
      refine lv_iload_n hx hb dX3_layArcs_21 rfl (lv_at hl 2 rfl) ?_
      refine lv_aload_n hx hb dX3_layArcs_22 rfl (lv_at hl 1 rfl) ?_
      refine lv_iload_n hx hb dX3_layArcs_23 rfl (lv_at hl 3 rfl) ?_
      refine lv_iconst hx hb dX3_layArcs_24 qI_2 ?_
      obtain ⟨r38, hq, h⟩ := bn1_some h
      refine g_cvi X hW (As := [.int v3, .int (2 : Int32)]) (ws' := (wX3_layArcs G a_plan a_plan_start a_plan_end a_plan_cost a_plan_room a_ob a_ob_a a_plan_idle a_plan_unmet a_plan_gain a_plan_way pl_arcs pl_lack pl_least pl_start pl_end pl_cost pl_room routes_r routes_f)) ckX3_layArcs_X4_cell_80 (kcX4_cell (l := l) G a_ob a_ob_a v3 (2 : Int32) (5 : Int32) (10 : Int32) routes_r 50 routes_f hq) ⟨rfl, rfl, Nat.le_of_ble_eq_true rfl, Nat.le_of_ble_eq_true rfl⟩ [5, 6] rfl rfl rfl rfl rfl rfl rfl hl.1 (Nat.le_of_ble_eq_true rfl) ⟨Nat.zero_le _, Nat.zero_le _⟩ dX3_layArcs_25 (fun H locs hW => ?_)
      refine lv_iadd hx hb dX3_layArcs_28 ?_
      refine lv_istore (lv' := [(4, .int (v2 + r38)), (0, .ref a_plan), (1, .ref a_ob), (2, .int v2), (3, .int v3)]) hx hb dX3_layArcs_29 hl (by decide) rfl (fun ls hl => ?_)
      refine lv_iload hx hb dX3_layArcs_31 (lv_at hl 0 rfl) ?_
      refine lv_iconst hx hb dX3_layArcs_33 qI_5 ?_
      refine lv_icmp_ge (tgt := 74) hx hb dX3_layArcs_34 (by decide) (fun c43 => ?_) (fun c43 => ?_)
      · have h := (if_pos c43).symm.trans h
        exact tX3_layArcs_74 X v2 v3 pl_arcs pl_start pl_end pl_cost pl_room (fun v3 pl_arcs pl_start pl_end pl_cost pl_room => fX3_layArcs_13 v2 routes_r routes_f k_80 n v3 pl_arcs pl_start pl_end pl_cost pl_room) ih h H locs hW ls (lv_sub hl [1, 2, 3, 4] rfl)
      · have h := (if_neg c43).symm.trans h
        refine lv_aload_n hx hb dX3_layArcs_37 rfl (lv_at hl 1 rfl) ?_
        refine lv_aload_n hx hb dX3_layArcs_38 rfl (lv_at hl 2 rfl) ?_
        refine lv_iload_n hx hb dX3_layArcs_39 rfl (lv_at hl 4 rfl) ?_
        refine lv_iconst hx hb dX3_layArcs_40 qI_0 ?_
        obtain ⟨r48, hq, h⟩ := bn1_some h
        refine g_cvi X hW (As := [.int v3, .int (0 : Int32)]) (ws' := (wX3_layArcs G a_plan a_plan_start a_plan_end a_plan_cost a_plan_room a_ob a_ob_a a_plan_idle a_plan_unmet a_plan_gain a_plan_way pl_arcs pl_lack pl_least pl_start pl_end pl_cost pl_room routes_r routes_f)) ckX3_layArcs_X4_cell_80 (kcX4_cell (l := l) G a_ob a_ob_a v3 (0 : Int32) (5 : Int32) (10 : Int32) routes_r 50 routes_f hq) ⟨rfl, rfl, Nat.le_of_ble_eq_true rfl, Nat.le_of_ble_eq_true rfl⟩ [5, 6] rfl rfl rfl rfl rfl rfl rfl hl.1 (Nat.le_of_ble_eq_true rfl) ⟨Nat.zero_le _, Nat.zero_le _⟩ dX3_layArcs_41 (fun H locs hW => ?_)
        refine lv_iload_n hx hb dX3_layArcs_44 rfl (lv_at hl 3 rfl) ?_
        obtain ⟨r50, hq, h⟩ := bn1_some h
        refine g_cni X hW (As := [.int r48, .int v2]) (ws' := (wX3_layArcs G a_plan a_plan_start a_plan_end a_plan_cost a_plan_room a_ob a_ob_a a_plan_idle a_plan_unmet a_plan_gain a_plan_way pl_arcs pl_lack pl_least pl_start pl_end pl_cost pl_room routes_r routes_f)) ckX3_layArcs_X6_knotOf_97 (kcX6_knotOf (l := l) G r48 v2 hq) ⟨rfl, rfl, Nat.le_of_ble_eq_true rfl, Nat.le_of_ble_eq_true rfl⟩ [] rfl rfl rfl rfl rfl rfl hl.1 (Nat.le_of_ble_eq_true rfl) ⟨Nat.zero_le _, Nat.zero_le _⟩ dX3_layArcs_45 (fun H locs hW => ?_)
        refine lv_aload_n hx hb dX3_layArcs_48 rfl (lv_at hl 2 rfl) ?_
        refine lv_iload_n hx hb dX3_layArcs_49 rfl (lv_at hl 4 rfl) ?_
        refine lv_iconst hx hb dX3_layArcs_50 qI_1 ?_
        obtain ⟨r54, hq, h⟩ := bn1_some h
        refine g_cvi X hW (As := [.int v3, .int (1 : Int32)]) (ws' := (wX3_layArcs G a_plan a_plan_start a_plan_end a_plan_cost a_plan_room a_ob a_ob_a a_plan_idle a_plan_unmet a_plan_gain a_plan_way pl_arcs pl_lack pl_least pl_start pl_end pl_cost pl_room routes_r routes_f)) ckX3_layArcs_X4_cell_80 (kcX4_cell (l := l) G a_ob a_ob_a v3 (1 : Int32) (5 : Int32) (10 : Int32) routes_r 50 routes_f hq) ⟨rfl, rfl, Nat.le_of_ble_eq_true rfl, Nat.le_of_ble_eq_true rfl⟩ [5, 6] rfl rfl rfl rfl rfl rfl rfl hl.1 (Nat.le_of_ble_eq_true rfl) ⟨Nat.zero_le _, Nat.zero_le _⟩ dX3_layArcs_51 (fun H locs hW => ?_)
        refine lv_iload hx hb dX3_layArcs_54 (lv_at hl 0 rfl) ?_
        obtain ⟨r56, hq, h⟩ := bn1_some h
        refine g_cni X hW (As := [.int r54, .int (v2 + r38)]) (ws' := (wX3_layArcs G a_plan a_plan_start a_plan_end a_plan_cost a_plan_room a_ob a_ob_a a_plan_idle a_plan_unmet a_plan_gain a_plan_way pl_arcs pl_lack pl_least pl_start pl_end pl_cost pl_room routes_r routes_f)) ckX3_layArcs_X6_knotOf_97 (kcX6_knotOf (l := l) G r54 (v2 + r38) hq) ⟨rfl, rfl, Nat.le_of_ble_eq_true rfl, Nat.le_of_ble_eq_true rfl⟩ [] rfl rfl rfl rfl rfl rfl hl.1 (Nat.le_of_ble_eq_true rfl) ⟨Nat.zero_le _, Nat.zero_le _⟩ dX3_layArcs_56 (fun H locs hW => ?_)
        refine lv_aload_n hx hb dX3_layArcs_59 rfl (lv_at hl 2 rfl) ?_
        refine lv_iload_n hx hb dX3_layArcs_60 rfl (lv_at hl 4 rfl) ?_
        refine lv_iconst hx hb dX3_layArcs_61 qI_3 ?_
        obtain ⟨r60, hq, h⟩ := bn1_some h
        refine g_cvi X hW (As := [.int v3, .int (3 : Int32)]) (ws' := (wX3_layArcs G a_plan a_plan_start a_plan_end a_plan_cost a_plan_room a_ob a_ob_a a_plan_idle a_plan_unmet a_plan_gain a_plan_way pl_arcs pl_lack pl_least pl_start pl_end pl_cost pl_room routes_r routes_f)) ckX3_layArcs_X4_cell_80 (kcX4_cell (l := l) G a_ob a_ob_a v3 (3 : Int32) (5 : Int32) (10 : Int32) routes_r 50 routes_f hq) ⟨rfl, rfl, Nat.le_of_ble_eq_true rfl, Nat.le_of_ble_eq_true rfl⟩ [5, 6] rfl rfl rfl rfl rfl rfl rfl hl.1 (Nat.le_of_ble_eq_true rfl) ⟨Nat.zero_le _, Nat.zero_le _⟩ dX3_layArcs_62 (fun H locs hW => ?_)
        refine lv_aload_n hx hb dX3_layArcs_65 rfl (lv_at hl 2 rfl) ?_
        refine lv_iload_n hx hb dX3_layArcs_66 rfl (lv_at hl 4 rfl) ?_
        refine lv_iconst hx hb dX3_layArcs_67 qI_4 ?_
        obtain ⟨r64, hq, h⟩ := bn1_some h
        refine g_cvi X hW (As := [.int v3, .int (4 : Int32)]) (ws' := (wX3_layArcs G a_plan a_plan_start a_plan_end a_plan_cost a_plan_room a_ob a_ob_a a_plan_idle a_plan_unmet a_plan_gain a_plan_way pl_arcs pl_lack pl_least pl_start pl_end pl_cost pl_room routes_r routes_f)) ckX3_layArcs_X4_cell_80 (kcX4_cell (l := l) G a_ob a_ob_a v3 (4 : Int32) (5 : Int32) (10 : Int32) routes_r 50 routes_f hq) ⟨rfl, rfl, Nat.le_of_ble_eq_true rfl, Nat.le_of_ble_eq_true rfl⟩ [5, 6] rfl rfl rfl rfl rfl rfl rfl hl.1 (Nat.le_of_ble_eq_true rfl) ⟨Nat.zero_le _, Nat.zero_le _⟩ dX3_layArcs_68 (fun H locs hW => ?_)
        obtain ⟨o65_pl_arcs, o65_pl_start, o65_pl_end, o65_pl_cost, o65_pl_room, hq, h⟩ := bn5_some h
        refine g_cvv X hW (As := [.int r50, .int r56, .int r60, .int r64]) (ws' := (wX3_layArcs G a_plan a_plan_start a_plan_end a_plan_cost a_plan_room a_ob a_ob_a a_plan_idle a_plan_unmet a_plan_gain a_plan_way o65_pl_arcs pl_lack pl_least o65_pl_start o65_pl_end o65_pl_cost o65_pl_room routes_r routes_f)) ckX3_layArcs_X3_layArc_100 (kcX3_layArc (l := l) G a_plan a_plan_start a_plan_end a_plan_cost a_plan_room a_plan_idle a_plan_unmet a_plan_gain a_plan_way r50 r56 r60 r64 pl_arcs pl_lack pl_least pl_start pl_end pl_cost pl_room hq) ⟨rfl, rfl, Nat.le_of_ble_eq_true rfl, Nat.le_of_ble_eq_true rfl⟩ [0, 1, 2, 3, 4] rfl rfl rfl rfl rfl rfl rfl hl.1 (Nat.le_of_ble_eq_true rfl) ⟨Nat.zero_le _, Nat.zero_le _⟩ dX3_layArcs_71 (fun H locs hW => ?_)
        exact tX3_layArcs_74 X v2 v3 o65_pl_arcs o65_pl_start o65_pl_end o65_pl_cost o65_pl_room (fun v3 pl_arcs pl_start pl_end pl_cost pl_room => fX3_layArcs_13 v2 routes_r routes_f k_80 n v3 pl_arcs pl_start pl_end pl_cost pl_room) ih h H locs hW ls (lv_sub hl [1, 2, 3, 4] rfl)
set_option maxHeartbeats 4000000 in
set_option maxRecDepth 100000 in
theorem tX3_layArcs_7 (X : Bx p s m args meth c cX3_layArcs 5 wsX3_layArcs RX3 none)    : ∀ (n : Nat) (v2 : Int32) (pl_arcs : Int32) (pl_start : (Nat → Int32)) (pl_end : (Nat → Int32)) (pl_cost : (Nat → Int32)) (pl_room : (Nat → Int32)), fX3_layArcs_7 routes_r routes_f n v2 pl_arcs pl_start pl_end pl_cost pl_room = some res → ∀ (H : Heap) (locs : List Loc), Wo G A s (wX3_layArcs G a_plan a_plan_start a_plan_end a_plan_cost a_plan_room a_ob a_ob_a a_plan_idle a_plan_unmet a_plan_gain a_plan_way pl_arcs pl_lack pl_least pl_start pl_end pl_cost pl_room routes_r routes_f) H locs → ∀ ls : Array Slot, lv_has ls 5 [(0, .ref a_plan), (1, .ref a_ob), (2, .int v2)] → W p l e rmX3_layArcs s m args below meth c H locs 0 0 (QV G A below args s (wX3_layArcs G a_plan a_plan_start a_plan_end a_plan_cost a_plan_room a_ob a_ob_a a_plan_idle a_plan_unmet a_plan_gain a_plan_way res.1 pl_lack pl_least res.2.1 res.2.2.1 res.2.2.2.1 res.2.2.2.2 routes_r routes_f)) (F0 m 7 ls []) := by
  obtain ⟨hx, hb, -⟩ := id X.1
  intro n
  induction n with
  | zero => intro v2 pl_arcs pl_start pl_end pl_cost pl_room h; rw [fX3_layArcs_7] at h; cases h
  | succ n ih =>
    intro v2 pl_arcs pl_start pl_end pl_cost pl_room h H locs hW ls hl
    rw [fX3_layArcs_7] at h
    refine lv_iload_n hx hb dX3_layArcs_7 rfl (lv_at hl 2 rfl) ?_
    refine lv_if_lt (tgt := 127) hx hb dX3_layArcs_8 (by decide) (fun c67 => ?_) (fun c67 => ?_)
    · have h := (if_pos c67).symm.trans h
      obtain rfl := Option.some.inj h
      exact g_vret X hW dX3_layArcs_127
    · have h := (if_neg c67).symm.trans h
      refine lv_iconst hx hb dX3_layArcs_11 qI_0 ?_
      refine lv_istore_n (lv' := [(3, .int (0 : Int32)), (0, .ref a_plan), (1, .ref a_ob), (2, .int v2)]) hx hb dX3_layArcs_12 rfl hl (by decide) rfl (fun ls hl => ?_)
      exact tX3_layArcs_13 X v2 (fun pl_arcs_q71 pl_start_q71 pl_end_q71 pl_cost_q71 pl_room_q71 => fX3_layArcs_80 (fun v2 pl_arcs pl_start pl_end pl_cost pl_room => fX3_layArcs_7 routes_r routes_f n v2 pl_arcs pl_start pl_end pl_cost pl_room) v2 pl_arcs_q71 pl_start_q71 pl_end_q71 pl_cost_q71 pl_room_q71) (fun pl_arcs_q71 pl_start_q71 pl_end_q71 pl_cost_q71 pl_room_q71 h H locs hW ls hl => by exact tX3_layArcs_80 X v2 pl_arcs_q71 pl_start_q71 pl_end_q71 pl_cost_q71 pl_room_q71 (fun v2 pl_arcs pl_start pl_end pl_cost pl_room => fX3_layArcs_7 routes_r routes_f n v2 pl_arcs pl_start pl_end pl_cost pl_room) ih h H locs hW ls hl) FU (0 : Int32) pl_arcs pl_start pl_end pl_cost pl_room h H locs hW ls (lv_sub hl [1, 2, 3, 0] rfl)
set_option maxHeartbeats 4000000 in
set_option maxRecDepth 100000 in
theorem k0X3_layArcs {l : Launch} (G : Gt) (a_plan a_plan_start a_plan_end a_plan_cost a_plan_room a_ob a_ob_a a_plan_idle a_plan_unmet a_plan_gain a_plan_way : Nat)  (pl_arcs : Int32) (pl_lack : Int32) (pl_least : Int32) (pl_start : (Nat → Int32)) (pl_end : (Nat → Int32)) (pl_cost : (Nat → Int32)) (pl_room : (Nat → Int32)) (routes_r : Int32) (routes_f : (Nat → Int32)) {res : Int32 × (Nat → Int32) × (Nat → Int32) × (Nat → Int32) × (Nat → Int32)} (h : fX3_layArcs pl_arcs pl_start pl_end pl_cost pl_room routes_r routes_f = some res) : CtV G l yX3_layArcs wsX3_layArcs rmX3_layArcs [.ref a_plan, .ref a_ob] (wX3_layArcs G a_plan a_plan_start a_plan_end a_plan_cost a_plan_room a_ob a_ob_a a_plan_idle a_plan_unmet a_plan_gain a_plan_way pl_arcs pl_lack pl_least pl_start pl_end pl_cost pl_room routes_r routes_f) (wX3_layArcs G a_plan a_plan_start a_plan_end a_plan_cost a_plan_room a_ob a_ob_a a_plan_idle a_plan_unmet a_plan_gain a_plan_way res.1 pl_lack pl_least res.2.1 res.2.2.1 res.2.2.2.1 res.2.2.2.2 routes_r routes_f) := by
  refine CtV.mk (cc := cX3_layArcs) (maxL := 5) (ret := none) (own := RX3) (by decide) rfl rfl (Nat.le_of_ble_eq_true rfl) ?_
  intro p e s m below meth c A X ls hl hW
  obtain ⟨hx, hb, -⟩ := id X.1
  have hl : lv_has ls 5 [(0, .ref a_plan), (1, .ref a_ob)] := hl
  generalize hH : s.heap = H at hW ⊢
  generalize hLo : ([] : List Loc) = locs at hW ⊢
  rw [fX3_layArcs] at h
  refine lv_aload_n hx hb dX3_layArcs_0 rfl (lv_at hl 0 rfl) ?_
  refine lv_iconst hx hb dX3_layArcs_1 qI_0 ?_
  refine g_put X hW (ws' := (wX3_layArcs G a_plan a_plan_start a_plan_end a_plan_cost a_plan_room a_ob a_ob_a a_plan_idle a_plan_unmet a_plan_gain a_plan_way (0 : Int32) pl_lack pl_least pl_start pl_end pl_cost pl_room routes_r routes_f)) pX3_layArcs_91 0 rfl (Nat.le_of_ble_eq_true rfl) rfl rfl rfl dX3_layArcs_2 (fun H locs hW => ?_)
  refine lv_iconst hx hb dX3_layArcs_5 qI_4 ?_
  refine lv_istore_n (lv' := [(2, .int (4 : Int32)), (0, .ref a_plan), (1, .ref a_ob)]) hx hb dX3_layArcs_6 rfl hl (by decide) rfl (fun ls hl => ?_)
  exact tX3_layArcs_7 X  FU (4 : Int32) (0 : Int32) pl_start pl_end pl_cost pl_room h H locs hW ls (lv_sub hl [1, 2, 0] rfl)
theorem kcX3_layArcs {l : Launch} (G : Gt) (a_plan a_plan_start a_plan_end a_plan_cost a_plan_room a_ob a_ob_a a_plan_idle a_plan_unmet a_plan_gain a_plan_way : Nat)  (pl_arcs : Int32) (pl_lack : Int32) (pl_least : Int32) (pl_start : (Nat → Int32)) (pl_end : (Nat → Int32)) (pl_cost : (Nat → Int32)) (pl_room : (Nat → Int32)) (routes_r : Int32) (routes_f : (Nat → Int32))  {z_pl_arcs : Int32} {z_pl_start : (Nat → Int32)} {z_pl_end : (Nat → Int32)} {z_pl_cost : (Nat → Int32)} {z_pl_room : (Nat → Int32)} (h : fX3_layArcs pl_arcs pl_start pl_end pl_cost pl_room routes_r routes_f = some (z_pl_arcs, z_pl_start, z_pl_end, z_pl_cost, z_pl_room)) : CtV G l yX3_layArcs wsX3_layArcs rmX3_layArcs [.ref a_plan, .ref a_ob] (wX3_layArcs G a_plan a_plan_start a_plan_end a_plan_cost a_plan_room a_ob a_ob_a a_plan_idle a_plan_unmet a_plan_gain a_plan_way pl_arcs pl_lack pl_least pl_start pl_end pl_cost pl_room routes_r routes_f) (wX3_layArcs G a_plan a_plan_start a_plan_end a_plan_cost a_plan_room a_ob a_ob_a a_plan_idle a_plan_unmet a_plan_gain a_plan_way z_pl_arcs pl_lack pl_least z_pl_start z_pl_end z_pl_cost z_pl_room routes_r routes_f) := k0X3_layArcs G a_plan a_plan_start a_plan_end a_plan_cost a_plan_room a_ob a_ob_a a_plan_idle a_plan_unmet a_plan_gain a_plan_way pl_arcs pl_lack pl_least pl_start pl_end pl_cost pl_room routes_r routes_f h
end MX3_layArcs
/-! EmptyBoxes$Plan.reckonGains -/
section MX3_reckonGains
theorem hdX3_reckonGains : yX3_reckonGains.cls = RX3 ∧ yX3_reckonGains.cls ≠ "java/lang/invoke/MethodHandle" ∧ yX3_reckonGains.cls ≠ "java/lang/invoke/VarHandle" ∧ (parseMethodDescriptor yX3_reckonGains.desc).map (fun d => d.parameters.length) = some 0 := by decide +kernel
abbrev wX3_reckonGains (G : Gt) (a_plan a_plan_start a_plan_end a_plan_cost a_plan_room a_plan_unmet a_plan_gain a_plan_way a_plan_idle : Nat) (pl_arcs : Int32) (pl_lack : Int32) (pl_least : Int32) (pl_start : (Nat → Int32)) (pl_end : (Nat → Int32)) (pl_cost : (Nat → Int32)) (pl_room : (Nat → Int32)) (pl_unmet : (Nat → Int32)) (pl_gain : (Nat → Int32)) (pl_way : (Nat → Int32)) : va_W := [(a_plan, .inr (3, [.ref a_plan_start, .ref a_plan_end, .ref a_plan_cost, .ref a_plan_room, .ref a_plan_idle, .ref a_plan_unmet, .ref a_plan_gain, .ref a_plan_way, .int pl_arcs, .int pl_lack, .int pl_least])), (a_plan_start, .inl (G.2.1, 148, .inl pl_start)), (a_plan_end, .inl (G.2.1, 148, .inl pl_end)), (a_plan_cost, .inl (G.2.1, 148, .inl pl_cost)), (a_plan_room, .inl (G.2.1, 148, .inl pl_room)), (a_plan_unmet, .inl (G.2.1, 30, .inl pl_unmet)), (a_plan_gain, .inl (G.2.1, 30, .inl pl_gain)), (a_plan_way, .inl (G.2.1, 30, .inl pl_way))]
abbrev rmX3_reckonGains : Room := { frames := 0, cells := 0, slots := 0, locals := 0 }
theorem iX3_reckonGains_X3 : ∀ w ∈ wsX30, w ∈ wsX3_reckonGains := by decide +kernel
theorem eX3_reckonGains_11 : Fk wsX3_reckonGains RX3 11 3 0 := ⟨RX3, TX3, 11, rfl, iX3_reckonGains_X3, by decide, by decide +kernel⟩
theorem eX3_reckonGains_15 : Fk wsX3_reckonGains RX3 15 3 1 := ⟨RX3, TX3, 11, rfl, iX3_reckonGains_X3, by decide, by decide +kernel⟩
theorem eX3_reckonGains_18 : Fk wsX3_reckonGains RX3 18 3 2 := ⟨RX3, TX3, 11, rfl, iX3_reckonGains_X3, by decide, by decide +kernel⟩
theorem eX3_reckonGains_21 : Fk wsX3_reckonGains RX3 21 3 3 := ⟨RX3, TX3, 11, rfl, iX3_reckonGains_X3, by decide, by decide +kernel⟩
theorem eX3_reckonGains_27 : Fk wsX3_reckonGains RX3 27 3 5 := ⟨RX3, TX3, 11, rfl, iX3_reckonGains_X3, by decide, by decide +kernel⟩
theorem eX3_reckonGains_30 : Fk wsX3_reckonGains RX3 30 3 6 := ⟨RX3, TX3, 11, rfl, iX3_reckonGains_X3, by decide, by decide +kernel⟩
theorem eX3_reckonGains_33 : Fk wsX3_reckonGains RX3 33 3 7 := ⟨RX3, TX3, 11, rfl, iX3_reckonGains_X3, by decide, by decide +kernel⟩
theorem eX3_reckonGains_73 : Fk wsX3_reckonGains RX3 73 3 9 := ⟨RX3, TX3, 11, rfl, iX3_reckonGains_X3, by decide, by decide +kernel⟩
theorem eX3_reckonGains_91 : Fk wsX3_reckonGains RX3 91 3 8 := ⟨RX3, TX3, 11, rfl, iX3_reckonGains_X3, by decide, by decide +kernel⟩
variable {p : Program} {l : Launch} {e : Env} {s : State} {m : MethodId} {args : Array Value} {below : List Frame} {meth : Method} {c : Code} {A : Nat → Prop} {G : Gt} {a_plan a_plan_start a_plan_end a_plan_cost a_plan_room a_plan_unmet a_plan_gain a_plan_way a_plan_idle : Nat} {pl_arcs : Int32} {pl_lack : Int32} {pl_least : Int32} {pl_start : (Nat → Int32)} {pl_end : (Nat → Int32)} {pl_cost : (Nat → Int32)} {pl_room : (Nat → Int32)} {pl_unmet : (Nat → Int32)} {res : (Nat → Int32) × (Nat → Int32)}
set_option maxHeartbeats 4000000 in
set_option maxRecDepth 100000 in
theorem tX3_reckonGains_161 (X : Bx p s m args meth c cX3_reckonGains 4 wsX3_reckonGains RX3 none) (v1 : Int32) (v2 : Int32) (pl_gain : (Nat → Int32)) (pl_way : (Nat → Int32)) (k_49 : Int32 → Int32 → (Nat → Int32) → (Nat → Int32) → Option ((Nat → Int32) × (Nat → Int32))) (Hk_49 : ∀ (v1 : Int32) (v2 : Int32) (pl_gain : (Nat → Int32)) (pl_way : (Nat → Int32)), k_49 v1 v2 pl_gain pl_way = some res → ∀ (H : Heap) (locs : List Loc), Wo G A s (wX3_reckonGains G a_plan a_plan_start a_plan_end a_plan_cost a_plan_room a_plan_unmet a_plan_gain a_plan_way a_plan_idle pl_arcs pl_lack pl_least pl_start pl_end pl_cost pl_room pl_unmet pl_gain pl_way) H locs → ∀ ls : Array Slot, lv_has ls 4 [(0, .ref a_plan), (1, .int v1), (2, .int v2)] → W p l e rmX3_reckonGains s m args below meth c H locs 0 0 (QV G A below args s (wX3_reckonGains G a_plan a_plan_start a_plan_end a_plan_cost a_plan_room a_plan_unmet a_plan_gain a_plan_way a_plan_idle pl_arcs pl_lack pl_least pl_start pl_end pl_cost pl_room pl_unmet res.1 res.2)) (F0 m 49 ls [])) (h : fX3_reckonGains_161 k_49 v1 v2 pl_gain pl_way = some res) : ∀ (H : Heap) (locs : List Loc), Wo G A s (wX3_reckonGains G a_plan a_plan_start a_plan_end a_plan_cost a_plan_room a_plan_unmet a_plan_gain a_plan_way a_plan_idle pl_arcs pl_lack pl_least pl_start pl_end pl_cost pl_room pl_unmet pl_gain pl_way) H locs → ∀ ls : Array Slot, lv_has ls 4 [(0, .ref a_plan), (1, .int v1), (2, .int v2)] → W p l e rmX3_reckonGains s m args below meth c H locs 0 0 (QV G A below args s (wX3_reckonGains G a_plan a_plan_start a_plan_end a_plan_cost a_plan_room a_plan_unmet a_plan_gain a_plan_way a_plan_idle pl_arcs pl_lack pl_least pl_start pl_end pl_cost pl_room pl_unmet res.1 res.2)) (F0 m 161 ls []) := by
  obtain ⟨hx, hb, -⟩ := id X.1
  intro H locs hW ls hl
  rw [fX3_reckonGains_161] at h
  refine lv_iinc (v := (v2 + (1 : Int32))) (lv' := [(2, .int (v2 + (1 : Int32))), (0, .ref a_plan), (1, .int v1)]) hx hb dX3_reckonGains_161 hl (k := 2) rfl (congrArg (fun z => v2 + z) qI_1) (by decide) rfl (fun ls hl => ?_)
  refine lv_goto (tgt := 49) hx hb dX3_reckonGains_164 (by decide) ?_
  exact Hk_49 v1 (v2 + (1 : Int32)) pl_gain pl_way h H locs hW ls (lv_sub hl [1, 2, 0] rfl)
set_option maxHeartbeats 4000000 in
set_option maxRecDepth 100000 in
theorem tX3_reckonGains_155 (X : Bx p s m args meth c cX3_reckonGains 4 wsX3_reckonGains RX3 none) (v1 : Int32) (v2 : Int32) (v3 : Int32) (pl_gain : (Nat → Int32)) (pl_way : (Nat → Int32)) (k_63 : Int32 → Int32 → (Nat → Int32) → (Nat → Int32) → Option ((Nat → Int32) × (Nat → Int32))) (Hk_63 : ∀ (v1 : Int32) (v3 : Int32) (pl_gain : (Nat → Int32)) (pl_way : (Nat → Int32)), k_63 v1 v3 pl_gain pl_way = some res → ∀ (H : Heap) (locs : List Loc), Wo G A s (wX3_reckonGains G a_plan a_plan_start a_plan_end a_plan_cost a_plan_room a_plan_unmet a_plan_gain a_plan_way a_plan_idle pl_arcs pl_lack pl_least pl_start pl_end pl_cost pl_room pl_unmet pl_gain pl_way) H locs → ∀ ls : Array Slot, lv_has ls 4 [(0, .ref a_plan), (1, .int v1), (2, .int v2), (3, .int v3)] → W p l e rmX3_reckonGains s m args below meth c H locs 0 0 (QV G A below args s (wX3_reckonGains G a_plan a_plan_start a_plan_end a_plan_cost a_plan_room a_plan_unmet a_plan_gain a_plan_way a_plan_idle pl_arcs pl_lack pl_least pl_start pl_end pl_cost pl_room pl_unmet res.1 res.2)) (F0 m 63 ls [])) (h : fX3_reckonGains_155 k_63 v1 v3 pl_gain pl_way = some res) : ∀ (H : Heap) (locs : List Loc), Wo G A s (wX3_reckonGains G a_plan a_plan_start a_plan_end a_plan_cost a_plan_room a_plan_unmet a_plan_gain a_plan_way a_plan_idle pl_arcs pl_lack pl_least pl_start pl_end pl_cost pl_room pl_unmet pl_gain pl_way) H locs → ∀ ls : Array Slot, lv_has ls 4 [(0, .ref a_plan), (1, .int v1), (2, .int v2), (3, .int v3)] → W p l e rmX3_reckonGains s m args below meth c H locs 0 0 (QV G A below args s (wX3_reckonGains G a_plan a_plan_start a_plan_end a_plan_cost a_plan_room a_plan_unmet a_plan_gain a_plan_way a_plan_idle pl_arcs pl_lack pl_least pl_start pl_end pl_cost pl_room pl_unmet res.1 res.2)) (F0 m 155 ls []) := by
  obtain ⟨hx, hb, -⟩ := id X.1
  intro H locs hW ls hl
  rw [fX3_reckonGains_155] at h
  refine lv_iinc (v := (v3 + (1 : Int32))) (lv' := [(3, .int (v3 + (1 : Int32))), (0, .ref a_plan), (1, .int v1), (2, .int v2)]) hx hb dX3_reckonGains_155 hl (k := 3) rfl (congrArg (fun z => v3 + z) qI_1) (by decide) rfl (fun ls hl => ?_)
  refine lv_goto (tgt := 63) hx hb dX3_reckonGains_158 (by decide) ?_
  exact Hk_63 v1 (v3 + (1 : Int32)) pl_gain pl_way h H locs hW ls (lv_sub hl [1, 2, 3, 0] rfl)
set_option maxHeartbeats 4000000 in
set_option maxRecDepth 100000 in
theorem tX3_reckonGains_63 (X : Bx p s m args meth c cX3_reckonGains 4 wsX3_reckonGains RX3 none) (v2 : Int32) (k_161 : Int32 → (Nat → Int32) → (Nat → Int32) → Option ((Nat → Int32) × (Nat → Int32))) (Hk_161 : ∀ (v1 : Int32) (pl_gain : (Nat → Int32)) (pl_way : (Nat → Int32)), k_161 v1 pl_gain pl_way = some res → ∀ (H : Heap) (locs : List Loc), Wo G A s (wX3_reckonGains G a_plan a_plan_start a_plan_end a_plan_cost a_plan_room a_plan_unmet a_plan_gain a_plan_way a_plan_idle pl_arcs pl_lack pl_least pl_start pl_end pl_cost pl_room pl_unmet pl_gain pl_way) H locs → ∀ ls : Array Slot, lv_has ls 4 [(0, .ref a_plan), (1, .int v1), (2, .int v2)] → W p l e rmX3_reckonGains s m args below meth c H locs 0 0 (QV G A below args s (wX3_reckonGains G a_plan a_plan_start a_plan_end a_plan_cost a_plan_room a_plan_unmet a_plan_gain a_plan_way a_plan_idle pl_arcs pl_lack pl_least pl_start pl_end pl_cost pl_room pl_unmet res.1 res.2)) (F0 m 161 ls [])) : ∀ (n : Nat) (v1 : Int32) (v3 : Int32) (pl_gain : (Nat → Int32)) (pl_way : (Nat → Int32)), fX3_reckonGains_63 pl_arcs pl_start pl_end pl_cost pl_room k_161 n v1 v3 pl_gain pl_way = some res → ∀ (H : Heap) (locs : List Loc), Wo G A s (wX3_reckonGains G a_plan a_plan_start a_plan_end a_plan_cost a_plan_room a_plan_unmet a_plan_gain a_plan_way a_plan_idle pl_arcs pl_lack pl_least pl_start pl_end pl_cost pl_room pl_unmet pl_gain pl_way) H locs → ∀ ls : Array Slot, lv_has ls 4 [(0, .ref a_plan), (1, .int v1), (2, .int v2), (3, .int v3)] → W p l e rmX3_reckonGains s m args below meth c H locs 0 0 (QV G A below args s (wX3_reckonGains G a_plan a_plan_start a_plan_end a_plan_cost a_plan_room a_plan_unmet a_plan_gain a_plan_way a_plan_idle pl_arcs pl_lack pl_least pl_start pl_end pl_cost pl_room pl_unmet res.1 res.2)) (F0 m 63 ls []) := by
  obtain ⟨hx, hb, -⟩ := id X.1
  intro n
  induction n with
  | zero => intro v1 v3 pl_gain pl_way h; rw [fX3_reckonGains_63] at h; cases h
  | succ n ih =>
    intro v1 v3 pl_gain pl_way h H locs hW ls hl
    rw [fX3_reckonGains_63] at h
    refine lv_iload_n hx hb dX3_reckonGains_63 rfl (lv_at hl 3 rfl) ?_
    refine lv_aload_n hx hb dX3_reckonGains_64 rfl (lv_at hl 0 rfl) ?_
    refine g_get X hW eX3_reckonGains_91 0 rfl rfl dX3_reckonGains_65 ?_
    refine lv_icmp_ge (tgt := 161) hx hb dX3_reckonGains_68 (by decide) (fun c8 => ?_) (fun c8 => ?_)
    · have h := (if_pos c8).symm.trans h
      exact Hk_161 v1 pl_gain pl_way h H locs hW ls (lv_sub hl [0, 1, 2] rfl)
    · have h := (if_neg c8).symm.trans h
      refine lv_aload_n hx hb dX3_reckonGains_71 rfl (lv_at hl 0 rfl) ?_
      refine g_get X hW eX3_reckonGains_21 0 rfl rfl dX3_reckonGains_72 ?_
      refine lv_iload_n hx hb dX3_reckonGains_75 rfl (lv_at hl 3 rfl) ?_
      obtain ⟨g12, h⟩ := gd_some h
      refine g_ald X hW 4 rfl g12 dX3_reckonGains_76 ?_
      refine lv_if_le (tgt := 155) hx hb dX3_reckonGains_77 (by decide) (fun c13 => ?_) (fun c13 => ?_)
      · have h := (if_pos c13).symm.trans h
        exact tX3_reckonGains_155 X v1 v2 v3 pl_gain pl_way (fun v1 v3 pl_gain pl_way => fX3_reckonGains_63 pl_arcs pl_start pl_end pl_cost pl_room k_161 n v1 v3 pl_gain pl_way) ih h H locs hW ls hl
      · have h := (if_neg c13).symm.trans h
        refine lv_aload_n hx hb dX3_reckonGains_80 rfl (lv_at hl 0 rfl) ?_
        refine g_get X hW eX3_reckonGains_30 0 rfl rfl dX3_reckonGains_81 ?_
        refine lv_aload_n hx hb dX3_reckonGains_84 rfl (lv_at hl 0 rfl) ?_
        refine g_get X hW eX3_reckonGains_15 0 rfl rfl dX3_reckonGains_85 ?_
        refine lv_iload_n hx hb dX3_reckonGains_88 rfl (lv_at hl 3 rfl) ?_
        obtain ⟨g19, h⟩ := gd_some h
        refine g_ald X hW 2 rfl g19 dX3_reckonGains_89 ?_
        obtain ⟨g20, h⟩ := gd_some h
        refine g_ald X hW 6 rfl g20 dX3_reckonGains_90 ?_
        refine lv_aload_n hx hb dX3_reckonGains_91 rfl (lv_at hl 0 rfl) ?_
        refine g_get X hW eX3_reckonGains_18 0 rfl rfl dX3_reckonGains_92 ?_
        refine lv_iload_n hx hb dX3_reckonGains_95 rfl (lv_at hl 3 rfl) ?_
        obtain ⟨g24, h⟩ := gd_some h
        refine g_ald X hW 3 rfl g24 dX3_reckonGains_96 ?_
        refine lv_isub hx hb dX3_reckonGains_97 ?_
        refine lv_aload_n hx hb dX3_reckonGains_98 rfl (lv_at hl 0 rfl) ?_
        refine g_get X hW eX3_reckonGains_30 0 rfl rfl dX3_reckonGains_99 ?_
        refine lv_aload_n hx hb dX3_reckonGains_102 rfl (lv_at hl 0 rfl) ?_
        refine g_get X hW eX3_reckonGains_11 0 rfl rfl dX3_reckonGains_103 ?_
        refine lv_iload_n hx hb dX3_reckonGains_106 rfl (lv_at hl 3 rfl) ?_
        obtain ⟨g31, h⟩ := gd_some h
        refine g_ald X hW 1 rfl g31 dX3_reckonGains_107 ?_
        obtain ⟨g32, h⟩ := gd_some h
        refine g_ald X hW 6 rfl g32 dX3_reckonGains_108 ?_
        refine lv_icmp_le (tgt := 155) hx hb dX3_reckonGains_109 (by decide) (fun c33 => ?_) (fun c33 => ?_)
        · have h := (if_pos c33).symm.trans h
          exact tX3_reckonGains_155 X v1 v2 v3 pl_gain pl_way (fun v1 v3 pl_gain pl_way => fX3_reckonGains_63 pl_arcs pl_start pl_end pl_cost pl_room k_161 n v1 v3 pl_gain pl_way) ih h H locs hW ls hl
        · have h := (if_neg c33).symm.trans h
          refine lv_aload_n hx hb dX3_reckonGains_112 rfl (lv_at hl 0 rfl) ?_
          refine g_get X hW eX3_reckonGains_30 0 rfl rfl dX3_reckonGains_113 ?_
          refine lv_aload_n hx hb dX3_reckonGains_116 rfl (lv_at hl 0 rfl) ?_
          refine g_get X hW eX3_reckonGains_11 0 rfl rfl dX3_reckonGains_117 ?_
          refine lv_iload_n hx hb dX3_reckonGains_120 rfl (lv_at hl 3 rfl) ?_
          obtain ⟨g39, h⟩ := gd_some h
          refine g_ald X hW 1 rfl g39 dX3_reckonGains_121 ?_
          refine lv_aload_n hx hb dX3_reckonGains_122 rfl (lv_at hl 0 rfl) ?_
          refine g_get X hW eX3_reckonGains_30 0 rfl rfl dX3_reckonGains_123 ?_
          refine lv_aload_n hx hb dX3_reckonGains_126 rfl (lv_at hl 0 rfl) ?_
          refine g_get X hW eX3_reckonGains_15 0 rfl rfl dX3_reckonGains_127 ?_
          refine lv_iload_n hx hb dX3_reckonGains_130 rfl (lv_at hl 3 rfl) ?_
          obtain ⟨g45, h⟩ := gd_some h
          refine g_ald X hW 2 rfl g45 dX3_reckonGains_131 ?_
          obtain ⟨g46, h⟩ := gd_some h
          refine g_ald X hW 6 rfl g46 dX3_reckonGains_132 ?_
          refine lv_aload_n hx hb dX3_reckonGains_133 rfl (lv_at hl 0 rfl) ?_
          refine g_get X hW eX3_reckonGains_18 0 rfl rfl dX3_reckonGains_134 ?_
          refine lv_iload_n hx hb dX3_reckonGains_137 rfl (lv_at hl 3 rfl) ?_
          obtain ⟨g50, h⟩ := gd_some h
          refine g_ald X hW 3 rfl g50 dX3_reckonGains_138 ?_
          refine lv_isub hx hb dX3_reckonGains_139 ?_
          obtain ⟨g52, h⟩ := gd_some h
          refine g_ast X hW (ws' := (wX3_reckonGains G a_plan a_plan_start a_plan_end a_plan_cost a_plan_room a_plan_unmet a_plan_gain a_plan_way a_plan_idle pl_arcs pl_lack pl_least pl_start pl_end pl_cost pl_room pl_unmet (upd pl_gain (pl_start v3.toNatClampNeg).toNatClampNeg ((pl_gain (pl_end v3.toNatClampNeg).toNatClampNeg) - (pl_cost v3.toNatClampNeg))) pl_way)) 6 rfl g52 rfl dX3_reckonGains_140 (fun H locs hW => ?_)
          refine lv_aload_n hx hb dX3_reckonGains_141 rfl (lv_at hl 0 rfl) ?_
          refine g_get X hW eX3_reckonGains_33 0 rfl rfl dX3_reckonGains_142 ?_
          refine lv_aload_n hx hb dX3_reckonGains_145 rfl (lv_at hl 0 rfl) ?_
          refine g_get X hW eX3_reckonGains_11 0 rfl rfl dX3_reckonGains_146 ?_
          refine lv_iload_n hx hb dX3_reckonGains_149 rfl (lv_at hl 3 rfl) ?_
          obtain ⟨g58, h⟩ := gd_some h
          refine g_ald X hW 1 rfl g58 dX3_reckonGains_150 ?_
          refine lv_iload_n hx hb dX3_reckonGains_151 rfl (lv_at hl 3 rfl) ?_
          obtain ⟨g60, h⟩ := gd_some h
          refine g_ast X hW (ws' := (wX3_reckonGains G a_plan a_plan_start a_plan_end a_plan_cost a_plan_room a_plan_unmet a_plan_gain a_plan_way a_plan_idle pl_arcs pl_lack pl_least pl_start pl_end pl_cost pl_room pl_unmet (upd pl_gain (pl_start v3.toNatClampNeg).toNatClampNeg ((pl_gain (pl_end v3.toNatClampNeg).toNatClampNeg) - (pl_cost v3.toNatClampNeg))) (upd pl_way (pl_start v3.toNatClampNeg).toNatClampNeg v3))) 7 rfl g60 rfl dX3_reckonGains_152 (fun H locs hW => ?_)
          refine lv_iconst hx hb dX3_reckonGains_153 qI_1 ?_
          refine lv_istore_n (lv' := [(1, .int (1 : Int32)), (0, .ref a_plan), (2, .int v2), (3, .int v3)]) hx hb dX3_reckonGains_154 rfl hl (by decide) rfl (fun ls hl => ?_)
          exact tX3_reckonGains_155 X (1 : Int32) v2 v3 (upd pl_gain (pl_start v3.toNatClampNeg).toNatClampNeg ((pl_gain (pl_end v3.toNatClampNeg).toNatClampNeg) - (pl_cost v3.toNatClampNeg))) (upd pl_way (pl_start v3.toNatClampNeg).toNatClampNeg v3) (fun v1 v3 pl_gain pl_way => fX3_reckonGains_63 pl_arcs pl_start pl_end pl_cost pl_room k_161 n v1 v3 pl_gain pl_way) ih h H locs hW ls (lv_sub hl [1, 0, 2, 3] rfl)
set_option maxHeartbeats 4000000 in
set_option maxRecDepth 100000 in
theorem tX3_reckonGains_49 (X : Bx p s m args meth c cX3_reckonGains 4 wsX3_reckonGains RX3 none)    : ∀ (n : Nat) (v1 : Int32) (v2 : Int32) (pl_gain : (Nat → Int32)) (pl_way : (Nat → Int32)), fX3_reckonGains_49 pl_arcs pl_start pl_end pl_cost pl_room n v1 v2 pl_gain pl_way = some res → ∀ (H : Heap) (locs : List Loc), Wo G A s (wX3_reckonGains G a_plan a_plan_start a_plan_end a_plan_cost a_plan_room a_plan_unmet a_plan_gain a_plan_way a_plan_idle pl_arcs pl_lack pl_least pl_start pl_end pl_cost pl_room pl_unmet pl_gain pl_way) H locs → ∀ ls : Array Slot, lv_has ls 4 [(0, .ref a_plan), (1, .int v1), (2, .int v2)] → W p l e rmX3_reckonGains s m args below meth c H locs 0 0 (QV G A below args s (wX3_reckonGains G a_plan a_plan_start a_plan_end a_plan_cost a_plan_room a_plan_unmet a_plan_gain a_plan_way a_plan_idle pl_arcs pl_lack pl_least pl_start pl_end pl_cost pl_room pl_unmet res.1 res.2)) (F0 m 49 ls []) := by
  obtain ⟨hx, hb, -⟩ := id X.1
  intro n
  induction n with
  | zero => intro v1 v2 pl_gain pl_way h; rw [fX3_reckonGains_49] at h; cases h
  | succ n ih =>
    intro v1 v2 pl_gain pl_way h H locs hW ls hl
    rw [fX3_reckonGains_49] at h
    refine lv_iload_n hx hb dX3_reckonGains_49 rfl (lv_at hl 2 rfl) ?_
    refine lv_bipush hx hb dX3_reckonGains_50 qB_30 ?_
    refine lv_icmp_gt (tgt := 167) hx hb dX3_reckonGains_52 (by decide) (fun c65 => ?_) (fun c65 => ?_)
    · have h := (if_pos c65).symm.trans h
      obtain rfl := Option.some.inj h
      exact g_vret X hW dX3_reckonGains_167
    · have h := (if_neg c65).symm.trans h
      refine lv_iload_n hx hb dX3_reckonGains_55 rfl (lv_at hl 1 rfl) ?_
      refine lv_if_eq (tgt := 167) hx hb dX3_reckonGains_56 (by decide) (fun c68 => ?_) (fun c68 => ?_)
      · have h := (if_pos c68).symm.trans h
        obtain rfl := Option.some.inj h
        exact g_vret X hW dX3_reckonGains_167
      · have h := (if_neg c68).symm.trans h
        refine lv_iconst hx hb dX3_reckonGains_59 qI_0 ?_
        refine lv_istore_n (lv' := [(1, .int (0 : Int32)), (0, .ref a_plan), (2, .int v2)]) hx hb dX3_reckonGains_60 rfl hl (by decide) rfl (fun ls hl => ?_)
        refine lv_iconst hx hb dX3_reckonGains_61 qI_0 ?_
        refine lv_istore_n (lv' := [(3, .int (0 : Int32)), (1, .int (0 : Int32)), (0, .ref a_plan), (2, .int v2)]) hx hb dX3_reckonGains_62 rfl hl (by decide) rfl (fun ls hl => ?_)
        exact tX3_reckonGains_63 X v2 (fun v1_q74 pl_gain_q74 pl_way_q74 => fX3_reckonGains_161 (fun v1 v2 pl_gain pl_way => fX3_reckonGains_49 pl_arcs pl_start pl_end pl_cost pl_room n v1 v2 pl_gain pl_way) v1_q74 v2 pl_gain_q74 pl_way_q74) (fun v1_q74 pl_gain_q74 pl_way_q74 h H locs hW ls hl => by exact tX3_reckonGains_161 X v1_q74 v2 pl_gain_q74 pl_way_q74 (fun v1 v2 pl_gain pl_way => fX3_reckonGains_49 pl_arcs pl_start pl_end pl_cost pl_room n v1 v2 pl_gain pl_way) ih h H locs hW ls hl) FU (0 : Int32) (0 : Int32) pl_gain pl_way h H locs hW ls (lv_sub hl [2, 1, 3, 0] rfl)
set_option maxHeartbeats 4000000 in
set_option maxRecDepth 100000 in
theorem tX3_reckonGains_45 (X : Bx p s m args meth c cX3_reckonGains 4 wsX3_reckonGains RX3 none) (pl_gain : (Nat → Int32)) (pl_way : (Nat → Int32))   (h : fX3_reckonGains_45 pl_arcs pl_start pl_end pl_cost pl_room pl_gain pl_way = some res) : ∀ (H : Heap) (locs : List Loc), Wo G A s (wX3_reckonGains G a_plan a_plan_start a_plan_end a_plan_cost a_plan_room a_plan_unmet a_plan_gain a_plan_way a_plan_idle pl_arcs pl_lack pl_least pl_start pl_end pl_cost pl_room pl_unmet pl_gain pl_way) H locs → ∀ ls : Array Slot, lv_has ls 4 [(0, .ref a_plan)] → W p l e rmX3_reckonGains s m args below meth c H locs 0 0 (QV G A below args s (wX3_reckonGains G a_plan a_plan_start a_plan_end a_plan_cost a_plan_room a_plan_unmet a_plan_gain a_plan_way a_plan_idle pl_arcs pl_lack pl_least pl_start pl_end pl_cost pl_room pl_unmet res.1 res.2)) (F0 m 45 ls []) := by
  obtain ⟨hx, hb, -⟩ := id X.1
  intro H locs hW ls hl
  rw [fX3_reckonGains_45] at h
  refine lv_iconst hx hb dX3_reckonGains_45 qI_1 ?_
  refine lv_istore_n (lv' := [(1, .int (1 : Int32)), (0, .ref a_plan)]) hx hb dX3_reckonGains_46 rfl hl (by decide) rfl (fun ls hl => ?_)
  refine lv_iconst hx hb dX3_reckonGains_47 qI_0 ?_
  refine lv_istore_n (lv' := [(2, .int (0 : Int32)), (1, .int (1 : Int32)), (0, .ref a_plan)]) hx hb dX3_reckonGains_48 rfl hl (by decide) rfl (fun ls hl => ?_)
  exact tX3_reckonGains_49 X  FU (1 : Int32) (0 : Int32) pl_gain pl_way h H locs hW ls (lv_sub hl [2, 1, 0] rfl)
set_option maxHeartbeats 4000000 in
set_option maxRecDepth 100000 in
theorem tX3_reckonGains_30 (X : Bx p s m args meth c cX3_reckonGains 4 wsX3_reckonGains RX3 none) (v1 : Int32) (t1 : Int32) (t2 : Int32) (pl_gain : (Nat → Int32)) (pl_way : (Nat → Int32)) (k_2 : Int32 → (Nat → Int32) → (Nat → Int32) → Option ((Nat → Int32) × (Nat → Int32))) (Hk_2 : ∀ (v1 : Int32) (pl_gain : (Nat → Int32)) (pl_way : (Nat → Int32)), k_2 v1 pl_gain pl_way = some res → ∀ (H : Heap) (locs : List Loc), Wo G A s (wX3_reckonGains G a_plan a_plan_start a_plan_end a_plan_cost a_plan_room a_plan_unmet a_plan_gain a_plan_way a_plan_idle pl_arcs pl_lack pl_least pl_start pl_end pl_cost pl_room pl_unmet pl_gain pl_way) H locs → ∀ ls : Array Slot, lv_has ls 4 [(0, .ref a_plan), (1, .int v1)] → W p l e rmX3_reckonGains s m args below meth c H locs 0 0 (QV G A below args s (wX3_reckonGains G a_plan a_plan_start a_plan_end a_plan_cost a_plan_room a_plan_unmet a_plan_gain a_plan_way a_plan_idle pl_arcs pl_lack pl_least pl_start pl_end pl_cost pl_room pl_unmet res.1 res.2)) (F0 m 2 ls [])) (h : fX3_reckonGains_30 k_2 v1 t1 t2 pl_gain pl_way = some res) : ∀ (H : Heap) (locs : List Loc), Wo G A s (wX3_reckonGains G a_plan a_plan_start a_plan_end a_plan_cost a_plan_room a_plan_unmet a_plan_gain a_plan_way a_plan_idle pl_arcs pl_lack pl_least pl_start pl_end pl_cost pl_room pl_unmet pl_gain pl_way) H locs → ∀ ls : Array Slot, lv_has ls 4 [(0, .ref a_plan), (1, .int v1)] → W p l e rmX3_reckonGains s m args below meth c H locs 0 0 (QV G A below args s (wX3_reckonGains G a_plan a_plan_start a_plan_end a_plan_cost a_plan_room a_plan_unmet a_plan_gain a_plan_way a_plan_idle pl_arcs pl_lack pl_least pl_start pl_end pl_cost pl_room pl_unmet res.1 res.2)) (F0 m 30 ls [.int t2, .int t1, .ref a_plan_gain]) := by
  obtain ⟨hx, hb, -⟩ := id X.1
  intro H locs hW ls hl
  rw [fX3_reckonGains_30] at h
  obtain ⟨g79, h⟩ := gd_some h
  refine g_ast X hW (ws' := (wX3_reckonGains G a_plan a_plan_start a_plan_end a_plan_cost a_plan_room a_plan_unmet a_plan_gain a_plan_way a_plan_idle pl_arcs pl_lack pl_least pl_start pl_end pl_cost pl_room pl_unmet (upd pl_gain t1.toNatClampNeg t2) pl_way)) 6 rfl g79 rfl dX3_reckonGains_30 (fun H locs hW => ?_)
  refine lv_aload_n hx hb dX3_reckonGains_31 rfl (lv_at hl 0 rfl) ?_
  refine g_get X hW eX3_reckonGains_33 0 rfl rfl dX3_reckonGains_32 ?_
  refine lv_iload_n hx hb dX3_reckonGains_35 rfl (lv_at hl 1 rfl) ?_
  refine lv_bipush hx hb dX3_reckonGains_36 qB_m3 ?_
  obtain ⟨g84, h⟩ := gd_some h
  refine g_ast X hW (ws' := (wX3_reckonGains G a_plan a_plan_start a_plan_end a_plan_cost a_plan_room a_plan_unmet a_plan_gain a_plan_way a_plan_idle pl_arcs pl_lack pl_least pl_start pl_end pl_cost pl_room pl_unmet (upd pl_gain t1.toNatClampNeg t2) (upd pl_way v1.toNatClampNeg (-3 : Int32)))) 7 rfl g84 rfl dX3_reckonGains_38 (fun H locs hW => ?_)
  refine lv_iinc (v := (v1 + (1 : Int32))) (lv' := [(1, .int (v1 + (1 : Int32))), (0, .ref a_plan)]) hx hb dX3_reckonGains_39 hl (k := 1) rfl (congrArg (fun z => v1 + z) qI_1) (by decide) rfl (fun ls hl => ?_)
  refine lv_goto (tgt := 2) hx hb dX3_reckonGains_42 (by decide) ?_
  exact Hk_2 (v1 + (1 : Int32)) (upd pl_gain t1.toNatClampNeg t2) (upd pl_way v1.toNatClampNeg (-3 : Int32)) h H locs hW ls (lv_sub hl [1, 0] rfl)
set_option maxHeartbeats 4000000 in
set_option maxRecDepth 100000 in
theorem tX3_reckonGains_2 (X : Bx p s m args meth c cX3_reckonGains 4 wsX3_reckonGains RX3 none)  (k_45 : (Nat → Int32) → (Nat → Int32) → Option ((Nat → Int32) × (Nat → Int32))) (Hk_45 : ∀ (pl_gain : (Nat → Int32)) (pl_way : (Nat → Int32)), k_45 pl_gain pl_way = some res → ∀ (H : Heap) (locs : List Loc), Wo G A s (wX3_reckonGains G a_plan a_plan_start a_plan_end a_plan_cost a_plan_room a_plan_unmet a_plan_gain a_plan_way a_plan_idle pl_arcs pl_lack pl_least pl_start pl_end pl_cost pl_room pl_unmet pl_gain pl_way) H locs → ∀ ls : Array Slot, lv_has ls 4 [(0, .ref a_plan)] → W p l e rmX3_reckonGains s m args below meth c H locs 0 0 (QV G A below args s (wX3_reckonGains G a_plan a_plan_start a_plan_end a_plan_cost a_plan_room a_plan_unmet a_plan_gain a_plan_way a_plan_idle pl_arcs pl_lack pl_least pl_start pl_end pl_cost pl_room pl_unmet res.1 res.2)) (F0 m 45 ls [])) : ∀ (n : Nat) (v1 : Int32) (pl_gain : (Nat → Int32)) (pl_way : (Nat → Int32)), fX3_reckonGains_2 pl_lack pl_unmet k_45 n v1 pl_gain pl_way = some res → ∀ (H : Heap) (locs : List Loc), Wo G A s (wX3_reckonGains G a_plan a_plan_start a_plan_end a_plan_cost a_plan_room a_plan_unmet a_plan_gain a_plan_way a_plan_idle pl_arcs pl_lack pl_least pl_start pl_end pl_cost pl_room pl_unmet pl_gain pl_way) H locs → ∀ ls : Array Slot, lv_has ls 4 [(0, .ref a_plan), (1, .int v1)] → W p l e rmX3_reckonGains s m args below meth c H locs 0 0 (QV G A below args s (wX3_reckonGains G a_plan a_plan_start a_plan_end a_plan_cost a_plan_room a_plan_unmet a_plan_gain a_plan_way a_plan_idle pl_arcs pl_lack pl_least pl_start pl_end pl_cost pl_room pl_unmet res.1 res.2)) (F0 m 2 ls []) := by
  obtain ⟨hx, hb, -⟩ := id X.1
  intro n
  induction n with
  | zero => intro v1 pl_gain pl_way h; rw [fX3_reckonGains_2] at h; cases h
  | succ n ih =>
    intro v1 pl_gain pl_way h H locs hW ls hl
    rw [fX3_reckonGains_2] at h
    refine lv_iload_n hx hb dX3_reckonGains_2 rfl (lv_at hl 1 rfl) ?_
    refine lv_bipush hx hb dX3_reckonGains_3 qB_30 ?_
    refine lv_icmp_ge (tgt := 45) hx hb dX3_reckonGains_5 (by decide) (fun c89 => ?_) (fun c89 => ?_)
    · have h := (if_pos c89).symm.trans h
      exact Hk_45 pl_gain pl_way h H locs hW ls (lv_sub hl [0] rfl)
    · have h := (if_neg c89).symm.trans h
      refine lv_aload_n hx hb dX3_reckonGains_8 rfl (lv_at hl 0 rfl) ?_
      refine g_get X hW eX3_reckonGains_30 0 rfl rfl dX3_reckonGains_9 ?_
      refine lv_iload_n hx hb dX3_reckonGains_12 rfl (lv_at hl 1 rfl) ?_
      refine lv_aload_n hx hb dX3_reckonGains_13 rfl (lv_at hl 0 rfl) ?_
      refine g_get X hW eX3_reckonGains_27 0 rfl rfl dX3_reckonGains_14 ?_
      refine lv_iload_n hx hb dX3_reckonGains_17 rfl (lv_at hl 1 rfl) ?_
      obtain ⟨g96, h⟩ := gd_some h
      refine g_ald X hW 5 rfl g96 dX3_reckonGains_18 ?_
      refine lv_if_le (tgt := 29) hx hb dX3_reckonGains_19 (by decide) (fun c97 => ?_) (fun c97 => ?_)
      · have h := (if_pos c97).symm.trans h
        refine lv_iconst hx hb dX3_reckonGains_29 qI_0 ?_
        exact tX3_reckonGains_30 X v1 v1 (0 : Int32) pl_gain pl_way (fun v1 pl_gain pl_way => fX3_reckonGains_2 pl_lack pl_unmet k_45 n v1 pl_gain pl_way) ih h H locs hW ls hl
      · have h := (if_neg c97).symm.trans h
        refine lv_aload_n hx hb dX3_reckonGains_22 rfl (lv_at hl 0 rfl) ?_
        refine g_get X hW eX3_reckonGains_73 0 rfl rfl dX3_reckonGains_23 ?_
        refine lv_goto (tgt := 30) hx hb dX3_reckonGains_26 (by decide) ?_
        exact tX3_reckonGains_30 X v1 v1 pl_lack pl_gain pl_way (fun v1 pl_gain pl_way => fX3_reckonGains_2 pl_lack pl_unmet k_45 n v1 pl_gain pl_way) ih h H locs hW ls hl
set_option maxHeartbeats 4000000 in
set_option maxRecDepth 100000 in
theorem k0X3_reckonGains {l : Launch} (G : Gt) (a_plan a_plan_start a_plan_end a_plan_cost a_plan_room a_plan_unmet a_plan_gain a_plan_way a_plan_idle : Nat)  (pl_arcs : Int32) (pl_lack : Int32) (pl_least : Int32) (pl_start : (Nat → Int32)) (pl_end : (Nat → Int32)) (pl_cost : (Nat → Int32)) (pl_room : (Nat → Int32)) (pl_unmet : (Nat → Int32)) (pl_gain : (Nat → Int32)) (pl_way : (Nat → Int32)) {res : (Nat → Int32) × (Nat → Int32)} (h : fX3_reckonGains pl_arcs pl_lack pl_start pl_end pl_cost pl_room pl_unmet pl_gain pl_way = some res) : CtV G l yX3_reckonGains wsX3_reckonGains rmX3_reckonGains [.ref a_plan] (wX3_reckonGains G a_plan a_plan_start a_plan_end a_plan_cost a_plan_room a_plan_unmet a_plan_gain a_plan_way a_plan_idle pl_arcs pl_lack pl_least pl_start pl_end pl_cost pl_room pl_unmet pl_gain pl_way) (wX3_reckonGains G a_plan a_plan_start a_plan_end a_plan_cost a_plan_room a_plan_unmet a_plan_gain a_plan_way a_plan_idle pl_arcs pl_lack pl_least pl_start pl_end pl_cost pl_room pl_unmet res.1 res.2) := by
  refine CtV.mk (cc := cX3_reckonGains) (maxL := 4) (ret := none) (own := RX3) (by decide) rfl rfl (Nat.le_of_ble_eq_true rfl) ?_
  intro p e s m below meth c A X ls hl hW
  obtain ⟨hx, hb, -⟩ := id X.1
  have hl : lv_has ls 4 [(0, .ref a_plan)] := hl
  generalize hH : s.heap = H at hW ⊢
  generalize hLo : ([] : List Loc) = locs at hW ⊢
  rw [fX3_reckonGains] at h
  refine lv_iconst hx hb dX3_reckonGains_0 qI_0 ?_
  refine lv_istore_n (lv' := [(1, .int (0 : Int32)), (0, .ref a_plan)]) hx hb dX3_reckonGains_1 rfl hl (by decide) rfl (fun ls hl => ?_)
  exact tX3_reckonGains_2 X (fun pl_gain_q104 pl_way_q104 => fX3_reckonGains_45 pl_arcs pl_start pl_end pl_cost pl_room pl_gain_q104 pl_way_q104) (fun pl_gain_q104 pl_way_q104 h H locs hW ls hl => by exact tX3_reckonGains_45 X pl_gain_q104 pl_way_q104 h H locs hW ls hl) FU (0 : Int32) pl_gain pl_way h H locs hW ls (lv_sub hl [1, 0] rfl)
theorem kcX3_reckonGains {l : Launch} (G : Gt) (a_plan a_plan_start a_plan_end a_plan_cost a_plan_room a_plan_unmet a_plan_gain a_plan_way a_plan_idle : Nat)  (pl_arcs : Int32) (pl_lack : Int32) (pl_least : Int32) (pl_start : (Nat → Int32)) (pl_end : (Nat → Int32)) (pl_cost : (Nat → Int32)) (pl_room : (Nat → Int32)) (pl_unmet : (Nat → Int32)) (pl_gain : (Nat → Int32)) (pl_way : (Nat → Int32))  {z_pl_gain : (Nat → Int32)} {z_pl_way : (Nat → Int32)} (h : fX3_reckonGains pl_arcs pl_lack pl_start pl_end pl_cost pl_room pl_unmet pl_gain pl_way = some (z_pl_gain, z_pl_way)) : CtV G l yX3_reckonGains wsX3_reckonGains rmX3_reckonGains [.ref a_plan] (wX3_reckonGains G a_plan a_plan_start a_plan_end a_plan_cost a_plan_room a_plan_unmet a_plan_gain a_plan_way a_plan_idle pl_arcs pl_lack pl_least pl_start pl_end pl_cost pl_room pl_unmet pl_gain pl_way) (wX3_reckonGains G a_plan a_plan_start a_plan_end a_plan_cost a_plan_room a_plan_unmet a_plan_gain a_plan_way a_plan_idle pl_arcs pl_lack pl_least pl_start pl_end pl_cost pl_room pl_unmet z_pl_gain z_pl_way) := k0X3_reckonGains G a_plan a_plan_start a_plan_end a_plan_cost a_plan_room a_plan_unmet a_plan_gain a_plan_way a_plan_idle pl_arcs pl_lack pl_least pl_start pl_end pl_cost pl_room pl_unmet pl_gain pl_way h
end MX3_reckonGains
/-! EmptyBoxes$Plan.knotToSend -/
section MX3_knotToSend
theorem hdX3_knotToSend : yX3_knotToSend.cls = RX3 ∧ yX3_knotToSend.cls ≠ "java/lang/invoke/MethodHandle" ∧ yX3_knotToSend.cls ≠ "java/lang/invoke/VarHandle" ∧ (parseMethodDescriptor yX3_knotToSend.desc).map (fun d => d.parameters.length) = some 0 := by decide +kernel
abbrev wX3_knotToSend (G : Gt) (a_plan a_plan_idle a_plan_gain a_plan_start a_plan_end a_plan_cost a_plan_room a_plan_unmet a_plan_way : Nat) (pl_arcs : Int32) (pl_lack : Int32) (pl_least : Int32) (pl_idle : (Nat → Int32)) (pl_gain : (Nat → Int32)) : va_W := [(a_plan, .inr (3, [.ref a_plan_start, .ref a_plan_end, .ref a_plan_cost, .ref a_plan_room, .ref a_plan_idle, .ref a_plan_unmet, .ref a_plan_gain, .ref a_plan_way, .int pl_arcs, .int pl_lack, .int pl_least])), (a_plan_idle, .inl (G.2.1, 30, .inl pl_idle)), (a_plan_gain, .inl (G.2.1, 30, .inl pl_gain))]
abbrev rmX3_knotToSend : Room := { frames := 0, cells := 0, slots := 0, locals := 0 }
theorem iX3_knotToSend_X3 : ∀ w ∈ wsX30, w ∈ wsX3_knotToSend := by decide +kernel
theorem eX3_knotToSend_24 : Fk wsX3_knotToSend RX3 24 3 4 := ⟨RX3, TX3, 11, rfl, iX3_knotToSend_X3, by decide, by decide +kernel⟩
theorem eX3_knotToSend_30 : Fk wsX3_knotToSend RX3 30 3 6 := ⟨RX3, TX3, 11, rfl, iX3_knotToSend_X3, by decide, by decide +kernel⟩
variable {p : Program} {l : Launch} {e : Env} {s : State} {m : MethodId} {args : Array Value} {below : List Frame} {meth : Method} {c : Code} {A : Nat → Prop} {G : Gt} {a_plan a_plan_idle a_plan_gain a_plan_start a_plan_end a_plan_cost a_plan_room a_plan_unmet a_plan_way : Nat} {pl_arcs : Int32} {pl_lack : Int32} {pl_least : Int32} {pl_idle : (Nat → Int32)} {pl_gain : (Nat → Int32)} {res : Int32}
set_option maxHeartbeats 4000000 in
set_option maxRecDepth 100000 in
theorem tX3_knotToSend_28 (X : Bx p s m args meth c cX3_knotToSend 2 wsX3_knotToSend RX3 (some .int)) (v1 : Int32) (k_2 : Int32 → Option (Int32)) (Hk_2 : ∀ (v1 : Int32), k_2 v1 = some res → ∀ (H : Heap) (locs : List Loc), Wo G A s (wX3_knotToSend G a_plan a_plan_idle a_plan_gain a_plan_start a_plan_end a_plan_cost a_plan_room a_plan_unmet a_plan_way pl_arcs pl_lack pl_least pl_idle pl_gain) H locs → ∀ ls : Array Slot, lv_has ls 2 [(0, .ref a_plan), (1, .int v1)] → W p l e rmX3_knotToSend s m args below meth c H locs 0 0 (QI G A below args s res (wX3_knotToSend G a_plan a_plan_idle a_plan_gain a_plan_start a_plan_end a_plan_cost a_plan_room a_plan_unmet a_plan_way pl_arcs pl_lack pl_least pl_idle pl_gain)) (F0 m 2 ls [])) (h : fX3_knotToSend_28 k_2 v1 = some res) : ∀ (H : Heap) (locs : List Loc), Wo G A s (wX3_knotToSend G a_plan a_plan_idle a_plan_gain a_plan_start a_plan_end a_plan_cost a_plan_room a_plan_unmet a_plan_way pl_arcs pl_lack pl_least pl_idle pl_gain) H locs → ∀ ls : Array Slot, lv_has ls 2 [(0, .ref a_plan), (1, .int v1)] → W p l e rmX3_knotToSend s m args below meth c H locs 0 0 (QI G A below args s res (wX3_knotToSend G a_plan a_plan_idle a_plan_gain a_plan_start a_plan_end a_plan_cost a_plan_room a_plan_unmet a_plan_way pl_arcs pl_lack pl_least pl_idle pl_gain)) (F0 m 28 ls []) := by
  obtain ⟨hx, hb, -⟩ := id X.1
  intro H locs hW ls hl
  rw [fX3_knotToSend_28] at h
  refine lv_iinc (v := (v1 + (1 : Int32))) (lv' := [(1, .int (v1 + (1 : Int32))), (0, .ref a_plan)]) hx hb dX3_knotToSend_28 hl (k := 1) rfl (congrArg (fun z => v1 + z) qI_1) (by decide) rfl (fun ls hl => ?_)
  refine lv_goto (tgt := 2) hx hb dX3_knotToSend_31 (by decide) ?_
  exact Hk_2 (v1 + (1 : Int32)) h H locs hW ls (lv_sub hl [1, 0] rfl)
set_option maxHeartbeats 4000000 in
set_option maxRecDepth 100000 in
theorem tX3_knotToSend_2 (X : Bx p s m args meth c cX3_knotToSend 2 wsX3_knotToSend RX3 (some .int))    : ∀ (n : Nat) (v1 : Int32), fX3_knotToSend_2 pl_idle pl_gain n v1 = some res → ∀ (H : Heap) (locs : List Loc), Wo G A s (wX3_knotToSend G a_plan a_plan_idle a_plan_gain a_plan_start a_plan_end a_plan_cost a_plan_room a_plan_unmet a_plan_way pl_arcs pl_lack pl_least pl_idle pl_gain) H locs → ∀ ls : Array Slot, lv_has ls 2 [(0, .ref a_plan), (1, .int v1)] → W p l e rmX3_knotToSend s m args below meth c H locs 0 0 (QI G A below args s res (wX3_knotToSend G a_plan a_plan_idle a_plan_gain a_plan_start a_plan_end a_plan_cost a_plan_room a_plan_unmet a_plan_way pl_arcs pl_lack pl_least pl_idle pl_gain)) (F0 m 2 ls []) := by
  obtain ⟨hx, hb, -⟩ := id X.1
  intro n
  induction n with
  | zero => intro v1 h; rw [fX3_knotToSend_2] at h; cases h
  | succ n ih =>
    intro v1 h H locs hW ls hl
    rw [fX3_knotToSend_2] at h
    refine lv_iload_n hx hb dX3_knotToSend_2 rfl (lv_at hl 1 rfl) ?_
    refine lv_bipush hx hb dX3_knotToSend_3 qB_30 ?_
    refine lv_icmp_ge (tgt := 34) hx hb dX3_knotToSend_5 (by decide) (fun c5 => ?_) (fun c5 => ?_)
    · have h := (if_pos c5).symm.trans h
      refine lv_bipush hx hb dX3_knotToSend_34 qB_m3 ?_
      obtain rfl := Option.some.inj h
      exact g_iret X hW dX3_knotToSend_36
    · have h := (if_neg c5).symm.trans h
      refine lv_aload_n hx hb dX3_knotToSend_8 rfl (lv_at hl 0 rfl) ?_
      refine g_get X hW eX3_knotToSend_24 0 rfl rfl dX3_knotToSend_9 ?_
      refine lv_iload_n hx hb dX3_knotToSend_12 rfl (lv_at hl 1 rfl) ?_
      obtain ⟨g11, h⟩ := gd_some h
      refine g_ald X hW 1 rfl g11 dX3_knotToSend_13 ?_
      refine lv_if_le (tgt := 28) hx hb dX3_knotToSend_14 (by decide) (fun c12 => ?_) (fun c12 => ?_)
      · have h := (if_pos c12).symm.trans h
        exact tX3_knotToSend_28 X v1 (fun v1 => fX3_knotToSend_2 pl_idle pl_gain n v1) ih h H locs hW ls hl
      · have h := (if_neg c12).symm.trans h
        refine lv_aload_n hx hb dX3_knotToSend_17 rfl (lv_at hl 0 rfl) ?_
        refine g_get X hW eX3_knotToSend_30 0 rfl rfl dX3_knotToSend_18 ?_
        refine lv_iload_n hx hb dX3_knotToSend_21 rfl (lv_at hl 1 rfl) ?_
        obtain ⟨g16, h⟩ := gd_some h
        refine g_ald X hW 2 rfl g16 dX3_knotToSend_22 ?_
        refine lv_if_le (tgt := 28) hx hb dX3_knotToSend_23 (by decide) (fun c17 => ?_) (fun c17 => ?_)
        · have h := (if_pos c17).symm.trans h
          exact tX3_knotToSend_28 X v1 (fun v1 => fX3_knotToSend_2 pl_idle pl_gain n v1) ih h H locs hW ls hl
        · have h := (if_neg c17).symm.trans h
          refine lv_iload_n hx hb dX3_knotToSend_26 rfl (lv_at hl 1 rfl) ?_
          obtain rfl := Option.some.inj h
          exact g_iret X hW dX3_knotToSend_27
set_option maxHeartbeats 4000000 in
set_option maxRecDepth 100000 in
theorem k0X3_knotToSend {l : Launch} (G : Gt) (a_plan a_plan_idle a_plan_gain a_plan_start a_plan_end a_plan_cost a_plan_room a_plan_unmet a_plan_way : Nat)  (pl_arcs : Int32) (pl_lack : Int32) (pl_least : Int32) (pl_idle : (Nat → Int32)) (pl_gain : (Nat → Int32)) {res : Int32} (h : fX3_knotToSend pl_idle pl_gain = some res) : CtI G l yX3_knotToSend wsX3_knotToSend rmX3_knotToSend [.ref a_plan] (wX3_knotToSend G a_plan a_plan_idle a_plan_gain a_plan_start a_plan_end a_plan_cost a_plan_room a_plan_unmet a_plan_way pl_arcs pl_lack pl_least pl_idle pl_gain) res (wX3_knotToSend G a_plan a_plan_idle a_plan_gain a_plan_start a_plan_end a_plan_cost a_plan_room a_plan_unmet a_plan_way pl_arcs pl_lack pl_least pl_idle pl_gain) := by
  refine CtI.mk (cc := cX3_knotToSend) (maxL := 2) (ret := (some .int)) (own := RX3) (by decide) rfl rfl (Nat.le_of_ble_eq_true rfl) ?_
  intro p e s m below meth c A X ls hl hW
  obtain ⟨hx, hb, -⟩ := id X.1
  have hl : lv_has ls 2 [(0, .ref a_plan)] := hl
  generalize hH : s.heap = H at hW ⊢
  generalize hLo : ([] : List Loc) = locs at hW ⊢
  rw [fX3_knotToSend] at h
  refine lv_iconst hx hb dX3_knotToSend_0 qI_0 ?_
  refine lv_istore_n (lv' := [(1, .int (0 : Int32)), (0, .ref a_plan)]) hx hb dX3_knotToSend_1 rfl hl (by decide) rfl (fun ls hl => ?_)
  exact tX3_knotToSend_2 X  FU (0 : Int32) h H locs hW ls (lv_sub hl [1, 0] rfl)
theorem kcX3_knotToSend {l : Launch} (G : Gt) (a_plan a_plan_idle a_plan_gain a_plan_start a_plan_end a_plan_cost a_plan_room a_plan_unmet a_plan_way : Nat)  (pl_arcs : Int32) (pl_lack : Int32) (pl_least : Int32) (pl_idle : (Nat → Int32)) (pl_gain : (Nat → Int32)) {r : Int32}  (h : fX3_knotToSend pl_idle pl_gain = some r) : CtI G l yX3_knotToSend wsX3_knotToSend rmX3_knotToSend [.ref a_plan] (wX3_knotToSend G a_plan a_plan_idle a_plan_gain a_plan_start a_plan_end a_plan_cost a_plan_room a_plan_unmet a_plan_way pl_arcs pl_lack pl_least pl_idle pl_gain) r (wX3_knotToSend G a_plan a_plan_idle a_plan_gain a_plan_start a_plan_end a_plan_cost a_plan_room a_plan_unmet a_plan_way pl_arcs pl_lack pl_least pl_idle pl_gain) := k0X3_knotToSend G a_plan a_plan_idle a_plan_gain a_plan_start a_plan_end a_plan_cost a_plan_room a_plan_unmet a_plan_way pl_arcs pl_lack pl_least pl_idle pl_gain h
end MX3_knotToSend
/-! EmptyBoxes$Plan.boxesThatGo -/
section MX3_boxesThatGo
theorem hdX3_boxesThatGo : yX3_boxesThatGo.cls = RX3 ∧ yX3_boxesThatGo.cls ≠ "java/lang/invoke/MethodHandle" ∧ yX3_boxesThatGo.cls ≠ "java/lang/invoke/VarHandle" ∧ (parseMethodDescriptor yX3_boxesThatGo.desc).map (fun d => d.parameters.length) = some 1 := by decide +kernel
abbrev wX3_boxesThatGo (G : Gt) (a_plan a_plan_end a_plan_room a_plan_idle a_plan_unmet a_plan_way a_plan_start a_plan_cost a_plan_gain : Nat) (pl_arcs : Int32) (pl_lack : Int32) (pl_least : Int32) (pl_end : (Nat → Int32)) (pl_room : (Nat → Int32)) (pl_idle : (Nat → Int32)) (pl_unmet : (Nat → Int32)) (pl_way : (Nat → Int32)) : va_W := [(a_plan, .inr (3, [.ref a_plan_start, .ref a_plan_end, .ref a_plan_cost, .ref a_plan_room, .ref a_plan_idle, .ref a_plan_unmet, .ref a_plan_gain, .ref a_plan_way, .int pl_arcs, .int pl_lack, .int pl_least])), (a_plan_end, .inl (G.2.1, 148, .inl pl_end)), (a_plan_room, .inl (G.2.1, 148, .inl pl_room)), (a_plan_idle, .inl (G.2.1, 30, .inl pl_idle)), (a_plan_unmet, .inl (G.2.1, 30, .inl pl_unmet)), (a_plan_way, .inl (G.2.1, 30, .inl pl_way))]
abbrev rmX3_boxesThatGo : Room := { frames := 1, cells := 0, slots := 0, locals := 21 }
theorem iX3_boxesThatGo_X3 : ∀ w ∈ wsX30, w ∈ wsX3_boxesThatGo := by decide +kernel
theorem eX3_boxesThatGo_15 : Fk wsX3_boxesThatGo RX3 15 3 1 := ⟨RX3, TX3, 11, rfl, iX3_boxesThatGo_X3, by decide, by decide +kernel⟩
theorem eX3_boxesThatGo_21 : Fk wsX3_boxesThatGo RX3 21 3 3 := ⟨RX3, TX3, 11, rfl, iX3_boxesThatGo_X3, by decide, by decide +kernel⟩
theorem eX3_boxesThatGo_24 : Fk wsX3_boxesThatGo RX3 24 3 4 := ⟨RX3, TX3, 11, rfl, iX3_boxesThatGo_X3, by decide, by decide +kernel⟩
theorem eX3_boxesThatGo_27 : Fk wsX3_boxesThatGo RX3 27 3 5 := ⟨RX3, TX3, 11, rfl, iX3_boxesThatGo_X3, by decide, by decide +kernel⟩
theorem eX3_boxesThatGo_33 : Fk wsX3_boxesThatGo RX3 33 3 7 := ⟨RX3, TX3, 11, rfl, iX3_boxesThatGo_X3, by decide, by decide +kernel⟩
theorem cmX3_boxesThatGo_112 : CkM wsX3_boxesThatGo RX3 112 Lib.Math.min.name Lib.Math.min.code 2 := by decide +kernel
variable {p : Program} {l : Launch} {e : Env} {s : State} {m : MethodId} {args : Array Value} {below : List Frame} {meth : Method} {c : Code} {A : Nat → Prop} {G : Gt} {a_plan a_plan_end a_plan_room a_plan_idle a_plan_unmet a_plan_way a_plan_start a_plan_cost a_plan_gain : Nat} {pl_arcs : Int32} {pl_lack : Int32} {pl_least : Int32} {pl_end : (Nat → Int32)} {pl_room : (Nat → Int32)} {pl_idle : (Nat → Int32)} {pl_unmet : (Nat → Int32)} {pl_way : (Nat → Int32)} {res : Int32}
set_option maxHeartbeats 4000000 in
set_option maxRecDepth 100000 in
theorem tX3_boxesThatGo_62 (X : Bx p s m args meth c cX3_boxesThatGo 5 wsX3_boxesThatGo RX3 (some .int)) (v2 : Int32) (v3 : Int32)   (h : fX3_boxesThatGo_62 v2 v3 pl_unmet = some res) : ∀ (H : Heap) (locs : List Loc), Wo G A s (wX3_boxesThatGo G a_plan a_plan_end a_plan_room a_plan_idle a_plan_unmet a_plan_way a_plan_start a_plan_cost a_plan_gain pl_arcs pl_lack pl_least pl_end pl_room pl_idle pl_unmet pl_way) H locs → ∀ ls : Array Slot, lv_has ls 5 [(0, .ref a_plan), (2, .int v2), (3, .int v3)] → W p l e rmX3_boxesThatGo s m args below meth c H locs 0 0 (QI G A below args s res (wX3_boxesThatGo G a_plan a_plan_end a_plan_room a_plan_idle a_plan_unmet a_plan_way a_plan_start a_plan_cost a_plan_gain pl_arcs pl_lack pl_least pl_end pl_room pl_idle pl_unmet pl_way)) (F0 m 62 ls []) := by
  obtain ⟨hx, hb, -⟩ := id X.1
  intro H locs hW ls hl
  rw [fX3_boxesThatGo_62] at h
  refine lv_aload_n hx hb dX3_boxesThatGo_62 rfl (lv_at hl 0 rfl) ?_
  refine g_get X hW eX3_boxesThatGo_27 0 rfl rfl dX3_boxesThatGo_63 ?_
  refine lv_iload_n hx hb dX3_boxesThatGo_66 rfl (lv_at hl 2 rfl) ?_
  obtain ⟨g4, h⟩ := gd_some h
  refine g_ald X hW 4 rfl g4 dX3_boxesThatGo_67 ?_
  refine lv_if_le (tgt := 84) hx hb dX3_boxesThatGo_68 (by decide) (fun c5 => ?_) (fun c5 => ?_)
  · have h := (if_pos c5).symm.trans h
    refine lv_iload_n hx hb dX3_boxesThatGo_84 rfl (lv_at hl 1 rfl) ?_
    obtain rfl := Option.some.inj h
    exact g_iret X hW dX3_boxesThatGo_85
  · have h := (if_neg c5).symm.trans h
    refine lv_iload_n hx hb dX3_boxesThatGo_71 rfl (lv_at hl 1 rfl) ?_
    refine lv_aload_n hx hb dX3_boxesThatGo_72 rfl (lv_at hl 0 rfl) ?_
    refine g_get X hW eX3_boxesThatGo_27 0 rfl rfl dX3_boxesThatGo_73 ?_
    refine lv_iload_n hx hb dX3_boxesThatGo_76 rfl (lv_at hl 2 rfl) ?_
    obtain ⟨g12, h⟩ := gd_some h
    refine g_ald X hW 4 rfl g12 dX3_boxesThatGo_77 ?_
    refine g_mmin X cmX3_boxesThatGo_112 hl.1 (Nat.le_of_ble_eq_true rfl) (Nat.le_of_ble_eq_true rfl) ⟨Nat.zero_le _, Nat.zero_le _⟩ dX3_boxesThatGo_78 ?_
    refine lv_goto (tgt := 85) hx hb dX3_boxesThatGo_81 (by decide) ?_
    obtain rfl := Option.some.inj h
    exact g_iret X hW dX3_boxesThatGo_85
set_option maxHeartbeats 4000000 in
set_option maxRecDepth 100000 in
theorem tX3_boxesThatGo_12 (X : Bx p s m args meth c cX3_boxesThatGo 5 wsX3_boxesThatGo RX3 (some .int))  (k_62 : Int32 → Int32 → Option (Int32)) (Hk_62 : ∀ (v2 : Int32) (v3 : Int32), k_62 v2 v3 = some res → ∀ (H : Heap) (locs : List Loc), Wo G A s (wX3_boxesThatGo G a_plan a_plan_end a_plan_room a_plan_idle a_plan_unmet a_plan_way a_plan_start a_plan_cost a_plan_gain pl_arcs pl_lack pl_least pl_end pl_room pl_idle pl_unmet pl_way) H locs → ∀ ls : Array Slot, lv_has ls 5 [(0, .ref a_plan), (2, .int v2), (3, .int v3)] → W p l e rmX3_boxesThatGo s m args below meth c H locs 0 0 (QI G A below args s res (wX3_boxesThatGo G a_plan a_plan_end a_plan_room a_plan_idle a_plan_unmet a_plan_way a_plan_start a_plan_cost a_plan_gain pl_arcs pl_lack pl_least pl_end pl_room pl_idle pl_unmet pl_way)) (F0 m 62 ls [])) : ∀ (n : Nat) (v2 : Int32) (v3 : Int32) (v4 : Int32), fX3_boxesThatGo_12 pl_end pl_room pl_way k_62 n v2 v3 v4 = some res → ∀ (H : Heap) (locs : List Loc), Wo G A s (wX3_boxesThatGo G a_plan a_plan_end a_plan_room a_plan_idle a_plan_unmet a_plan_way a_plan_start a_plan_cost a_plan_gain pl_arcs pl_lack pl_least pl_end pl_room pl_idle pl_unmet pl_way) H locs → ∀ ls : Array Slot, lv_has ls 5 [(0, .ref a_plan), (2, .int v2), (3, .int v3), (4, .int v4)] → W p l e rmX3_boxesThatGo s m args below meth c H locs 0 0 (QI G A below args s res (wX3_boxesThatGo G a_plan a_plan_end a_plan_room a_plan_idle a_plan_unmet a_plan_way a_plan_start a_plan_cost a_plan_gain pl_arcs pl_lack pl_least pl_end pl_room pl_idle pl_unmet pl_way)) (F0 m 12 ls []) := by
  obtain ⟨hx, hb, -⟩ := id X.1
  intro n
  induction n with
  | zero => intro v2 v3 v4 h; rw [fX3_boxesThatGo_12] at h; cases h
  | succ n ih =>
    intro v2 v3 v4 h H locs hW ls hl
    rw [fX3_boxesThatGo_12] at h
    refine lv_iload hx hb dX3_boxesThatGo_12 (lv_at hl 3 rfl) ?_
    refine lv_bipush hx hb dX3_boxesThatGo_14 qB_30 ?_
    refine lv_icmp_ge (tgt := 62) hx hb dX3_boxesThatGo_16 (by decide) (fun c18 => ?_) (fun c18 => ?_)
    · have h := (if_pos c18).symm.trans h
      exact Hk_62 v2 v3 h H locs hW ls (lv_sub hl [0, 1, 2] rfl)
    · have h := (if_neg c18).symm.trans h
      refine lv_aload_n hx hb dX3_boxesThatGo_19 rfl (lv_at hl 0 rfl) ?_
      refine g_get X hW eX3_boxesThatGo_33 0 rfl rfl dX3_boxesThatGo_20 ?_
      refine lv_iload_n hx hb dX3_boxesThatGo_23 rfl (lv_at hl 2 rfl) ?_
      obtain ⟨g22, h⟩ := gd_some h
      refine g_ald X hW 5 rfl g22 dX3_boxesThatGo_24 ?_
      refine lv_if_lt (tgt := 62) hx hb dX3_boxesThatGo_25 (by decide) (fun c23 => ?_) (fun c23 => ?_)
      · have h := (if_pos c23).symm.trans h
        exact Hk_62 v2 v3 h H locs hW ls (lv_sub hl [0, 1, 2] rfl)
      · have h := (if_neg c23).symm.trans h
        refine lv_iload_n hx hb dX3_boxesThatGo_28 rfl (lv_at hl 1 rfl) ?_
        refine lv_aload_n hx hb dX3_boxesThatGo_29 rfl (lv_at hl 0 rfl) ?_
        refine g_get X hW eX3_boxesThatGo_21 0 rfl rfl dX3_boxesThatGo_30 ?_
        refine lv_aload_n hx hb dX3_boxesThatGo_33 rfl (lv_at hl 0 rfl) ?_
        refine g_get X hW eX3_boxesThatGo_33 0 rfl rfl dX3_boxesThatGo_34 ?_
        refine lv_iload_n hx hb dX3_boxesThatGo_37 rfl (lv_at hl 2 rfl) ?_
        obtain ⟨g30, h⟩ := gd_some h
        refine g_ald X hW 5 rfl g30 dX3_boxesThatGo_38 ?_
        obtain ⟨g31, h⟩ := gd_some h
        refine g_ald X hW 2 rfl g31 dX3_boxesThatGo_39 ?_
        refine g_mmin X cmX3_boxesThatGo_112 hl.1 (Nat.le_of_ble_eq_true rfl) (Nat.le_of_ble_eq_true rfl) ⟨Nat.zero_le _, Nat.zero_le _⟩ dX3_boxesThatGo_40 ?_
        refine lv_istore_n (lv' := [(2, .int (imin v2 (pl_room (pl_way v3.toNatClampNeg).toNatClampNeg))), (0, .ref a_plan), (3, .int v3), (4, .int v4)]) hx hb dX3_boxesThatGo_43 rfl hl (by decide) rfl (fun ls hl => ?_)
        refine lv_aload_n hx hb dX3_boxesThatGo_44 rfl (lv_at hl 1 rfl) ?_
        refine g_get X hW eX3_boxesThatGo_15 0 rfl rfl dX3_boxesThatGo_45 ?_
        refine lv_aload_n hx hb dX3_boxesThatGo_48 rfl (lv_at hl 1 rfl) ?_
        refine g_get X hW eX3_boxesThatGo_33 0 rfl rfl dX3_boxesThatGo_49 ?_
        refine lv_iload_n hx hb dX3_boxesThatGo_52 rfl (lv_at hl 2 rfl) ?_
        obtain ⟨g39, h⟩ := gd_some h
        refine g_ald X hW 5 rfl g39 dX3_boxesThatGo_53 ?_
        obtain ⟨g40, h⟩ := gd_some h
        refine g_ald X hW 1 rfl g40 dX3_boxesThatGo_54 ?_
        refine lv_istore_n (lv' := [(3, .int (pl_end (pl_way v3.toNatClampNeg).toNatClampNeg)), (2, .int (imin v2 (pl_room (pl_way v3.toNatClampNeg).toNatClampNeg))), (0, .ref a_plan), (4, .int v4)]) hx hb dX3_boxesThatGo_55 rfl hl (by decide) rfl (fun ls hl => ?_)
        refine lv_iinc (v := (v4 + (1 : Int32))) (lv' := [(4, .int (v4 + (1 : Int32))), (3, .int (pl_end (pl_way v3.toNatClampNeg).toNatClampNeg)), (2, .int (imin v2 (pl_room (pl_way v3.toNatClampNeg).toNatClampNeg))), (0, .ref a_plan)]) hx hb dX3_boxesThatGo_56 hl (k := 3) rfl (congrArg (fun z => v4 + z) qI_1) (by decide) rfl (fun ls hl => ?_)
        refine lv_goto (tgt := 12) hx hb dX3_boxesThatGo_59 (by decide) ?_
        exact ih (imin v2 (pl_room (pl_way v3.toNatClampNeg).toNatClampNeg)) (pl_end (pl_way v3.toNatClampNeg).toNatClampNeg) (v4 + (1 : Int32)) h H locs hW ls (lv_sub hl [3, 2, 1, 0] rfl)
set_option maxHeartbeats 4000000 in
set_option maxRecDepth 100000 in
theorem k0X3_boxesThatGo {l : Launch} (G : Gt) (a_plan a_plan_end a_plan_room a_plan_idle a_plan_unmet a_plan_way a_plan_start a_plan_cost a_plan_gain : Nat) (v1 : Int32) (pl_arcs : Int32) (pl_lack : Int32) (pl_least : Int32) (pl_end : (Nat → Int32)) (pl_room : (Nat → Int32)) (pl_idle : (Nat → Int32)) (pl_unmet : (Nat → Int32)) (pl_way : (Nat → Int32)) {res : Int32} (h : fX3_boxesThatGo v1 pl_end pl_room pl_idle pl_unmet pl_way = some res) : CtI G l yX3_boxesThatGo wsX3_boxesThatGo rmX3_boxesThatGo [.ref a_plan, .int v1] (wX3_boxesThatGo G a_plan a_plan_end a_plan_room a_plan_idle a_plan_unmet a_plan_way a_plan_start a_plan_cost a_plan_gain pl_arcs pl_lack pl_least pl_end pl_room pl_idle pl_unmet pl_way) res (wX3_boxesThatGo G a_plan a_plan_end a_plan_room a_plan_idle a_plan_unmet a_plan_way a_plan_start a_plan_cost a_plan_gain pl_arcs pl_lack pl_least pl_end pl_room pl_idle pl_unmet pl_way) := by
  refine CtI.mk (cc := cX3_boxesThatGo) (maxL := 5) (ret := (some .int)) (own := RX3) (by decide) rfl rfl (Nat.le_of_ble_eq_true rfl) ?_
  intro p e s m below meth c A X ls hl hW
  obtain ⟨hx, hb, -⟩ := id X.1
  have hl : lv_has ls 5 [(0, .ref a_plan), (1, .int v1)] := hl
  generalize hH : s.heap = H at hW ⊢
  generalize hLo : ([] : List Loc) = locs at hW ⊢
  rw [fX3_boxesThatGo] at h
  refine lv_aload_n hx hb dX3_boxesThatGo_0 rfl (lv_at hl 0 rfl) ?_
  refine g_get X hW eX3_boxesThatGo_24 0 rfl rfl dX3_boxesThatGo_1 ?_
  refine lv_iload_n hx hb dX3_boxesThatGo_4 rfl (lv_at hl 1 rfl) ?_
  obtain ⟨g47, h⟩ := gd_some h
  refine g_ald X hW 3 rfl g47 dX3_boxesThatGo_5 ?_
  refine lv_istore_n (lv' := [(2, .int (pl_idle v1.toNatClampNeg)), (0, .ref a_plan), (1, .int v1)]) hx hb dX3_boxesThatGo_6 rfl hl (by decide) rfl (fun ls hl => ?_)
  refine lv_iload_n hx hb dX3_boxesThatGo_7 rfl (lv_at hl 2 rfl) ?_
  refine lv_istore_n (lv' := [(3, .int v1), (2, .int (pl_idle v1.toNatClampNeg)), (0, .ref a_plan), (1, .int v1)]) hx hb dX3_boxesThatGo_8 rfl hl (by decide) rfl (fun ls hl => ?_)
  refine lv_iconst hx hb dX3_boxesThatGo_9 qI_0 ?_
  refine lv_istore (lv' := [(4, .int (0 : Int32)), (3, .int v1), (2, .int (pl_idle v1.toNatClampNeg)), (0, .ref a_plan), (1, .int v1)]) hx hb dX3_boxesThatGo_10 hl (by decide) rfl (fun ls hl => ?_)
  exact tX3_boxesThatGo_12 X (fun v2_q53 v3_q53 => fX3_boxesThatGo_62 v2_q53 v3_q53 pl_unmet) (fun v2_q53 v3_q53 h H locs hW ls hl => by exact tX3_boxesThatGo_62 X v2_q53 v3_q53 h H locs hW ls hl) FU (pl_idle v1.toNatClampNeg) v1 (0 : Int32) h H locs hW ls (lv_sub hl [3, 2, 1, 0] rfl)
theorem kcX3_boxesThatGo {l : Launch} (G : Gt) (a_plan a_plan_end a_plan_room a_plan_idle a_plan_unmet a_plan_way a_plan_start a_plan_cost a_plan_gain : Nat) (v1 : Int32) (pl_arcs : Int32) (pl_lack : Int32) (pl_least : Int32) (pl_end : (Nat → Int32)) (pl_room : (Nat → Int32)) (pl_idle : (Nat → Int32)) (pl_unmet : (Nat → Int32)) (pl_way : (Nat → Int32)) {r : Int32}  (h : fX3_boxesThatGo v1 pl_end pl_room pl_idle pl_unmet pl_way = some r) : CtI G l yX3_boxesThatGo wsX3_boxesThatGo rmX3_boxesThatGo [.ref a_plan, .int v1] (wX3_boxesThatGo G a_plan a_plan_end a_plan_room a_plan_idle a_plan_unmet a_plan_way a_plan_start a_plan_cost a_plan_gain pl_arcs pl_lack pl_least pl_end pl_room pl_idle pl_unmet pl_way) r (wX3_boxesThatGo G a_plan a_plan_end a_plan_room a_plan_idle a_plan_unmet a_plan_way a_plan_start a_plan_cost a_plan_gain pl_arcs pl_lack pl_least pl_end pl_room pl_idle pl_unmet pl_way) := k0X3_boxesThatGo G a_plan a_plan_end a_plan_room a_plan_idle a_plan_unmet a_plan_way a_plan_start a_plan_cost a_plan_gain v1 pl_arcs pl_lack pl_least pl_end pl_room pl_idle pl_unmet pl_way h
end MX3_boxesThatGo
/-! EmptyBoxes$Plan.sendFrom -/
section MX3_sendFrom
theorem hdX3_sendFrom : yX3_sendFrom.cls = RX3 ∧ yX3_sendFrom.cls ≠ "java/lang/invoke/MethodHandle" ∧ yX3_sendFrom.cls ≠ "java/lang/invoke/VarHandle" ∧ (parseMethodDescriptor yX3_sendFrom.desc).map (fun d => d.parameters.length) = some 1 := by decide +kernel
abbrev wX3_sendFrom (G : Gt) (a_plan a_plan_end a_plan_room a_plan_idle a_plan_unmet a_plan_gain a_plan_way a_plan_start a_plan_cost : Nat) (pl_arcs : Int32) (pl_lack : Int32) (pl_least : Int32) (pl_end : (Nat → Int32)) (pl_room : (Nat → Int32)) (pl_idle : (Nat → Int32)) (pl_unmet : (Nat → Int32)) (pl_gain : (Nat → Int32)) (pl_way : (Nat → Int32)) : va_W := [(a_plan, .inr (3, [.ref a_plan_start, .ref a_plan_end, .ref a_plan_cost, .ref a_plan_room, .ref a_plan_idle, .ref a_plan_unmet, .ref a_plan_gain, .ref a_plan_way, .int pl_arcs, .int pl_lack, .int pl_least])), (a_plan_end, .inl (G.2.1, 148, .inl pl_end)), (a_plan_room, .inl (G.2.1, 148, .inl pl_room)), (a_plan_idle, .inl (G.2.1, 30, .inl pl_idle)), (a_plan_unmet, .inl (G.2.1, 30, .inl pl_unmet)), (a_plan_gain, .inl (G.2.1, 30, .inl pl_gain)), (a_plan_way, .inl (G.2.1, 30, .inl pl_way))]
abbrev rmX3_sendFrom : Room := { frames := 2, cells := 0, slots := 0, locals := 45 }
theorem iX3_sendFrom_X3 : ∀ w ∈ wsX30, w ∈ wsX3_sendFrom := by decide +kernel
theorem eX3_sendFrom_15 : Fk wsX3_sendFrom RX3 15 3 1 := ⟨RX3, TX3, 11, rfl, iX3_sendFrom_X3, by decide, by decide +kernel⟩
theorem eX3_sendFrom_21 : Fk wsX3_sendFrom RX3 21 3 3 := ⟨RX3, TX3, 11, rfl, iX3_sendFrom_X3, by decide, by decide +kernel⟩
theorem eX3_sendFrom_24 : Fk wsX3_sendFrom RX3 24 3 4 := ⟨RX3, TX3, 11, rfl, iX3_sendFrom_X3, by decide, by decide +kernel⟩
theorem eX3_sendFrom_27 : Fk wsX3_sendFrom RX3 27 3 5 := ⟨RX3, TX3, 11, rfl, iX3_sendFrom_X3, by decide, by decide +kernel⟩
theorem eX3_sendFrom_30 : Fk wsX3_sendFrom RX3 30 3 6 := ⟨RX3, TX3, 11, rfl, iX3_sendFrom_X3, by decide, by decide +kernel⟩
theorem eX3_sendFrom_33 : Fk wsX3_sendFrom RX3 33 3 7 := ⟨RX3, TX3, 11, rfl, iX3_sendFrom_X3, by decide, by decide +kernel⟩
theorem eX3_sendFrom_74 : Fk wsX3_sendFrom RX3 74 3 10 := ⟨RX3, TX3, 11, rfl, iX3_sendFrom_X3, by decide, by decide +kernel⟩
theorem pX3_sendFrom_74 : Fp wsX3_sendFrom RX3 74 3 10 .int := ⟨RX3, TX3, 11, tyX3, rfl, iX3_sendFrom_X3, by decide, by decide +kernel, tyX3_ok, nmX3, rfl, by decide +kernel⟩
theorem ckX3_sendFrom_X3_boxesThatGo_108 : CkV wsX3_sendFrom RX3 108 yX3_boxesThatGo wsX3_boxesThatGo cX3_boxesThatGo 5 (some .int) 1 3 := ⟨RX3, TX3, 11, _, rfl, gX3_sendFrom_X3_boxesThatGo, rfl, hdX3_boxesThatGo⟩
variable {p : Program} {l : Launch} {e : Env} {s : State} {m : MethodId} {args : Array Value} {below : List Frame} {meth : Method} {c : Code} {A : Nat → Prop} {G : Gt} {a_plan a_plan_end a_plan_room a_plan_idle a_plan_unmet a_plan_gain a_plan_way a_plan_start a_plan_cost : Nat} {pl_arcs : Int32} {pl_lack : Int32} {pl_end : (Nat → Int32)} {pl_gain : (Nat → Int32)} {pl_way : (Nat → Int32)} {res : Int32 × (Nat → Int32) × (Nat → Int32) × (Nat → Int32)}
set_option maxHeartbeats 4000000 in
set_option maxRecDepth 100000 in
theorem tX3_sendFrom_92 (X : Bx p s m args meth c cX3_sendFrom 6 wsX3_sendFrom RX3 none) (v1 : Int32) (v2 : Int32) (pl_least : Int32) (pl_room : (Nat → Int32)) (pl_idle : (Nat → Int32)) (pl_unmet : (Nat → Int32))   (h : fX3_sendFrom_92 v1 v2 pl_least pl_room pl_idle pl_unmet pl_gain = some res) : ∀ (H : Heap) (locs : List Loc), Wo G A s (wX3_sendFrom G a_plan a_plan_end a_plan_room a_plan_idle a_plan_unmet a_plan_gain a_plan_way a_plan_start a_plan_cost pl_arcs pl_lack pl_least pl_end pl_room pl_idle pl_unmet pl_gain pl_way) H locs → ∀ ls : Array Slot, lv_has ls 6 [(0, .ref a_plan), (1, .int v1), (2, .int v2)] → W p l e rmX3_sendFrom s m args below meth c H locs 0 0 (QV G A below args s (wX3_sendFrom G a_plan a_plan_end a_plan_room a_plan_idle a_plan_unmet a_plan_gain a_plan_way a_plan_start a_plan_cost pl_arcs pl_lack res.1 pl_end res.2.1 res.2.2.1 res.2.2.2 pl_gain pl_way)) (F0 m 92 ls []) := by
  obtain ⟨hx, hb, -⟩ := id X.1
  intro H locs hW ls hl
  rw [fX3_sendFrom_92] at h
  refine lv_aload_n hx hb dX3_sendFrom_92 rfl (lv_at hl 0 rfl) ?_
  refine g_get X hW eX3_sendFrom_24 0 rfl rfl dX3_sendFrom_93 ?_
  refine lv_iload_n hx hb dX3_sendFrom_96 rfl (lv_at hl 1 rfl) ?_
  refine lv_dup2_11 hx hb dX3_sendFrom_97 rfl rfl ?_
  obtain ⟨g5, h⟩ := gd_some h
  refine g_ald X hW 3 rfl g5 dX3_sendFrom_98 ?_
  refine lv_iload_n hx hb dX3_sendFrom_99 rfl (lv_at hl 2 rfl) ?_
  refine lv_isub hx hb dX3_sendFrom_100 ?_
  obtain ⟨g8, h⟩ := gd_some h
  refine g_ast X hW (ws' := (wX3_sendFrom G a_plan a_plan_end a_plan_room a_plan_idle a_plan_unmet a_plan_gain a_plan_way a_plan_start a_plan_cost pl_arcs pl_lack pl_least pl_end pl_room (upd pl_idle v1.toNatClampNeg ((pl_idle v1.toNatClampNeg) - v2)) pl_unmet pl_gain pl_way)) 3 rfl g8 rfl dX3_sendFrom_101 (fun H locs hW => ?_)
  refine lv_aload_n hx hb dX3_sendFrom_102 rfl (lv_at hl 0 rfl) ?_
  refine lv_dup hx hb dX3_sendFrom_103 rfl ?_
  refine g_get X hW eX3_sendFrom_74 0 rfl rfl dX3_sendFrom_104 ?_
  refine lv_iload_n hx hb dX3_sendFrom_107 rfl (lv_at hl 2 rfl) ?_
  refine lv_aload_n hx hb dX3_sendFrom_108 rfl (lv_at hl 0 rfl) ?_
  refine g_get X hW eX3_sendFrom_30 0 rfl rfl dX3_sendFrom_109 ?_
  refine lv_iload_n hx hb dX3_sendFrom_112 rfl (lv_at hl 1 rfl) ?_
  obtain ⟨g16, h⟩ := gd_some h
  refine g_ald X hW 5 rfl g16 dX3_sendFrom_113 ?_
  refine lv_imul hx hb dX3_sendFrom_114 ?_
  refine lv_isub hx hb dX3_sendFrom_115 ?_
  refine g_put X hW (ws' := (wX3_sendFrom G a_plan a_plan_end a_plan_room a_plan_idle a_plan_unmet a_plan_gain a_plan_way a_plan_start a_plan_cost pl_arcs pl_lack (pl_least - (v2 * (pl_gain v1.toNatClampNeg))) pl_end pl_room (upd pl_idle v1.toNatClampNeg ((pl_idle v1.toNatClampNeg) - v2)) pl_unmet pl_gain pl_way)) pX3_sendFrom_74 0 rfl (Nat.le_of_ble_eq_true rfl) rfl rfl rfl dX3_sendFrom_116 (fun H locs hW => ?_)
  obtain rfl := Option.some.inj h
  exact g_vret X hW dX3_sendFrom_119
set_option maxHeartbeats 4000000 in
set_option maxRecDepth 100000 in
theorem tX3_sendFrom_73 (X : Bx p s m args meth c cX3_sendFrom 6 wsX3_sendFrom RX3 none) (v1 : Int32) (v2 : Int32) (v3 : Int32) (pl_least : Int32) (pl_room : (Nat → Int32)) (pl_idle : (Nat → Int32)) (pl_unmet : (Nat → Int32))   (h : fX3_sendFrom_73 v1 v2 v3 pl_least pl_room pl_idle pl_unmet pl_gain = some res) : ∀ (H : Heap) (locs : List Loc), Wo G A s (wX3_sendFrom G a_plan a_plan_end a_plan_room a_plan_idle a_plan_unmet a_plan_gain a_plan_way a_plan_start a_plan_cost pl_arcs pl_lack pl_least pl_end pl_room pl_idle pl_unmet pl_gain pl_way) H locs → ∀ ls : Array Slot, lv_has ls 6 [(0, .ref a_plan), (1, .int v1), (2, .int v2), (3, .int v3)] → W p l e rmX3_sendFrom s m args below meth c H locs 0 0 (QV G A below args s (wX3_sendFrom G a_plan a_plan_end a_plan_room a_plan_idle a_plan_unmet a_plan_gain a_plan_way a_plan_start a_plan_cost pl_arcs pl_lack res.1 pl_end res.2.1 res.2.2.1 res.2.2.2 pl_gain pl_way)) (F0 m 73 ls []) := by
  obtain ⟨hx, hb, -⟩ := id X.1
  intro H locs hW ls hl
  rw [fX3_sendFrom_73] at h
  refine lv_aload_n hx hb dX3_sendFrom_73 rfl (lv_at hl 0 rfl) ?_
  refine g_get X hW eX3_sendFrom_27 0 rfl rfl dX3_sendFrom_74 ?_
  refine lv_iload_n hx hb dX3_sendFrom_77 rfl (lv_at hl 3 rfl) ?_
  obtain ⟨g24, h⟩ := gd_some h
  refine g_ald X hW 4 rfl g24 dX3_sendFrom_78 ?_
  refine lv_if_le (tgt := 92) hx hb dX3_sendFrom_79 (by decide) (fun c25 => ?_) (fun c25 => ?_)
  · have h := (if_pos c25).symm.trans h
    exact tX3_sendFrom_92 X v1 v2 pl_least pl_room pl_idle pl_unmet h H locs hW ls (lv_sub hl [0, 1, 2] rfl)
  · have h := (if_neg c25).symm.trans h
    refine lv_aload_n hx hb dX3_sendFrom_82 rfl (lv_at hl 0 rfl) ?_
    refine g_get X hW eX3_sendFrom_27 0 rfl rfl dX3_sendFrom_83 ?_
    refine lv_iload_n hx hb dX3_sendFrom_86 rfl (lv_at hl 3 rfl) ?_
    refine lv_dup2_11 hx hb dX3_sendFrom_87 rfl rfl ?_
    obtain ⟨g30, h⟩ := gd_some h
    refine g_ald X hW 4 rfl g30 dX3_sendFrom_88 ?_
    refine lv_iload_n hx hb dX3_sendFrom_89 rfl (lv_at hl 2 rfl) ?_
    refine lv_isub hx hb dX3_sendFrom_90 ?_
    obtain ⟨g33, h⟩ := gd_some h
    refine g_ast X hW (ws' := (wX3_sendFrom G a_plan a_plan_end a_plan_room a_plan_idle a_plan_unmet a_plan_gain a_plan_way a_plan_start a_plan_cost pl_arcs pl_lack pl_least pl_end pl_room pl_idle (upd pl_unmet v3.toNatClampNeg ((pl_unmet v3.toNatClampNeg) - v2)) pl_gain pl_way)) 4 rfl g33 rfl dX3_sendFrom_91 (fun H locs hW => ?_)
    exact tX3_sendFrom_92 X v1 v2 pl_least pl_room pl_idle (upd pl_unmet v3.toNatClampNeg ((pl_unmet v3.toNatClampNeg) - v2)) h H locs hW ls (lv_sub hl [0, 1, 2] rfl)
set_option maxHeartbeats 4000000 in
set_option maxRecDepth 100000 in
theorem tX3_sendFrom_11 (X : Bx p s m args meth c cX3_sendFrom 6 wsX3_sendFrom RX3 none) (v1 : Int32) (v2 : Int32) (pl_least : Int32) (pl_idle : (Nat → Int32)) (pl_unmet : (Nat → Int32)) (k_73 : Int32 → (Nat → Int32) → Option (Int32 × (Nat → Int32) × (Nat → Int32) × (Nat → Int32))) (Hk_73 : ∀ (v3 : Int32) (pl_room : (Nat → Int32)), k_73 v3 pl_room = some res → ∀ (H : Heap) (locs : List Loc), Wo G A s (wX3_sendFrom G a_plan a_plan_end a_plan_room a_plan_idle a_plan_unmet a_plan_gain a_plan_way a_plan_start a_plan_cost pl_arcs pl_lack pl_least pl_end pl_room pl_idle pl_unmet pl_gain pl_way) H locs → ∀ ls : Array Slot, lv_has ls 6 [(0, .ref a_plan), (1, .int v1), (2, .int v2), (3, .int v3)] → W p l e rmX3_sendFrom s m args below meth c H locs 0 0 (QV G A below args s (wX3_sendFrom G a_plan a_plan_end a_plan_room a_plan_idle a_plan_unmet a_plan_gain a_plan_way a_plan_start a_plan_cost pl_arcs pl_lack res.1 pl_end res.2.1 res.2.2.1 res.2.2.2 pl_gain pl_way)) (F0 m 73 ls [])) : ∀ (n : Nat) (v3 : Int32) (v4 : Int32) (pl_room : (Nat → Int32)), fX3_sendFrom_11 v2 pl_end pl_way k_73 n v3 v4 pl_room = some res → ∀ (H : Heap) (locs : List Loc), Wo G A s (wX3_sendFrom G a_plan a_plan_end a_plan_room a_plan_idle a_plan_unmet a_plan_gain a_plan_way a_plan_start a_plan_cost pl_arcs pl_lack pl_least pl_end pl_room pl_idle pl_unmet pl_gain pl_way) H locs → ∀ ls : Array Slot, lv_has ls 6 [(0, .ref a_plan), (1, .int v1), (2, .int v2), (3, .int v3), (4, .int v4)] → W p l e rmX3_sendFrom s m args below meth c H locs 0 0 (QV G A below args s (wX3_sendFrom G a_plan a_plan_end a_plan_room a_plan_idle a_plan_unmet a_plan_gain a_plan_way a_plan_start a_plan_cost pl_arcs pl_lack res.1 pl_end res.2.1 res.2.2.1 res.2.2.2 pl_gain pl_way)) (F0 m 11 ls []) := by
  obtain ⟨hx, hb, -⟩ := id X.1
  intro n
  induction n with
  | zero => intro v3 v4 pl_room h; rw [fX3_sendFrom_11] at h; cases h
  | succ n ih =>
    intro v3 v4 pl_room h H locs hW ls hl
    rw [fX3_sendFrom_11] at h
    refine lv_iload hx hb dX3_sendFrom_11 (lv_at hl 4 rfl) ?_
    refine lv_bipush hx hb dX3_sendFrom_13 qB_30 ?_
    refine lv_icmp_ge (tgt := 73) hx hb dX3_sendFrom_15 (by decide) (fun c36 => ?_) (fun c36 => ?_)
    · have h := (if_pos c36).symm.trans h
      exact Hk_73 v3 pl_room h H locs hW ls (lv_sub hl [0, 1, 2, 3] rfl)
    · have h := (if_neg c36).symm.trans h
      refine lv_aload_n hx hb dX3_sendFrom_18 rfl (lv_at hl 0 rfl) ?_
      refine g_get X hW eX3_sendFrom_33 0 rfl rfl dX3_sendFrom_19 ?_
      refine lv_iload_n hx hb dX3_sendFrom_22 rfl (lv_at hl 3 rfl) ?_
      obtain ⟨g40, h⟩ := gd_some h
      refine g_ald X hW 6 rfl g40 dX3_sendFrom_23 ?_
      refine lv_if_lt (tgt := 73) hx hb dX3_sendFrom_24 (by decide) (fun c41 => ?_) (fun c41 => ?_)
      · have h := (if_pos c41).symm.trans h
        exact Hk_73 v3 pl_room h H locs hW ls (lv_sub hl [0, 1, 2, 3] rfl)
      · have h := (if_neg c41).symm.trans h
        refine lv_aload_n hx hb dX3_sendFrom_27 rfl (lv_at hl 0 rfl) ?_
        refine g_get X hW eX3_sendFrom_33 0 rfl rfl dX3_sendFrom_28 ?_
        refine lv_iload_n hx hb dX3_sendFrom_31 rfl (lv_at hl 3 rfl) ?_
        obtain ⟨g45, h⟩ := gd_some h
        refine g_ald X hW 6 rfl g45 dX3_sendFrom_32 ?_
        refine lv_istore (lv' := [(5, .int (pl_way v3.toNatClampNeg)), (0, .ref a_plan), (1, .int v1), (2, .int v2), (3, .int v3), (4, .int v4)]) hx hb dX3_sendFrom_33 hl (by decide) rfl (fun ls hl => ?_)
        refine lv_aload_n hx hb dX3_sendFrom_35 rfl (lv_at hl 1 rfl) ?_
        refine g_get X hW eX3_sendFrom_21 0 rfl rfl dX3_sendFrom_36 ?_
        refine lv_iload hx hb dX3_sendFrom_39 (lv_at hl 0 rfl) ?_
        refine lv_dup2_11 hx hb dX3_sendFrom_41 rfl rfl ?_
        obtain ⟨g51, h⟩ := gd_some h
        refine g_ald X hW 2 rfl g51 dX3_sendFrom_42 ?_
        refine lv_iload_n hx hb dX3_sendFrom_43 rfl (lv_at hl 3 rfl) ?_
        refine lv_isub hx hb dX3_sendFrom_44 ?_
        obtain ⟨g54, h⟩ := gd_some h
        refine g_ast X hW (ws' := (wX3_sendFrom G a_plan a_plan_end a_plan_room a_plan_idle a_plan_unmet a_plan_gain a_plan_way a_plan_start a_plan_cost pl_arcs pl_lack pl_least pl_end (upd pl_room (pl_way v3.toNatClampNeg).toNatClampNeg ((pl_room (pl_way v3.toNatClampNeg).toNatClampNeg) - v2)) pl_idle pl_unmet pl_gain pl_way)) 2 rfl g54 rfl dX3_sendFrom_45 (fun H locs hW => ?_)
        refine lv_aload_n hx hb dX3_sendFrom_46 rfl (lv_at hl 1 rfl) ?_
        refine g_get X hW eX3_sendFrom_21 0 rfl rfl dX3_sendFrom_47 ?_
        refine lv_iload hx hb dX3_sendFrom_50 (lv_at hl 0 rfl) ?_
        refine lv_iconst hx hb dX3_sendFrom_52 qI_1 ?_
        refine lv_ixor hx hb dX3_sendFrom_53 ?_
        refine lv_dup2_11 hx hb dX3_sendFrom_54 rfl rfl ?_
        obtain ⟨g61, h⟩ := gd_some h
        refine g_ald X hW 2 rfl g61 dX3_sendFrom_55 ?_
        refine lv_iload_n hx hb dX3_sendFrom_56 rfl (lv_at hl 3 rfl) ?_
        refine lv_iadd hx hb dX3_sendFrom_57 ?_
        obtain ⟨g64, h⟩ := gd_some h
        refine g_ast X hW (ws' := (wX3_sendFrom G a_plan a_plan_end a_plan_room a_plan_idle a_plan_unmet a_plan_gain a_plan_way a_plan_start a_plan_cost pl_arcs pl_lack pl_least pl_end (upd (upd pl_room (pl_way v3.toNatClampNeg).toNatClampNeg ((pl_room (pl_way v3.toNatClampNeg).toNatClampNeg) - v2)) ((pl_way v3.toNatClampNeg) ^^^ (1 : Int32)).toNatClampNeg (((upd pl_room (pl_way v3.toNatClampNeg).toNatClampNeg ((pl_room (pl_way v3.toNatClampNeg).toNatClampNeg) - v2)) ((pl_way v3.toNatClampNeg) ^^^ (1 : Int32)).toNatClampNeg) + v2)) pl_idle pl_unmet pl_gain pl_way)) 2 rfl g64 rfl dX3_sendFrom_58 (fun H locs hW => ?_)
        refine lv_aload_n hx hb dX3_sendFrom_59 rfl (lv_at hl 1 rfl) ?_
        refine g_get X hW eX3_sendFrom_15 0 rfl rfl dX3_sendFrom_60 ?_
        refine lv_iload hx hb dX3_sendFrom_63 (lv_at hl 0 rfl) ?_
        obtain ⟨g68, h⟩ := gd_some h
        refine g_ald X hW 1 rfl g68 dX3_sendFrom_65 ?_
        refine lv_istore_n (lv' := [(3, .int (pl_end (pl_way v3.toNatClampNeg).toNatClampNeg)), (5, .int (pl_way v3.toNatClampNeg)), (0, .ref a_plan), (1, .int v1), (2, .int v2), (4, .int v4)]) hx hb dX3_sendFrom_66 rfl hl (by decide) rfl (fun ls hl => ?_)
        refine lv_iinc (v := (v4 + (1 : Int32))) (lv' := [(4, .int (v4 + (1 : Int32))), (3, .int (pl_end (pl_way v3.toNatClampNeg).toNatClampNeg)), (5, .int (pl_way v3.toNatClampNeg)), (0, .ref a_plan), (1, .int v1), (2, .int v2)]) hx hb dX3_sendFrom_67 hl (k := 5) rfl (congrArg (fun z => v4 + z) qI_1) (by decide) rfl (fun ls hl => ?_)
        refine lv_goto (tgt := 11) hx hb dX3_sendFrom_70 (by decide) ?_
        exact ih (pl_end (pl_way v3.toNatClampNeg).toNatClampNeg) (v4 + (1 : Int32)) (upd (upd pl_room (pl_way v3.toNatClampNeg).toNatClampNeg ((pl_room (pl_way v3.toNatClampNeg).toNatClampNeg) - v2)) ((pl_way v3.toNatClampNeg) ^^^ (1 : Int32)).toNatClampNeg (((upd pl_room (pl_way v3.toNatClampNeg).toNatClampNeg ((pl_room (pl_way v3.toNatClampNeg).toNatClampNeg) - v2)) ((pl_way v3.toNatClampNeg) ^^^ (1 : Int32)).toNatClampNeg) + v2)) h H locs hW ls (lv_sub hl [3, 4, 5, 1, 0] rfl)
set_option maxHeartbeats 4000000 in
set_option maxRecDepth 100000 in
theorem k0X3_sendFrom {l : Launch} (G : Gt) (a_plan a_plan_end a_plan_room a_plan_idle a_plan_unmet a_plan_gain a_plan_way a_plan_start a_plan_cost : Nat) (v1 : Int32) (pl_arcs : Int32) (pl_lack : Int32) (pl_least : Int32) (pl_end : (Nat → Int32)) (pl_room : (Nat → Int32)) (pl_idle : (Nat → Int32)) (pl_unmet : (Nat → Int32)) (pl_gain : (Nat → Int32)) (pl_way : (Nat → Int32)) {res : Int32 × (Nat → Int32) × (Nat → Int32) × (Nat → Int32)} (h : fX3_sendFrom v1 pl_least pl_end pl_room pl_idle pl_unmet pl_gain pl_way = some res) : CtV G l yX3_sendFrom wsX3_sendFrom rmX3_sendFrom [.ref a_plan, .int v1] (wX3_sendFrom G a_plan a_plan_end a_plan_room a_plan_idle a_plan_unmet a_plan_gain a_plan_way a_plan_start a_plan_cost pl_arcs pl_lack pl_least pl_end pl_room pl_idle pl_unmet pl_gain pl_way) (wX3_sendFrom G a_plan a_plan_end a_plan_room a_plan_idle a_plan_unmet a_plan_gain a_plan_way a_plan_start a_plan_cost pl_arcs pl_lack res.1 pl_end res.2.1 res.2.2.1 res.2.2.2 pl_gain pl_way) := by
  refine CtV.mk (cc := cX3_sendFrom) (maxL := 6) (ret := none) (own := RX3) (by decide) rfl rfl (Nat.le_of_ble_eq_true rfl) ?_
  intro p e s m below meth c A X ls hl hW
  obtain ⟨hx, hb, -⟩ := id X.1
  have hl : lv_has ls 6 [(0, .ref a_plan), (1, .int v1)] := hl
  generalize hH : s.heap = H at hW ⊢
  generalize hLo : ([] : List Loc) = locs at hW ⊢
  rw [fX3_sendFrom] at h
  refine lv_aload_n hx hb dX3_sendFrom_0 rfl (lv_at hl 0 rfl) ?_
  refine lv_iload_n hx hb dX3_sendFrom_1 rfl (lv_at hl 1 rfl) ?_
  obtain ⟨r74, hq, h⟩ := bn1_some h
  refine g_cvi X hW (As := [.int v1]) (ws' := (wX3_sendFrom G a_plan a_plan_end a_plan_room a_plan_idle a_plan_unmet a_plan_gain a_plan_way a_plan_start a_plan_cost pl_arcs pl_lack pl_least pl_end pl_room pl_idle pl_unmet pl_gain pl_way)) ckX3_sendFrom_X3_boxesThatGo_108 (kcX3_boxesThatGo (l := l) G a_plan a_plan_end a_plan_room a_plan_idle a_plan_unmet a_plan_way a_plan_start a_plan_cost a_plan_gain v1 pl_arcs pl_lack pl_least pl_end pl_room pl_idle pl_unmet pl_way hq) ⟨rfl, rfl, Nat.le_of_ble_eq_true rfl, Nat.le_of_ble_eq_true rfl⟩ [0, 1, 2, 3, 4, 6] rfl rfl rfl rfl rfl rfl rfl hl.1 (Nat.le_of_ble_eq_true rfl) ⟨Nat.zero_le _, Nat.zero_le _⟩ dX3_sendFrom_2 (fun H locs hW => ?_)
  refine lv_istore_n (lv' := [(2, .int r74), (0, .ref a_plan), (1, .int v1)]) hx hb dX3_sendFrom_5 rfl hl (by decide) rfl (fun ls hl => ?_)
  refine lv_iload_n hx hb dX3_sendFrom_6 rfl (lv_at hl 2 rfl) ?_
  refine lv_istore_n (lv' := [(3, .int v1), (2, .int r74), (0, .ref a_plan), (1, .int v1)]) hx hb dX3_sendFrom_7 rfl hl (by decide) rfl (fun ls hl => ?_)
  refine lv_iconst hx hb dX3_sendFrom_8 qI_0 ?_
  refine lv_istore (lv' := [(4, .int (0 : Int32)), (3, .int v1), (2, .int r74), (0, .ref a_plan), (1, .int v1)]) hx hb dX3_sendFrom_9 hl (by decide) rfl (fun ls hl => ?_)
  exact tX3_sendFrom_11 X v1 r74 pl_least pl_idle pl_unmet (fun v3_q80 pl_room_q80 => fX3_sendFrom_73 v1 r74 v3_q80 pl_least pl_room_q80 pl_idle pl_unmet pl_gain) (fun v3_q80 pl_room_q80 h H locs hW ls hl => by exact tX3_sendFrom_73 X v1 r74 v3_q80 pl_least pl_room_q80 pl_idle pl_unmet h H locs hW ls hl) FU v1 (0 : Int32) pl_room h H locs hW ls (lv_sub hl [3, 4, 2, 1, 0] rfl)
theorem kcX3_sendFrom {l : Launch} (G : Gt) (a_plan a_plan_end a_plan_room a_plan_idle a_plan_unmet a_plan_gain a_plan_way a_plan_start a_plan_cost : Nat) (v1 : Int32) (pl_arcs : Int32) (pl_lack : Int32) (pl_least : Int32) (pl_end : (Nat → Int32)) (pl_room : (Nat → Int32)) (pl_idle : (Nat → Int32)) (pl_unmet : (Nat → Int32)) (pl_gain : (Nat → Int32)) (pl_way : (Nat → Int32))  {z_pl_least : Int32} {z_pl_room : (Nat → Int32)} {z_pl_idle : (Nat → Int32)} {z_pl_unmet : (Nat → Int32)} (h : fX3_sendFrom v1 pl_least pl_end pl_room pl_idle pl_unmet pl_gain pl_way = some (z_pl_least, z_pl_room, z_pl_idle, z_pl_unmet)) : CtV G l yX3_sendFrom wsX3_sendFrom rmX3_sendFrom [.ref a_plan, .int v1] (wX3_sendFrom G a_plan a_plan_end a_plan_room a_plan_idle a_plan_unmet a_plan_gain a_plan_way a_plan_start a_plan_cost pl_arcs pl_lack pl_least pl_end pl_room pl_idle pl_unmet pl_gain pl_way) (wX3_sendFrom G a_plan a_plan_end a_plan_room a_plan_idle a_plan_unmet a_plan_gain a_plan_way a_plan_start a_plan_cost pl_arcs pl_lack z_pl_least pl_end z_pl_room z_pl_idle z_pl_unmet pl_gain pl_way) := k0X3_sendFrom G a_plan a_plan_end a_plan_room a_plan_idle a_plan_unmet a_plan_gain a_plan_way a_plan_start a_plan_cost v1 pl_arcs pl_lack pl_least pl_end pl_room pl_idle pl_unmet pl_gain pl_way h
end MX3_sendFrom
/-! EmptyBoxes$Plan.solve -/
section MX3_solve
theorem hdX3_solve : yX3_solve.cls = RX3 ∧ yX3_solve.cls ≠ "java/lang/invoke/MethodHandle" ∧ yX3_solve.cls ≠ "java/lang/invoke/VarHandle" ∧ (parseMethodDescriptor yX3_solve.desc).map (fun d => d.parameters.length) = some 1 := by decide +kernel
abbrev wX3_solve (G : Gt) (a_plan a_plan_start a_plan_end a_plan_cost a_plan_room a_plan_idle a_plan_unmet a_plan_gain a_plan_way a_od a_od_weeks a_od_weeks_a a_od_routes a_od_routes_a a_od_boxes a_od_words a_od_offers a_od_wants a_od_leaves a_od_leases a_od_uses : Nat) (pl_arcs : Int32) (pl_lack : Int32) (pl_least : Int32) (pl_start : (Nat → Int32)) (pl_end : (Nat → Int32)) (pl_cost : (Nat → Int32)) (pl_room : (Nat → Int32)) (pl_idle : (Nat → Int32)) (pl_unmet : (Nat → Int32)) (pl_gain : (Nat → Int32)) (pl_way : (Nat → Int32)) (o_today : Int32) (o_lack : Int32) (o_rate : Int32) (o_free : Int32) (o_weeks_r : Int32) (o_weeks_f : (Nat → Int32)) (o_routes_r : Int32) (o_routes_f : (Nat → Int32)) : va_W := [(a_plan, .inr (3, [.ref a_plan_start, .ref a_plan_end, .ref a_plan_cost, .ref a_plan_room, .ref a_plan_idle, .ref a_plan_unmet, .ref a_plan_gain, .ref a_plan_way, .int pl_arcs, .int pl_lack, .int pl_least])), (a_plan_start, .inl (G.2.1, 148, .inl pl_start)), (a_plan_end, .inl (G.2.1, 148, .inl pl_end)), (a_plan_cost, .inl (G.2.1, 148, .inl pl_cost)), (a_plan_room, .inl (G.2.1, 148, .inl pl_room)), (a_plan_idle, .inl (G.2.1, 30, .inl pl_idle)), (a_plan_unmet, .inl (G.2.1, 30, .inl pl_unmet)), (a_plan_gain, .inl (G.2.1, 30, .inl pl_gain)), (a_plan_way, .inl (G.2.1, 30, .inl pl_way)), (a_od, .inr (0, [.ref a_od_boxes, .ref a_od_words, .ref a_od_weeks, .ref a_od_routes, .ref a_od_offers, .ref a_od_wants, .ref a_od_leaves, .ref a_od_leases, .ref a_od_uses, .int o_today, .int o_lack, .int o_rate, .int o_free])), (a_od_weeks, .inr (4, [.ref a_od_weeks_a, .int (2 : Int32), .int (30 : Int32), .int o_weeks_r])), (a_od_weeks_a, .inl (G.2.1, 60, .inl o_weeks_f)), (a_od_routes, .inr (4, [.ref a_od_routes_a, .int (5 : Int32), .int (10 : Int32), .int o_routes_r])), (a_od_routes_a, .inl (G.2.1, 50, .inl o_routes_f))]
abbrev rmX3_solve : Room := { frames := 4, cells := 0, slots := 0, locals := 90 }
theorem iX3_solve_X0 : ∀ w ∈ wsX00, w ∈ wsX3_solve := by decide +kernel
theorem eX3_solve_48 : Fk wsX3_solve RX3 48 0 3 := ⟨RX0, TX0, 13, rfl, iX3_solve_X0, by decide, by decide +kernel⟩
theorem ckX3_solve_X3_knotToSend_61 : CkV wsX3_solve RX3 61 yX3_knotToSend wsX3_knotToSend cX3_knotToSend 2 (some .int) 0 3 := ⟨RX3, TX3, 11, _, rfl, gX3_solve_X3_knotToSend, rfl, hdX3_knotToSend⟩
theorem ckX3_solve_X3_layArcs_54 : CkV wsX3_solve RX3 54 yX3_layArcs wsX3_layArcs cX3_layArcs 5 none 1 3 := ⟨RX3, TX3, 11, _, rfl, gX3_solve_X3_layArcs, rfl, hdX3_layArcs⟩
theorem ckX3_solve_X3_layKnots_44 : CkV wsX3_solve RX3 44 yX3_layKnots wsX3_layKnots cX3_layKnots 5 none 1 3 := ⟨RX3, TX3, 11, _, rfl, gX3_solve_X3_layKnots, rfl, hdX3_layKnots⟩
theorem ckX3_solve_X3_reckonGains_58 : CkV wsX3_solve RX3 58 yX3_reckonGains wsX3_reckonGains cX3_reckonGains 4 none 0 3 := ⟨RX3, TX3, 11, _, rfl, gX3_solve_X3_reckonGains, rfl, hdX3_reckonGains⟩
theorem ckX3_solve_X3_sendFrom_65 : CkV wsX3_solve RX3 65 yX3_sendFrom wsX3_sendFrom cX3_sendFrom 6 none 1 3 := ⟨RX3, TX3, 11, _, rfl, gX3_solve_X3_sendFrom, rfl, hdX3_sendFrom⟩
variable {p : Program} {l : Launch} {e : Env} {s : State} {m : MethodId} {args : Array Value} {below : List Frame} {meth : Method} {c : Code} {A : Nat → Prop} {G : Gt} {a_plan a_plan_start a_plan_end a_plan_cost a_plan_room a_plan_idle a_plan_unmet a_plan_gain a_plan_way a_od a_od_weeks a_od_weeks_a a_od_routes a_od_routes_a a_od_boxes a_od_words a_od_offers a_od_wants a_od_leaves a_od_leases a_od_uses : Nat} {o_today : Int32} {o_lack : Int32} {o_rate : Int32} {o_free : Int32} {o_weeks_r : Int32} {o_weeks_f : (Nat → Int32)} {o_routes_r : Int32} {o_routes_f : (Nat → Int32)} {res : Int32 × Int32 × Int32 × (Nat → Int32) × (Nat → Int32) × (Nat → Int32) × (Nat → Int32) × (Nat → Int32) × (Nat → Int32) × (Nat → Int32) × (Nat → Int32)}
set_option maxHeartbeats 4000000 in
set_option maxRecDepth 100000 in
theorem tX3_solve_19 (X : Bx p s m args meth c cX3_solve 4 wsX3_solve RX3 none) (pl_arcs : Int32) (pl_lack : Int32) (pl_start : (Nat → Int32)) (pl_end : (Nat → Int32)) (pl_cost : (Nat → Int32))   : ∀ (n : Nat) (v2 : Int32) (pl_least : Int32) (pl_room : (Nat → Int32)) (pl_idle : (Nat → Int32)) (pl_unmet : (Nat → Int32)) (pl_gain : (Nat → Int32)) (pl_way : (Nat → Int32)), fX3_solve_19 pl_arcs pl_lack pl_start pl_end pl_cost n v2 pl_least pl_room pl_idle pl_unmet pl_gain pl_way = some res → ∀ (H : Heap) (locs : List Loc), Wo G A s (wX3_solve G a_plan a_plan_start a_plan_end a_plan_cost a_plan_room a_plan_idle a_plan_unmet a_plan_gain a_plan_way a_od a_od_weeks a_od_weeks_a a_od_routes a_od_routes_a a_od_boxes a_od_words a_od_offers a_od_wants a_od_leaves a_od_leases a_od_uses pl_arcs pl_lack pl_least pl_start pl_end pl_cost pl_room pl_idle pl_unmet pl_gain pl_way o_today o_lack o_rate o_free o_weeks_r o_weeks_f o_routes_r o_routes_f) H locs → ∀ ls : Array Slot, lv_has ls 4 [(0, .ref a_plan), (2, .int v2)] → W p l e rmX3_solve s m args below meth c H locs 0 0 (QV G A below args s (wX3_solve G a_plan a_plan_start a_plan_end a_plan_cost a_plan_room a_plan_idle a_plan_unmet a_plan_gain a_plan_way a_od a_od_weeks a_od_weeks_a a_od_routes a_od_routes_a a_od_boxes a_od_words a_od_offers a_od_wants a_od_leaves a_od_leases a_od_uses res.1 res.2.1 res.2.2.1 res.2.2.2.1 res.2.2.2.2.1 res.2.2.2.2.2.1 res.2.2.2.2.2.2.1 res.2.2.2.2.2.2.2.1 res.2.2.2.2.2.2.2.2.1 res.2.2.2.2.2.2.2.2.2.1 res.2.2.2.2.2.2.2.2.2.2 o_today o_lack o_rate o_free o_weeks_r o_weeks_f o_routes_r o_routes_f)) (F0 m 19 ls []) := by
  obtain ⟨hx, hb, -⟩ := id X.1
  intro n
  induction n with
  | zero => intro v2 pl_least pl_room pl_idle pl_unmet pl_gain pl_way h; rw [fX3_solve_19] at h; cases h
  | succ n ih =>
    intro v2 pl_least pl_room pl_idle pl_unmet pl_gain pl_way h H locs hW ls hl
    rw [fX3_solve_19] at h
    refine lv_iload_n hx hb dX3_solve_19 rfl (lv_at hl 1 rfl) ?_
    refine lv_sipush hx hb dX3_solve_20 qS_271 ?_
    refine lv_icmp_ge (tgt := 53) hx hb dX3_solve_23 (by decide) (fun c3 => ?_) (fun c3 => ?_)
    · have h := (if_pos c3).symm.trans h
      obtain rfl := Option.some.inj h
      exact g_vret X hW dX3_solve_53
    · have h := (if_neg c3).symm.trans h
      refine lv_aload_n hx hb dX3_solve_26 rfl (lv_at hl 0 rfl) ?_
      obtain ⟨r6, hq, h⟩ := bn1_some h
      refine g_cvi X hW (As := []) (ws' := (wX3_solve G a_plan a_plan_start a_plan_end a_plan_cost a_plan_room a_plan_idle a_plan_unmet a_plan_gain a_plan_way a_od a_od_weeks a_od_weeks_a a_od_routes a_od_routes_a a_od_boxes a_od_words a_od_offers a_od_wants a_od_leaves a_od_leases a_od_uses pl_arcs pl_lack pl_least pl_start pl_end pl_cost pl_room pl_idle pl_unmet pl_gain pl_way o_today o_lack o_rate o_free o_weeks_r o_weeks_f o_routes_r o_routes_f)) ckX3_solve_X3_knotToSend_61 (kcX3_knotToSend (l := l) G a_plan a_plan_idle a_plan_gain a_plan_start a_plan_end a_plan_cost a_plan_room a_plan_unmet a_plan_way pl_arcs pl_lack pl_least pl_idle pl_gain hq) ⟨rfl, rfl, Nat.le_of_ble_eq_true rfl, Nat.le_of_ble_eq_true rfl⟩ [0, 5, 7] rfl rfl rfl rfl rfl rfl rfl hl.1 (Nat.le_of_ble_eq_true rfl) ⟨Nat.zero_le _, Nat.zero_le _⟩ dX3_solve_27 (fun H locs hW => ?_)
      refine lv_istore_n (lv' := [(3, .int r6), (0, .ref a_plan), (2, .int v2)]) hx hb dX3_solve_30 rfl hl (by decide) rfl (fun ls hl => ?_)
      refine lv_iload_n hx hb dX3_solve_31 rfl (lv_at hl 0 rfl) ?_
      refine lv_if_ge (tgt := 38) hx hb dX3_solve_32 (by decide) (fun c9 => ?_) (fun c9 => ?_)
      · have h := (if_pos c9).symm.trans h
        refine lv_aload_n hx hb dX3_solve_38 rfl (lv_at hl 1 rfl) ?_
        refine lv_iload_n hx hb dX3_solve_39 rfl (lv_at hl 0 rfl) ?_
        obtain ⟨o12_pl_least, o12_pl_room, o12_pl_idle, o12_pl_unmet, hq, h⟩ := bn4_some h
        refine g_cvv X hW (As := [.int r6]) (ws' := (wX3_solve G a_plan a_plan_start a_plan_end a_plan_cost a_plan_room a_plan_idle a_plan_unmet a_plan_gain a_plan_way a_od a_od_weeks a_od_weeks_a a_od_routes a_od_routes_a a_od_boxes a_od_words a_od_offers a_od_wants a_od_leaves a_od_leases a_od_uses pl_arcs pl_lack o12_pl_least pl_start pl_end pl_cost o12_pl_room o12_pl_idle o12_pl_unmet pl_gain pl_way o_today o_lack o_rate o_free o_weeks_r o_weeks_f o_routes_r o_routes_f)) ckX3_solve_X3_sendFrom_65 (kcX3_sendFrom (l := l) G a_plan a_plan_end a_plan_room a_plan_idle a_plan_unmet a_plan_gain a_plan_way a_plan_start a_plan_cost r6 pl_arcs pl_lack pl_least pl_end pl_room pl_idle pl_unmet pl_gain pl_way hq) ⟨rfl, rfl, Nat.le_of_ble_eq_true rfl, Nat.le_of_ble_eq_true rfl⟩ [0, 2, 4, 5, 6, 7, 8] rfl rfl rfl rfl rfl rfl rfl hl.1 (Nat.le_of_ble_eq_true rfl) ⟨Nat.zero_le _, Nat.zero_le _⟩ dX3_solve_40 (fun H locs hW => ?_)
        refine lv_aload_n hx hb dX3_solve_43 rfl (lv_at hl 1 rfl) ?_
        obtain ⟨o14_pl_gain, o14_pl_way, hq, h⟩ := bn2_some h
        refine g_cvv X hW (As := []) (ws' := (wX3_solve G a_plan a_plan_start a_plan_end a_plan_cost a_plan_room a_plan_idle a_plan_unmet a_plan_gain a_plan_way a_od a_od_weeks a_od_weeks_a a_od_routes a_od_routes_a a_od_boxes a_od_words a_od_offers a_od_wants a_od_leaves a_od_leases a_od_uses pl_arcs pl_lack o12_pl_least pl_start pl_end pl_cost o12_pl_room o12_pl_idle o12_pl_unmet o14_pl_gain o14_pl_way o_today o_lack o_rate o_free o_weeks_r o_weeks_f o_routes_r o_routes_f)) ckX3_solve_X3_reckonGains_58 (kcX3_reckonGains (l := l) G a_plan a_plan_start a_plan_end a_plan_cost a_plan_room a_plan_unmet a_plan_gain a_plan_way a_plan_idle pl_arcs pl_lack o12_pl_least pl_start pl_end pl_cost o12_pl_room o12_pl_unmet pl_gain pl_way hq) ⟨rfl, rfl, Nat.le_of_ble_eq_true rfl, Nat.le_of_ble_eq_true rfl⟩ [0, 1, 2, 3, 4, 6, 7, 8] rfl rfl rfl rfl rfl rfl rfl hl.1 (Nat.le_of_ble_eq_true rfl) ⟨Nat.zero_le _, Nat.zero_le _⟩ dX3_solve_44 (fun H locs hW => ?_)
        refine lv_iinc (v := (v2 + (1 : Int32))) (lv' := [(2, .int (v2 + (1 : Int32))), (3, .int r6), (0, .ref a_plan)]) hx hb dX3_solve_47 hl (k := 2) rfl (congrArg (fun z => v2 + z) qI_1) (by decide) rfl (fun ls hl => ?_)
        refine lv_goto (tgt := 19) hx hb dX3_solve_50 (by decide) ?_
        exact ih (v2 + (1 : Int32)) o12_pl_least o12_pl_room o12_pl_idle o12_pl_unmet o14_pl_gain o14_pl_way h H locs hW ls (lv_sub hl [2, 0] rfl)
      · have h := (if_neg c9).symm.trans h
        refine lv_goto (tgt := 53) hx hb dX3_solve_35 (by decide) ?_
        obtain rfl := Option.some.inj h
        exact g_vret X hW dX3_solve_53
set_option maxHeartbeats 4000000 in
set_option maxRecDepth 100000 in
theorem k0X3_solve {l : Launch} (G : Gt) (a_plan a_plan_start a_plan_end a_plan_cost a_plan_room a_plan_idle a_plan_unmet a_plan_gain a_plan_way a_od a_od_weeks a_od_weeks_a a_od_routes a_od_routes_a a_od_boxes a_od_words a_od_offers a_od_wants a_od_leaves a_od_leases a_od_uses : Nat)  (pl_arcs : Int32) (pl_lack : Int32) (pl_least : Int32) (pl_start : (Nat → Int32)) (pl_end : (Nat → Int32)) (pl_cost : (Nat → Int32)) (pl_room : (Nat → Int32)) (pl_idle : (Nat → Int32)) (pl_unmet : (Nat → Int32)) (pl_gain : (Nat → Int32)) (pl_way : (Nat → Int32)) (o_today : Int32) (o_lack : Int32) (o_rate : Int32) (o_free : Int32) (o_weeks_r : Int32) (o_weeks_f : (Nat → Int32)) (o_routes_r : Int32) (o_routes_f : (Nat → Int32)) {res : Int32 × Int32 × Int32 × (Nat → Int32) × (Nat → Int32) × (Nat → Int32) × (Nat → Int32) × (Nat → Int32) × (Nat → Int32) × (Nat → Int32) × (Nat → Int32)} (h : fX3_solve pl_arcs pl_lack pl_least pl_start pl_end pl_cost pl_room pl_idle pl_unmet pl_gain pl_way o_lack o_weeks_r o_weeks_f o_routes_r o_routes_f = some res) : CtV G l yX3_solve wsX3_solve rmX3_solve [.ref a_plan, .ref a_od] (wX3_solve G a_plan a_plan_start a_plan_end a_plan_cost a_plan_room a_plan_idle a_plan_unmet a_plan_gain a_plan_way a_od a_od_weeks a_od_weeks_a a_od_routes a_od_routes_a a_od_boxes a_od_words a_od_offers a_od_wants a_od_leaves a_od_leases a_od_uses pl_arcs pl_lack pl_least pl_start pl_end pl_cost pl_room pl_idle pl_unmet pl_gain pl_way o_today o_lack o_rate o_free o_weeks_r o_weeks_f o_routes_r o_routes_f) (wX3_solve G a_plan a_plan_start a_plan_end a_plan_cost a_plan_room a_plan_idle a_plan_unmet a_plan_gain a_plan_way a_od a_od_weeks a_od_weeks_a a_od_routes a_od_routes_a a_od_boxes a_od_words a_od_offers a_od_wants a_od_leaves a_od_leases a_od_uses res.1 res.2.1 res.2.2.1 res.2.2.2.1 res.2.2.2.2.1 res.2.2.2.2.2.1 res.2.2.2.2.2.2.1 res.2.2.2.2.2.2.2.1 res.2.2.2.2.2.2.2.2.1 res.2.2.2.2.2.2.2.2.2.1 res.2.2.2.2.2.2.2.2.2.2 o_today o_lack o_rate o_free o_weeks_r o_weeks_f o_routes_r o_routes_f) := by
  refine CtV.mk (cc := cX3_solve) (maxL := 4) (ret := none) (own := RX3) (by decide) rfl rfl (Nat.le_of_ble_eq_true rfl) ?_
  intro p e s m below meth c A X ls hl hW
  obtain ⟨hx, hb, -⟩ := id X.1
  have hl : lv_has ls 4 [(0, .ref a_plan), (1, .ref a_od)] := hl
  generalize hH : s.heap = H at hW ⊢
  generalize hLo : ([] : List Loc) = locs at hW ⊢
  rw [fX3_solve] at h
  refine lv_aload_n hx hb dX3_solve_0 rfl (lv_at hl 0 rfl) ?_
  refine lv_aload_n hx hb dX3_solve_1 rfl (lv_at hl 1 rfl) ?_
  obtain ⟨o21_pl_lack, o21_pl_least, o21_pl_idle, o21_pl_unmet, hq, h⟩ := bn4_some h
  refine g_cvv X hW (As := [.ref a_od]) (ws' := (wX3_solve G a_plan a_plan_start a_plan_end a_plan_cost a_plan_room a_plan_idle a_plan_unmet a_plan_gain a_plan_way a_od a_od_weeks a_od_weeks_a a_od_routes a_od_routes_a a_od_boxes a_od_words a_od_offers a_od_wants a_od_leaves a_od_leases a_od_uses pl_arcs o21_pl_lack o21_pl_least pl_start pl_end pl_cost pl_room o21_pl_idle o21_pl_unmet pl_gain pl_way o_today o_lack o_rate o_free o_weeks_r o_weeks_f o_routes_r o_routes_f)) ckX3_solve_X3_layKnots_44 (kcX3_layKnots (l := l) G a_plan a_plan_idle a_plan_unmet a_od a_od_weeks a_od_weeks_a a_plan_start a_plan_end a_plan_cost a_plan_room a_plan_gain a_plan_way a_od_boxes a_od_words a_od_routes a_od_offers a_od_wants a_od_leaves a_od_leases a_od_uses pl_arcs pl_lack pl_least pl_idle pl_unmet o_today o_lack o_rate o_free o_weeks_r o_weeks_f hq) ⟨rfl, rfl, Nat.le_of_ble_eq_true rfl, Nat.le_of_ble_eq_true rfl⟩ [0, 5, 6, 9, 10, 11] rfl rfl rfl rfl rfl rfl rfl hl.1 (Nat.le_of_ble_eq_true rfl) ⟨Nat.zero_le _, Nat.zero_le _⟩ dX3_solve_2 (fun H locs hW => ?_)
  refine lv_aload_n hx hb dX3_solve_5 rfl (lv_at hl 0 rfl) ?_
  refine lv_aload_n hx hb dX3_solve_6 rfl (lv_at hl 1 rfl) ?_
  refine g_get X hW eX3_solve_48 9 rfl rfl dX3_solve_7 ?_
  obtain ⟨o25_pl_arcs, o25_pl_start, o25_pl_end, o25_pl_cost, o25_pl_room, hq, h⟩ := bn5_some h
  refine g_cvv X hW (As := [.ref a_od_routes]) (ws' := (wX3_solve G a_plan a_plan_start a_plan_end a_plan_cost a_plan_room a_plan_idle a_plan_unmet a_plan_gain a_plan_way a_od a_od_weeks a_od_weeks_a a_od_routes a_od_routes_a a_od_boxes a_od_words a_od_offers a_od_wants a_od_leaves a_od_leases a_od_uses o25_pl_arcs o21_pl_lack o21_pl_least o25_pl_start o25_pl_end o25_pl_cost o25_pl_room o21_pl_idle o21_pl_unmet pl_gain pl_way o_today o_lack o_rate o_free o_weeks_r o_weeks_f o_routes_r o_routes_f)) ckX3_solve_X3_layArcs_54 (kcX3_layArcs (l := l) G a_plan a_plan_start a_plan_end a_plan_cost a_plan_room a_od_routes a_od_routes_a a_plan_idle a_plan_unmet a_plan_gain a_plan_way pl_arcs o21_pl_lack o21_pl_least pl_start pl_end pl_cost pl_room o_routes_r o_routes_f hq) ⟨rfl, rfl, Nat.le_of_ble_eq_true rfl, Nat.le_of_ble_eq_true rfl⟩ [0, 1, 2, 3, 4, 12, 13] rfl rfl rfl rfl rfl rfl rfl hl.1 (Nat.le_of_ble_eq_true rfl) ⟨Nat.zero_le _, Nat.zero_le _⟩ dX3_solve_10 (fun H locs hW => ?_)
  refine lv_aload_n hx hb dX3_solve_13 rfl (lv_at hl 0 rfl) ?_
  obtain ⟨o27_pl_gain, o27_pl_way, hq, h⟩ := bn2_some h
  refine g_cvv X hW (As := []) (ws' := (wX3_solve G a_plan a_plan_start a_plan_end a_plan_cost a_plan_room a_plan_idle a_plan_unmet a_plan_gain a_plan_way a_od a_od_weeks a_od_weeks_a a_od_routes a_od_routes_a a_od_boxes a_od_words a_od_offers a_od_wants a_od_leaves a_od_leases a_od_uses o25_pl_arcs o21_pl_lack o21_pl_least o25_pl_start o25_pl_end o25_pl_cost o25_pl_room o21_pl_idle o21_pl_unmet o27_pl_gain o27_pl_way o_today o_lack o_rate o_free o_weeks_r o_weeks_f o_routes_r o_routes_f)) ckX3_solve_X3_reckonGains_58 (kcX3_reckonGains (l := l) G a_plan a_plan_start a_plan_end a_plan_cost a_plan_room a_plan_unmet a_plan_gain a_plan_way a_plan_idle o25_pl_arcs o21_pl_lack o21_pl_least o25_pl_start o25_pl_end o25_pl_cost o25_pl_room o21_pl_unmet pl_gain pl_way hq) ⟨rfl, rfl, Nat.le_of_ble_eq_true rfl, Nat.le_of_ble_eq_true rfl⟩ [0, 1, 2, 3, 4, 6, 7, 8] rfl rfl rfl rfl rfl rfl rfl hl.1 (Nat.le_of_ble_eq_true rfl) ⟨Nat.zero_le _, Nat.zero_le _⟩ dX3_solve_14 (fun H locs hW => ?_)
  refine lv_iconst hx hb dX3_solve_17 qI_0 ?_
  refine lv_istore_n (lv' := [(2, .int (0 : Int32)), (0, .ref a_plan), (1, .ref a_od)]) hx hb dX3_solve_18 rfl hl (by decide) rfl (fun ls hl => ?_)
  exact tX3_solve_19 X o25_pl_arcs o21_pl_lack o25_pl_start o25_pl_end o25_pl_cost FU (0 : Int32) o21_pl_least o25_pl_room o21_pl_idle o21_pl_unmet o27_pl_gain o27_pl_way h H locs hW ls (lv_sub hl [1, 0] rfl)
theorem kcX3_solve {l : Launch} (G : Gt) (a_plan a_plan_start a_plan_end a_plan_cost a_plan_room a_plan_idle a_plan_unmet a_plan_gain a_plan_way a_od a_od_weeks a_od_weeks_a a_od_routes a_od_routes_a a_od_boxes a_od_words a_od_offers a_od_wants a_od_leaves a_od_leases a_od_uses : Nat)  (pl_arcs : Int32) (pl_lack : Int32) (pl_least : Int32) (pl_start : (Nat → Int32)) (pl_end : (Nat → Int32)) (pl_cost : (Nat → Int32)) (pl_room : (Nat → Int32)) (pl_idle : (Nat → Int32)) (pl_unmet : (Nat → Int32)) (pl_gain : (Nat → Int32)) (pl_way : (Nat → Int32)) (o_today : Int32) (o_lack : Int32) (o_rate : Int32) (o_free : Int32) (o_weeks_r : Int32) (o_weeks_f : (Nat → Int32)) (o_routes_r : Int32) (o_routes_f : (Nat → Int32))  {z_pl_arcs : Int32} {z_pl_lack : Int32} {z_pl_least : Int32} {z_pl_start : (Nat → Int32)} {z_pl_end : (Nat → Int32)} {z_pl_cost : (Nat → Int32)} {z_pl_room : (Nat → Int32)} {z_pl_idle : (Nat → Int32)} {z_pl_unmet : (Nat → Int32)} {z_pl_gain : (Nat → Int32)} {z_pl_way : (Nat → Int32)} (h : fX3_solve pl_arcs pl_lack pl_least pl_start pl_end pl_cost pl_room pl_idle pl_unmet pl_gain pl_way o_lack o_weeks_r o_weeks_f o_routes_r o_routes_f = some (z_pl_arcs, z_pl_lack, z_pl_least, z_pl_start, z_pl_end, z_pl_cost, z_pl_room, z_pl_idle, z_pl_unmet, z_pl_gain, z_pl_way)) : CtV G l yX3_solve wsX3_solve rmX3_solve [.ref a_plan, .ref a_od] (wX3_solve G a_plan a_plan_start a_plan_end a_plan_cost a_plan_room a_plan_idle a_plan_unmet a_plan_gain a_plan_way a_od a_od_weeks a_od_weeks_a a_od_routes a_od_routes_a a_od_boxes a_od_words a_od_offers a_od_wants a_od_leaves a_od_leases a_od_uses pl_arcs pl_lack pl_least pl_start pl_end pl_cost pl_room pl_idle pl_unmet pl_gain pl_way o_today o_lack o_rate o_free o_weeks_r o_weeks_f o_routes_r o_routes_f) (wX3_solve G a_plan a_plan_start a_plan_end a_plan_cost a_plan_room a_plan_idle a_plan_unmet a_plan_gain a_plan_way a_od a_od_weeks a_od_weeks_a a_od_routes a_od_routes_a a_od_boxes a_od_words a_od_offers a_od_wants a_od_leaves a_od_leases a_od_uses z_pl_arcs z_pl_lack z_pl_least z_pl_start z_pl_end z_pl_cost z_pl_room z_pl_idle z_pl_unmet z_pl_gain z_pl_way o_today o_lack o_rate o_free o_weeks_r o_weeks_f o_routes_r o_routes_f) := k0X3_solve G a_plan a_plan_start a_plan_end a_plan_cost a_plan_room a_plan_idle a_plan_unmet a_plan_gain a_plan_way a_od a_od_weeks a_od_weeks_a a_od_routes a_od_routes_a a_od_boxes a_od_words a_od_offers a_od_wants a_od_leaves a_od_leases a_od_uses pl_arcs pl_lack pl_least pl_start pl_end pl_cost pl_room pl_idle pl_unmet pl_gain pl_way o_today o_lack o_rate o_free o_weeks_r o_weeks_f o_routes_r o_routes_f h
end MX3_solve
