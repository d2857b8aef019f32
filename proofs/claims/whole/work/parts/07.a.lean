theorem qB_10 : (Int8.ofInt (10)).toInt32 = (10 : Int32) := by decide
theorem qB_100 : (Int8.ofInt (100)).toInt32 = (100 : Int32) := by decide
theorem qB_11 : (Int8.ofInt (11)).toInt32 = (11 : Int32) := by decide
theorem qB_120 : (Int8.ofInt (120)).toInt32 = (120 : Int32) := by decide
theorem qB_122 : (Int8.ofInt (122)).toInt32 = (122 : Int32) := by decide
theorem qB_15 : (Int8.ofInt (15)).toInt32 = (15 : Int32) := by decide
theorem qB_16 : (Int8.ofInt (16)).toInt32 = (16 : Int32) := by decide
theorem qB_17 : (Int8.ofInt (17)).toInt32 = (17 : Int32) := by decide
theorem qB_19 : (Int8.ofInt (19)).toInt32 = (19 : Int32) := by decide
theorem qB_20 : (Int8.ofInt (20)).toInt32 = (20 : Int32) := by decide
theorem qB_24 : (Int8.ofInt (24)).toInt32 = (24 : Int32) := by decide
theorem qB_25 : (Int8.ofInt (25)).toInt32 = (25 : Int32) := by decide
theorem qB_27 : (Int8.ofInt (27)).toInt32 = (27 : Int32) := by decide
theorem qB_29 : (Int8.ofInt (29)).toInt32 = (29 : Int32) := by decide
theorem qB_30 : (Int8.ofInt (30)).toInt32 = (30 : Int32) := by decide
theorem qB_31 : (Int8.ofInt (31)).toInt32 = (31 : Int32) := by decide
theorem qB_32 : (Int8.ofInt (32)).toInt32 = (32 : Int32) := by decide
theorem qB_35 : (Int8.ofInt (35)).toInt32 = (35 : Int32) := by decide
theorem qB_40 : (Int8.ofInt (40)).toInt32 = (40 : Int32) := by decide
theorem qB_48 : (Int8.ofInt (48)).toInt32 = (48 : Int32) := by decide
theorem qB_50 : (Int8.ofInt (50)).toInt32 = (50 : Int32) := by decide
theorem qB_51 : (Int8.ofInt (51)).toInt32 = (51 : Int32) := by decide
theorem qB_57 : (Int8.ofInt (57)).toInt32 = (57 : Int32) := by decide
theorem qB_59 : (Int8.ofInt (59)).toInt32 = (59 : Int32) := by decide
theorem qB_6 : (Int8.ofInt (6)).toInt32 = (6 : Int32) := by decide
theorem qB_60 : (Int8.ofInt (60)).toInt32 = (60 : Int32) := by decide
theorem qB_68 : (Int8.ofInt (68)).toInt32 = (68 : Int32) := by decide
theorem qB_7 : (Int8.ofInt (7)).toInt32 = (7 : Int32) := by decide
theorem qB_70 : (Int8.ofInt (70)).toInt32 = (70 : Int32) := by decide
theorem qB_8 : (Int8.ofInt (8)).toInt32 = (8 : Int32) := by decide
theorem qB_9 : (Int8.ofInt (9)).toInt32 = (9 : Int32) := by decide
theorem qB_96 : (Int8.ofInt (96)).toInt32 = (96 : Int32) := by decide
theorem qB_97 : (Int8.ofInt (97)).toInt32 = (97 : Int32) := by decide
theorem qB_m100 : (Int8.ofInt (-100)).toInt32 = (-100 : Int32) := by decide
theorem qB_m2 : (Int8.ofInt (-2)).toInt32 = (-2 : Int32) := by decide
theorem qB_m3 : (Int8.ofInt (-3)).toInt32 = (-3 : Int32) := by decide
theorem qB_m4 : (Int8.ofInt (-4)).toInt32 = (-4 : Int32) := by decide
theorem qI_0 : Int32.ofInt (0) = (0 : Int32) := by decide
theorem qI_1 : Int32.ofInt (1) = (1 : Int32) := by decide
theorem qI_2 : Int32.ofInt (2) = (2 : Int32) := by decide
theorem qI_3 : Int32.ofInt (3) = (3 : Int32) := by decide
theorem qI_4 : Int32.ofInt (4) = (4 : Int32) := by decide
theorem qI_5 : Int32.ofInt (5) = (5 : Int32) := by decide
theorem qI_m1 : Int32.ofInt (-1) = (-1 : Int32) := by decide
theorem qS_1000 : (Int16.ofInt (1000)).toInt32 = (1000 : Int32) := by decide
theorem qS_10000 : (Int16.ofInt (10000)).toInt32 = (10000 : Int32) := by decide
theorem qS_128 : (Int16.ofInt (128)).toInt32 = (128 : Int32) := by decide
theorem qS_148 : (Int16.ofInt (148)).toInt32 = (148 : Int32) := by decide
theorem qS_200 : (Int16.ofInt (200)).toInt32 = (200 : Int32) := by decide
theorem qS_201 : (Int16.ofInt (201)).toInt32 = (201 : Int32) := by decide
theorem qS_216 : (Int16.ofInt (216)).toInt32 = (216 : Int32) := by decide
theorem qS_240 : (Int16.ofInt (240)).toInt32 = (240 : Int32) := by decide
theorem qS_255 : (Int16.ofInt (255)).toInt32 = (255 : Int32) := by decide
theorem qS_271 : (Int16.ofInt (271)).toInt32 = (271 : Int32) := by decide
theorem qS_300 : (Int16.ofInt (300)).toInt32 = (300 : Int32) := by decide
theorem qS_500 : (Int16.ofInt (500)).toInt32 = (500 : Int32) := by decide
theorem qS_999 : (Int16.ofInt (999)).toInt32 = (999 : Int32) := by decide
theorem qS_9999 : (Int16.ofInt (9999)).toInt32 = (9999 : Int32) := by decide
/-! EmptyBoxes.isWithin -/
section MX6_isWithin
theorem hdX6_isWithin : yX6_isWithin.cls = RX6 ∧ yX6_isWithin.cls ≠ "java/lang/invoke/MethodHandle" ∧ yX6_isWithin.cls ≠ "java/lang/invoke/VarHandle" ∧ (parseMethodDescriptor yX6_isWithin.desc).map (fun d => d.parameters.length) = some 3 := by decide +kernel
abbrev rmX6_isWithin : Room := { frames := 0, cells := 0, slots := 0, locals := 0 }
variable {p : Program} {l : Launch} {e : Env} {s : State} {m : MethodId} {args : Array Value} {below : List Frame} {meth : Method} {c : Code} {A : Nat → Prop} {G : Gt} {res : Int32}
set_option maxHeartbeats 4000000 in
set_option maxRecDepth 100000 in
theorem k0X6_isWithin {l : Launch} (G : Gt) (v0 : Int32) (v1 : Int32) (v2 : Int32)  {res : Int32} (h : fX6_isWithin v0 v1 v2 = some res) : CtI G l yX6_isWithin wsX6_isWithin rmX6_isWithin [.int v0, .int v1, .int v2] ([] : va_W) res ([] : va_W) := by
  refine CtI.mk (cc := cX6_isWithin) (maxL := 3) (ret := (some .boolean)) (own := RX6) (by decide) rfl rfl (Nat.le_of_ble_eq_true rfl) ?_
  intro p e s m below meth c A X ls hl hW
  obtain ⟨hx, hb, -⟩ := id X.1
  have hl : lv_has ls 3 [(0, .int v0), (1, .int v1), (2, .int v2)] := hl
  generalize hH : s.heap = H at hW ⊢
  generalize hLo : ([] : List Loc) = locs at hW ⊢
  rw [fX6_isWithin] at h
  refine lv_iload_n hx hb dX6_isWithin_0 rfl (lv_at hl 0 rfl) ?_
  refine lv_iload_n hx hb dX6_isWithin_1 rfl (lv_at hl 1 rfl) ?_
  refine lv_icmp_lt (tgt := 14) hx hb dX6_isWithin_2 (by decide) (fun c3 => ?_) (fun c3 => ?_)
  · have h := (if_pos c3).symm.trans h
    refine lv_iconst hx hb dX6_isWithin_14 qI_0 ?_
    obtain rfl := Option.some.inj h
    exact g_zret X hW rfl dX6_isWithin_15
  · have h := (if_neg c3).symm.trans h
    refine lv_iload_n hx hb dX6_isWithin_5 rfl (lv_at hl 0 rfl) ?_
    refine lv_iload_n hx hb dX6_isWithin_6 rfl (lv_at hl 2 rfl) ?_
    refine lv_icmp_gt (tgt := 14) hx hb dX6_isWithin_7 (by decide) (fun c8 => ?_) (fun c8 => ?_)
    · have h := (if_pos c8).symm.trans h
      refine lv_iconst hx hb dX6_isWithin_14 qI_0 ?_
      obtain rfl := Option.some.inj h
      exact g_zret X hW rfl dX6_isWithin_15
    · have h := (if_neg c8).symm.trans h
      refine lv_iconst hx hb dX6_isWithin_10 qI_1 ?_
      refine lv_goto (tgt := 15) hx hb dX6_isWithin_11 (by decide) ?_
      obtain rfl := Option.some.inj h
      exact g_zret X hW rfl dX6_isWithin_15
theorem kcX6_isWithin {l : Launch} (G : Gt) (v0 : Int32) (v1 : Int32) (v2 : Int32)  {r : Int32}  (h : fX6_isWithin v0 v1 v2 = some r) : CtI G l yX6_isWithin wsX6_isWithin rmX6_isWithin [.int v0, .int v1, .int v2] ([] : va_W) r ([] : va_W) := k0X6_isWithin G v0 v1 v2 h
end MX6_isWithin
/-! EmptyBoxes.isPlace -/
section MX6_isPlace
theorem hdX6_isPlace : yX6_isPlace.cls = RX6 ∧ yX6_isPlace.cls ≠ "java/lang/invoke/MethodHandle" ∧ yX6_isPlace.cls ≠ "java/lang/invoke/VarHandle" ∧ (parseMethodDescriptor yX6_isPlace.desc).map (fun d => d.parameters.length) = some 1 := by decide +kernel
abbrev rmX6_isPlace : Room := { frames := 1, cells := 0, slots := 0, locals := 22 }
theorem ckX6_isPlace_X6_isWithin_54 : CkS wsX6_isPlace RX6 54 yX6_isWithin wsX6_isWithin cX6_isWithin 3 (some .boolean) 3 := ⟨_, gX6_isPlace_X6_isWithin, rfl, hdX6_isWithin.2⟩
variable {p : Program} {l : Launch} {e : Env} {s : State} {m : MethodId} {args : Array Value} {below : List Frame} {meth : Method} {c : Code} {A : Nat → Prop} {G : Gt} {res : Int32}
set_option maxHeartbeats 4000000 in
set_option maxRecDepth 100000 in
theorem k0X6_isPlace {l : Launch} (G : Gt) (v0 : Int32)  {res : Int32} (h : fX6_isPlace v0 = some res) : CtI G l yX6_isPlace wsX6_isPlace rmX6_isPlace [.int v0] ([] : va_W) res ([] : va_W) := by
  refine CtI.mk (cc := cX6_isPlace) (maxL := 1) (ret := (some .boolean)) (own := RX6) (by decide) rfl rfl (Nat.le_of_ble_eq_true rfl) ?_
  intro p e s m below meth c A X ls hl hW
  obtain ⟨hx, hb, -⟩ := id X.1
  have hl : lv_has ls 1 [(0, .int v0)] := hl
  generalize hH : s.heap = H at hW ⊢
  generalize hLo : ([] : List Loc) = locs at hW ⊢
  rw [fX6_isPlace] at h
  refine lv_iload_n hx hb dX6_isPlace_0 rfl (lv_at hl 0 rfl) ?_
  refine lv_iconst hx hb dX6_isPlace_1 qI_0 ?_
  refine lv_iconst hx hb dX6_isPlace_2 qI_5 ?_
  obtain ⟨r4, hq, h⟩ := bn1_some h
  refine g_csi X hW (As := [.int v0, .int (0 : Int32), .int (5 : Int32)]) (ws' := ([] : va_W)) ckX6_isPlace_X6_isWithin_54 (kcX6_isWithin (l := l) G v0 (0 : Int32) (5 : Int32) hq) ⟨rfl, rfl, Nat.le_of_ble_eq_true rfl, Nat.le_of_ble_eq_true rfl⟩ [] rfl rfl rfl rfl rfl rfl hl.1 (Nat.le_of_ble_eq_true rfl) ⟨Nat.zero_le _, Nat.zero_le _⟩ dX6_isPlace_3 (fun H locs hW => ?_)
  obtain ⟨g5, h⟩ := gd_some h
  obtain rfl := Option.some.inj h
  exact g_zret X hW g5 dX6_isPlace_6
theorem kcX6_isPlace {l : Launch} (G : Gt) (v0 : Int32)  {r : Int32}  (h : fX6_isPlace v0 = some r) : CtI G l yX6_isPlace wsX6_isPlace rmX6_isPlace [.int v0] ([] : va_W) r ([] : va_W) := k0X6_isPlace G v0 h
end MX6_isPlace
/-! EmptyBoxes.knotOf -/
section MX6_knotOf
theorem hdX6_knotOf : yX6_knotOf.cls = RX6 ∧ yX6_knotOf.cls ≠ "java/lang/invoke/MethodHandle" ∧ yX6_knotOf.cls ≠ "java/lang/invoke/VarHandle" ∧ (parseMethodDescriptor yX6_knotOf.desc).map (fun d => d.parameters.length) = some 2 := by decide +kernel
abbrev rmX6_knotOf : Room := { frames := 0, cells := 0, slots := 0, locals := 0 }
variable {p : Program} {l : Launch} {e : Env} {s : State} {m : MethodId} {args : Array Value} {below : List Frame} {meth : Method} {c : Code} {A : Nat → Prop} {G : Gt} {res : Int32}
set_option maxHeartbeats 4000000 in
set_option maxRecDepth 100000 in
theorem k0X6_knotOf {l : Launch} (G : Gt) (v0 : Int32) (v1 : Int32)  {res : Int32} (h : fX6_knotOf v0 v1 = some res) : CtI G l yX6_knotOf wsX6_knotOf rmX6_knotOf [.int v0, .int v1] ([] : va_W) res ([] : va_W) := by
  refine CtI.mk (cc := cX6_knotOf) (maxL := 2) (ret := (some .int)) (own := RX6) (by decide) rfl rfl (Nat.le_of_ble_eq_true rfl) ?_
  intro p e s m below meth c A X ls hl hW
  obtain ⟨hx, hb, -⟩ := id X.1
  have hl : lv_has ls 2 [(0, .int v0), (1, .int v1)] := hl
  generalize hH : s.heap = H at hW ⊢
  generalize hLo : ([] : List Loc) = locs at hW ⊢
  rw [fX6_knotOf] at h
  refine lv_iload_n hx hb dX6_knotOf_0 rfl (lv_at hl 1 rfl) ?_
  refine lv_bipush hx hb dX6_knotOf_1 qB_6 ?_
  refine lv_imul hx hb dX6_knotOf_3 ?_
  refine lv_iload_n hx hb dX6_knotOf_4 rfl (lv_at hl 0 rfl) ?_
  refine lv_iadd hx hb dX6_knotOf_5 ?_
  obtain rfl := Option.some.inj h
  exact g_iret X hW dX6_knotOf_6
theorem kcX6_knotOf {l : Launch} (G : Gt) (v0 : Int32) (v1 : Int32)  {r : Int32}  (h : fX6_knotOf v0 v1 = some r) : CtI G l yX6_knotOf wsX6_knotOf rmX6_knotOf [.int v0, .int v1] ([] : va_W) r ([] : va_W) := k0X6_knotOf G v0 v1 h
end MX6_knotOf
/-! EmptyBoxes$Table.become -/
section MX4_become
theorem hdX4_become : yX4_become.cls = RX4 ∧ yX4_become.cls ≠ "java/lang/invoke/MethodHandle" ∧ yX4_become.cls ≠ "java/lang/invoke/VarHandle" ∧ (parseMethodDescriptor yX4_become.desc).map (fun d => d.parameters.length) = some 1 := by decide +kernel
abbrev wX4_become (G : Gt) (a_tb a_tb_a a_ob a_ob_a : Nat) (tb_c : Int32) (tb_m : Int32) (tb_r : Int32) (tb_n : Nat) (tb_f : (Nat → Int32)) (ob_c : Int32) (ob_m : Int32) (ob_r : Int32) (ob_n : Nat) (ob_f : (Nat → Int32)) : va_W := [(a_tb, .inr (4, [.ref a_tb_a, .int tb_c, .int tb_m, .int tb_r])), (a_tb_a, .inl (G.2.1, tb_n, .inl tb_f)), (a_ob, .inr (4, [.ref a_ob_a, .int ob_c, .int ob_m, .int ob_r])), (a_ob_a, .inl (G.2.1, ob_n, .inl ob_f))]
abbrev rmX4_become : Room := { frames := 1, cells := 0, slots := 0, locals := 26 }
theorem iX4_become_X4 : ∀ w ∈ wsX40, w ∈ wsX4_become := by decide +kernel
theorem eX4_become_15 : Fk wsX4_become RX4 15 4 2 := ⟨RX4, TX4, 4, rfl, iX4_become_X4, by decide, by decide +kernel⟩
theorem eX4_become_24 : Fk wsX4_become RX4 24 4 0 := ⟨RX4, TX4, 4, rfl, iX4_become_X4, by decide, by decide +kernel⟩
theorem eX4_become_28 : Fk wsX4_become RX4 28 4 3 := ⟨RX4, TX4, 4, rfl, iX4_become_X4, by decide, by decide +kernel⟩
theorem pX4_become_28 : Fp wsX4_become RX4 28 4 3 .int := ⟨RX4, TX4, 4, tyX4, rfl, iX4_become_X4, by decide, by decide +kernel, tyX4_ok, nmX4, rfl, by decide +kernel⟩
theorem cmX4_become_39 : CkM wsX4_become RX4 39 Lib.Math.min.name Lib.Math.min.code 2 := by decide +kernel
theorem cmX4_become_42 : CkC wsX4_become RX4 42 := by decide +kernel
variable {p : Program} {l : Launch} {e : Env} {s : State} {m : MethodId} {args : Array Value} {below : List Frame} {meth : Method} {c : Code} {A : Nat → Prop} {G : Gt} {a_tb a_tb_a a_ob a_ob_a : Nat} {tb_c : Int32} {tb_m : Int32} {tb_n : Nat} {ob_c : Int32} {ob_m : Int32} {ob_r : Int32} {ob_n : Nat} {ob_f : (Nat → Int32)} {res : Int32 × (Nat → Int32)}
set_option maxHeartbeats 4000000 in
set_option maxRecDepth 100000 in
theorem k0X4_become {l : Launch} (G : Gt) (a_tb a_tb_a a_ob a_ob_a : Nat)  (tb_c : Int32) (tb_m : Int32) (tb_r : Int32) (tb_n : Nat) (tb_f : (Nat → Int32)) (ob_c : Int32) (ob_m : Int32) (ob_r : Int32) (ob_n : Nat) (ob_f : (Nat → Int32)) {res : Int32 × (Nat → Int32)} (h : fX4_become tb_m tb_r tb_n tb_f ob_r ob_n ob_f = some res) : CtV G l yX4_become wsX4_become rmX4_become [.ref a_tb, .ref a_ob] (wX4_become G a_tb a_tb_a a_ob a_ob_a tb_c tb_m tb_r tb_n tb_f ob_c ob_m ob_r ob_n ob_f) (wX4_become G a_tb a_tb_a a_ob a_ob_a tb_c tb_m res.1 tb_n res.2 ob_c ob_m ob_r ob_n ob_f) := by
  refine CtV.mk (cc := cX4_become) (maxL := 2) (ret := none) (own := RX4) (by decide) rfl rfl (Nat.le_of_ble_eq_true rfl) ?_
  intro p e s m below meth c A X ls hl hW
  obtain ⟨hx, hb, -⟩ := id X.1
  have hl : lv_has ls 2 [(0, .ref a_tb), (1, .ref a_ob)] := hl
  generalize hH : s.heap = H at hW ⊢
  generalize hLo : ([] : List Loc) = locs at hW ⊢
  rw [fX4_become] at h
  refine lv_aload_n hx hb dX4_become_0 rfl (lv_at hl 0 rfl) ?_
  refine lv_aload_n hx hb dX4_become_1 rfl (lv_at hl 1 rfl) ?_
  refine g_get X hW eX4_become_28 2 rfl rfl dX4_become_2 ?_
  refine lv_aload_n hx hb dX4_become_5 rfl (lv_at hl 0 rfl) ?_
  refine g_get X hW eX4_become_15 0 rfl rfl dX4_become_6 ?_
  refine g_mmin X cmX4_become_39 hl.1 (Nat.le_of_ble_eq_true rfl) (Nat.le_of_ble_eq_true rfl) ⟨Nat.zero_le _, Nat.zero_le _⟩ dX4_become_9 ?_
  refine g_put X hW (ws' := (wX4_become G a_tb a_tb_a a_ob a_ob_a tb_c tb_m (imin ob_r tb_m) tb_n tb_f ob_c ob_m ob_r ob_n ob_f)) pX4_become_28 0 rfl (Nat.le_of_ble_eq_true rfl) rfl rfl rfl dX4_become_12 (fun H locs hW => ?_)
  refine lv_aload_n hx hb dX4_become_15 rfl (lv_at hl 1 rfl) ?_
  refine g_get X hW eX4_become_24 2 rfl rfl dX4_become_16 ?_
  refine lv_iconst hx hb dX4_become_19 qI_0 ?_
  refine lv_aload_n hx hb dX4_become_20 rfl (lv_at hl 0 rfl) ?_
  refine g_get X hW eX4_become_24 0 rfl rfl dX4_become_21 ?_
  refine lv_iconst hx hb dX4_become_24 qI_0 ?_
  refine lv_aload_n hx hb dX4_become_25 rfl (lv_at hl 0 rfl) ?_
  refine g_get X hW eX4_become_24 0 rfl rfl dX4_become_26 ?_
  refine g_alen X hW 1 rfl dX4_become_29 ?_
  refine lv_aload_n hx hb dX4_become_30 rfl (lv_at hl 1 rfl) ?_
  refine g_get X hW eX4_become_24 2 rfl rfl dX4_become_31 ?_
  refine g_alen X hW 3 rfl dX4_become_34 ?_
  refine g_mmin X cmX4_become_39 hl.1 (Nat.le_of_ble_eq_true rfl) (Nat.le_of_ble_eq_true rfl) ⟨Nat.zero_le _, Nat.zero_le _⟩ dX4_become_35 ?_
  obtain ⟨g21, h⟩ := gd_some h
  refine g_copy X hW (ws' := (wX4_become G a_tb a_tb_a a_ob a_ob_a tb_c tb_m (imin ob_r tb_m) tb_n (va_cpy ob_f tb_f (0 : Int32).toNatClampNeg (0 : Int32).toNatClampNeg (imin (nI tb_n) (nI ob_n)).toNatClampNeg) ob_c ob_m ob_r ob_n ob_f)) cmX4_become_42 hl.1 3 1 rfl rfl g21 rfl (Nat.le_of_ble_eq_true rfl) (Nat.le_of_ble_eq_true rfl) dX4_become_38 (fun H locs hW => ?_)
  obtain rfl := Option.some.inj h
  exact g_vret X hW dX4_become_41
theorem kcX4_become {l : Launch} (G : Gt) (a_tb a_tb_a a_ob a_ob_a : Nat)  (tb_c : Int32) (tb_m : Int32) (tb_r : Int32) (tb_n : Nat) (tb_f : (Nat → Int32)) (ob_c : Int32) (ob_m : Int32) (ob_r : Int32) (ob_n : Nat) (ob_f : (Nat → Int32))  {z_tb_r : Int32} {z_tb_f : (Nat → Int32)} (h : fX4_become tb_m tb_r tb_n tb_f ob_r ob_n ob_f = some (z_tb_r, z_tb_f)) : CtV G l yX4_become wsX4_become rmX4_become [.ref a_tb, .ref a_ob] (wX4_become G a_tb a_tb_a a_ob a_ob_a tb_c tb_m tb_r tb_n tb_f ob_c ob_m ob_r ob_n ob_f) (wX4_become G a_tb a_tb_a a_ob a_ob_a tb_c tb_m z_tb_r tb_n z_tb_f ob_c ob_m ob_r ob_n ob_f) := k0X4_become G a_tb a_tb_a a_ob a_ob_a tb_c tb_m tb_r tb_n tb_f ob_c ob_m ob_r ob_n ob_f h
end MX4_become
/-! EmptyBoxes$Desk.become -/
section MX0_become
theorem hdX0_become : yX0_become.cls = RX0 ∧ yX0_become.cls ≠ "java/lang/invoke/MethodHandle" ∧ yX0_become.cls ≠ "java/lang/invoke/VarHandle" ∧ (parseMethodDescriptor yX0_become.desc).map (fun d => d.parameters.length) = some 1 := by decide +kernel
abbrev wX0_become (G : Gt) (a_desk a_desk_boxes a_desk_boxes_a a_desk_words a_desk_words_a a_desk_weeks a_desk_weeks_a a_desk_routes a_desk_routes_a a_desk_offers a_desk_offers_a a_desk_wants a_desk_wants_a a_desk_leaves a_desk_leaves_a a_desk_leases a_desk_leases_a a_desk_uses a_desk_uses_a a_od a_od_boxes a_od_boxes_a a_od_words a_od_words_a a_od_weeks a_od_weeks_a a_od_routes a_od_routes_a a_od_offers a_od_offers_a a_od_wants a_od_wants_a a_od_leaves a_od_leaves_a a_od_leases a_od_leases_a a_od_uses a_od_uses_a : Nat) (today : Int32) (lack : Int32) (rate : Int32) (free : Int32) (boxes_r : Int32) (boxes_f : (Nat → Int32)) (words_r : Int32) (words_f : (Nat → Int32)) (weeks_r : Int32) (weeks_f : (Nat → Int32)) (routes_r : Int32) (routes_f : (Nat → Int32)) (offers_r : Int32) (offers_f : (Nat → Int32)) (wants_r : Int32) (wants_f : (Nat → Int32)) (leaves_r : Int32) (leaves_f : (Nat → Int32)) (leases_r : Int32) (leases_f : (Nat → Int32)) (uses_r : Int32) (uses_f : (Nat → Int32)) (o_today : Int32) (o_lack : Int32) (o_rate : Int32) (o_free : Int32) (o_boxes_r : Int32) (o_boxes_f : (Nat → Int32)) (o_words_r : Int32) (o_words_f : (Nat → Int32)) (o_weeks_r : Int32) (o_weeks_f : (Nat → Int32)) (o_routes_r : Int32) (o_routes_f : (Nat → Int32)) (o_offers_r : Int32) (o_offers_f : (Nat → Int32)) (o_wants_r : Int32) (o_wants_f : (Nat → Int32)) (o_leaves_r : Int32) (o_leaves_f : (Nat → Int32)) (o_leases_r : Int32) (o_leases_f : (Nat → Int32)) (o_uses_r : Int32) (o_uses_f : (Nat → Int32)) : va_W := [(a_desk, .inr (0, [.ref a_desk_boxes, .ref a_desk_words, .ref a_desk_weeks, .ref a_desk_routes, .ref a_desk_offers, .ref a_desk_wants, .ref a_desk_leaves, .ref a_desk_leases, .ref a_desk_uses, .int today, .int lack, .int rate, .int free])), (a_desk_boxes, .inr (4, [.ref a_desk_boxes_a, .int (9 : Int32), .int (24 : Int32), .int boxes_r])), (a_desk_boxes_a, .inl (G.2.1, 216, .inl boxes_f)), (a_desk_words, .inr (4, [.ref a_desk_words_a, .int (5 : Int32), .int (60 : Int32), .int words_r])), (a_desk_words_a, .inl (G.2.1, 300, .inl words_f)), (a_desk_weeks, .inr (4, [.ref a_desk_weeks_a, .int (2 : Int32), .int (30 : Int32), .int weeks_r])), (a_desk_weeks_a, .inl (G.2.1, 60, .inl weeks_f)), (a_desk_routes, .inr (4, [.ref a_desk_routes_a, .int (5 : Int32), .int (10 : Int32), .int routes_r])), (a_desk_routes_a, .inl (G.2.1, 50, .inl routes_f)), (a_desk_offers, .inr (4, [.ref a_desk_offers_a, .int (5 : Int32), .int (7 : Int32), .int offers_r])), (a_desk_offers_a, .inl (G.2.1, 35, .inl offers_f)), (a_desk_wants, .inr (4, [.ref a_desk_wants_a, .int (5 : Int32), .int (7 : Int32), .int wants_r])), (a_desk_wants_a, .inl (G.2.1, 35, .inl wants_f)), (a_desk_leaves, .inr (4, [.ref a_desk_leaves_a, .int (4 : Int32), .int (4 : Int32), .int leaves_r])), (a_desk_leaves_a, .inl (G.2.1, 16, .inl leaves_f)), (a_desk_leases, .inr (4, [.ref a_desk_leases_a, .int (17 : Int32), .int (3 : Int32), .int leases_r])), (a_desk_leases_a, .inl (G.2.1, 51, .inl leases_f)), (a_desk_uses, .inr (4, [.ref a_desk_uses_a, .int (6 : Int32), .int (40 : Int32), .int uses_r])), (a_desk_uses_a, .inl (G.2.1, 240, .inl uses_f)), (a_od, .inr (0, [.ref a_od_boxes, .ref a_od_words, .ref a_od_weeks, .ref a_od_routes, .ref a_od_offers, .ref a_od_wants, .ref a_od_leaves, .ref a_od_leases, .ref a_od_uses, .int o_today, .int o_lack, .int o_rate, .int o_free])), (a_od_boxes, .inr (4, [.ref a_od_boxes_a, .int (9 : Int32), .int (24 : Int32), .int o_boxes_r])), (a_od_boxes_a, .inl (G.2.1, 216, .inl o_boxes_f)), (a_od_words, .inr (4, [.ref a_od_words_a, .int (5 : Int32), .int (60 : Int32), .int o_words_r])), (a_od_words_a, .inl (G.2.1, 300, .inl o_words_f)), (a_od_weeks, .inr (4, [.ref a_od_weeks_a, .int (2 : Int32), .int (30 : Int32), .int o_weeks_r])), (a_od_weeks_a, .inl (G.2.1, 60, .inl o_weeks_f)), (a_od_routes, .inr (4, [.ref a_od_routes_a, .int (5 : Int32), .int (10 : Int32), .int o_routes_r])), (a_od_routes_a, .inl (G.2.1, 50, .inl o_routes_f)), (a_od_offers, .inr (4, [.ref a_od_offers_a, .int (5 : Int32), .int (7 : Int32), .int o_offers_r])), (a_od_offers_a, .inl (G.2.1, 35, .inl o_offers_f)), (a_od_wants, .inr (4, [.ref a_od_wants_a, .int (5 : Int32), .int (7 : Int32), .int o_wants_r])), (a_od_wants_a, .inl (G.2.1, 35, .inl o_wants_f)), (a_od_leaves, .inr (4, [.ref a_od_leaves_a, .int (4 : Int32), .int (4 : Int32), .int o_leaves_r])), (a_od_leaves_a, .inl (G.2.1, 16, .inl o_leaves_f)), (a_od_leases, .inr (4, [.ref a_od_leases_a, .int (17 : Int32), .int (3 : Int32), .int o_leases_r])), (a_od_leases_a, .inl (G.2.1, 51, .inl o_leases_f)), (a_od_uses, .inr (4, [.ref a_od_uses_a, .int (6 : Int32), .int (40 : Int32), .int o_uses_r])), (a_od_uses_a, .inl (G.2.1, 240, .inl o_uses_f))]
abbrev rmX0_become : Room := { frames := 2, cells := 0, slots := 0, locals := 47 }
theorem iX0_become_X0 : ∀ w ∈ wsX00, w ∈ wsX0_become := by decide +kernel
theorem eX0_become_14 : Fk wsX0_become RX0 14 0 0 := ⟨RX0, TX0, 13, rfl, iX0_become_X0, by decide, by decide +kernel⟩
theorem eX0_become_20 : Fk wsX0_become RX0 20 0 1 := ⟨RX0, TX0, 13, rfl, iX0_become_X0, by decide, by decide +kernel⟩
theorem eX0_become_23 : Fk wsX0_become RX0 23 0 2 := ⟨RX0, TX0, 13, rfl, iX0_become_X0, by decide, by decide +kernel⟩
theorem eX0_become_26 : Fk wsX0_become RX0 26 0 3 := ⟨RX0, TX0, 13, rfl, iX0_become_X0, by decide, by decide +kernel⟩
theorem eX0_become_29 : Fk wsX0_become RX0 29 0 4 := ⟨RX0, TX0, 13, rfl, iX0_become_X0, by decide, by decide +kernel⟩
theorem eX0_become_32 : Fk wsX0_become RX0 32 0 5 := ⟨RX0, TX0, 13, rfl, iX0_become_X0, by decide, by decide +kernel⟩
theorem eX0_become_35 : Fk wsX0_become RX0 35 0 6 := ⟨RX0, TX0, 13, rfl, iX0_become_X0, by decide, by decide +kernel⟩
theorem eX0_become_38 : Fk wsX0_become RX0 38 0 7 := ⟨RX0, TX0, 13, rfl, iX0_become_X0, by decide, by decide +kernel⟩
theorem eX0_become_41 : Fk wsX0_become RX0 41 0 8 := ⟨RX0, TX0, 13, rfl, iX0_become_X0, by decide, by decide +kernel⟩
theorem eX0_become_47 : Fk wsX0_become RX0 47 0 9 := ⟨RX0, TX0, 13, rfl, iX0_become_X0, by decide, by decide +kernel⟩
theorem eX0_become_51 : Fk wsX0_become RX0 51 0 10 := ⟨RX0, TX0, 13, rfl, iX0_become_X0, by decide, by decide +kernel⟩
theorem eX0_become_54 : Fk wsX0_become RX0 54 0 11 := ⟨RX0, TX0, 13, rfl, iX0_become_X0, by decide, by decide +kernel⟩
theorem eX0_become_57 : Fk wsX0_become RX0 57 0 12 := ⟨RX0, TX0, 13, rfl, iX0_become_X0, by decide, by decide +kernel⟩
theorem pX0_become_47 : Fp wsX0_become RX0 47 0 9 .int := ⟨RX0, TX0, 13, tyX0, rfl, iX0_become_X0, by decide, by decide +kernel, tyX0_ok, nmX0, rfl, by decide +kernel⟩
theorem pX0_become_51 : Fp wsX0_become RX0 51 0 10 .int := ⟨RX0, TX0, 13, tyX0, rfl, iX0_become_X0, by decide, by decide +kernel, tyX0_ok, nmX0, rfl, by decide +kernel⟩
theorem pX0_become_54 : Fp wsX0_become RX0 54 0 11 .int := ⟨RX0, TX0, 13, tyX0, rfl, iX0_become_X0, by decide, by decide +kernel, tyX0_ok, nmX0, rfl, by decide +kernel⟩
theorem pX0_become_57 : Fp wsX0_become RX0 57 0 12 .int := ⟨RX0, TX0, 13, tyX0, rfl, iX0_become_X0, by decide, by decide +kernel, tyX0_ok, nmX0, rfl, by decide +kernel⟩
theorem ckX0_become_X4_become_60 : CkV wsX0_become RX0 60 yX4_become wsX4_become cX4_become 2 none 1 4 := ⟨RX4, TX4, 4, _, rfl, gX0_become_X4_become, rfl, hdX4_become⟩
variable {p : Program} {l : Launch} {e : Env} {s : State} {m : MethodId} {args : Array Value} {below : List Frame} {meth : Method} {c : Code} {A : Nat → Prop} {G : Gt} {a_desk a_desk_boxes a_desk_boxes_a a_desk_words a_desk_words_a a_desk_weeks a_desk_weeks_a a_desk_routes a_desk_routes_a a_desk_offers a_desk_offers_a a_desk_wants a_desk_wants_a a_desk_leaves a_desk_leaves_a a_desk_leases a_desk_leases_a a_desk_uses a_desk_uses_a a_od a_od_boxes a_od_boxes_a a_od_words a_od_words_a a_od_weeks a_od_weeks_a a_od_routes a_od_routes_a a_od_offers a_od_offers_a a_od_wants a_od_wants_a a_od_leaves a_od_leaves_a a_od_leases a_od_leases_a a_od_uses a_od_uses_a : Nat} {o_today : Int32} {o_lack : Int32} {o_rate : Int32} {o_free : Int32} {o_boxes_r : Int32} {o_boxes_f : (Nat → Int32)} {o_words_r : Int32} {o_words_f : (Nat → Int32)} {o_weeks_r : Int32} {o_weeks_f : (Nat → Int32)} {o_routes_r : Int32} {o_routes_f : (Nat → Int32)} {o_offers_r : Int32} {o_offers_f : (Nat → Int32)} {o_wants_r : Int32} {o_wants_f : (Nat → Int32)} {o_leaves_r : Int32} {o_leaves_f : (Nat → Int32)} {o_leases_r : Int32} {o_leases_f : (Nat → Int32)} {o_uses_r : Int32} {o_uses_f : (Nat → Int32)} {res : Int32 × Int32 × Int32 × Int32 × Int32 × (Nat → Int32) × Int32 × (Nat → Int32) × Int32 × (Nat → Int32) × Int32 × (Nat → Int32) × Int32 × (Nat → Int32) × Int32 × (Nat → Int32) × Int32 × (Nat → Int32) × Int32 × (Nat → Int32) × Int32 × (Nat → Int32)}
set_option maxHeartbeats 4000000 in
set_option maxRecDepth 100000 in
theorem k0X0_become {l : Launch} (G : Gt) (a_desk a_desk_boxes a_desk_boxes_a a_desk_words a_desk_words_a a_desk_weeks a_desk_weeks_a a_desk_routes a_desk_routes_a a_desk_offers a_desk_offers_a a_desk_wants a_desk_wants_a a_desk_leaves a_desk_leaves_a a_desk_leases a_desk_leases_a a_desk_uses a_desk_uses_a a_od a_od_boxes a_od_boxes_a a_od_words a_od_words_a a_od_weeks a_od_weeks_a a_od_routes a_od_routes_a a_od_offers a_od_offers_a a_od_wants a_od_wants_a a_od_leaves a_od_leaves_a a_od_leases a_od_leases_a a_od_uses a_od_uses_a : Nat)  (today : Int32) (lack : Int32) (rate : Int32) (free : Int32) (boxes_r : Int32) (boxes_f : (Nat → Int32)) (words_r : Int32) (words_f : (Nat → Int32)) (weeks_r : Int32) (weeks_f : (Nat → Int32)) (routes_r : Int32) (routes_f : (Nat → Int32)) (offers_r : Int32) (offers_f : (Nat → Int32)) (wants_r : Int32) (wants_f : (Nat → Int32)) (leaves_r : Int32) (leaves_f : (Nat → Int32)) (leases_r : Int32) (leases_f : (Nat → Int32)) (uses_r : Int32) (uses_f : (Nat → Int32)) (o_today : Int32) (o_lack : Int32) (o_rate : Int32) (o_free : Int32) (o_boxes_r : Int32) (o_boxes_f : (Nat → Int32)) (o_words_r : Int32) (o_words_f : (Nat → Int32)) (o_weeks_r : Int32) (o_weeks_f : (Nat → Int32)) (o_routes_r : Int32) (o_routes_f : (Nat → Int32)) (o_offers_r : Int32) (o_offers_f : (Nat → Int32)) (o_wants_r : Int32) (o_wants_f : (Nat → Int32)) (o_leaves_r : Int32) (o_leaves_f : (Nat → Int32)) (o_leases_r : Int32) (o_leases_f : (Nat → Int32)) (o_uses_r : Int32) (o_uses_f : (Nat → Int32)) {res : Int32 × Int32 × Int32 × Int32 × Int32 × (Nat → Int32) × Int32 × (Nat → Int32) × Int32 × (Nat → Int32) × Int32 × (Nat → Int32) × Int32 × (Nat → Int32) × Int32 × (Nat → Int32) × Int32 × (Nat → Int32) × Int32 × (Nat → Int32) × Int32 × (Nat → Int32)} (h : fX0_become today lack rate free boxes_r boxes_f words_r words_f weeks_r weeks_f routes_r routes_f offers_r offers_f wants_r wants_f leaves_r leaves_f leases_r leases_f uses_r uses_f o_today o_lack o_rate o_free o_boxes_r o_boxes_f o_words_r o_words_f o_weeks_r o_weeks_f o_routes_r o_routes_f o_offers_r o_offers_f o_wants_r o_wants_f o_leaves_r o_leaves_f o_leases_r o_leases_f o_uses_r o_uses_f = some res) : CtV G l yX0_become wsX0_become rmX0_become [.ref a_desk, .ref a_od] (wX0_become G a_desk a_desk_boxes a_desk_boxes_a a_desk_words a_desk_words_a a_desk_weeks a_desk_weeks_a a_desk_routes a_desk_routes_a a_desk_offers a_desk_offers_a a_desk_wants a_desk_wants_a a_desk_leaves a_desk_leaves_a a_desk_leases a_desk_leases_a a_desk_uses a_desk_uses_a a_od a_od_boxes a_od_boxes_a a_od_words a_od_words_a a_od_weeks a_od_weeks_a a_od_routes a_od_routes_a a_od_offers a_od_offers_a a_od_wants a_od_wants_a a_od_leaves a_od_leaves_a a_od_leases a_od_leases_a a_od_uses a_od_uses_a today lack rate free boxes_r boxes_f words_r words_f weeks_r weeks_f routes_r routes_f offers_r offers_f wants_r wants_f leaves_r leaves_f leases_r leases_f uses_r uses_f o_today o_lack o_rate o_free o_boxes_r o_boxes_f o_words_r o_words_f o_weeks_r o_weeks_f o_routes_r o_routes_f o_offers_r o_offers_f o_wants_r o_wants_f o_leaves_r o_leaves_f o_leases_r o_leases_f o_uses_r o_uses_f) (wX0_become G a_desk a_desk_boxes a_desk_boxes_a a_desk_words a_desk_words_a a_desk_weeks a_desk_weeks_a a_desk_routes a_desk_routes_a a_desk_offers a_desk_offers_a a_desk_wants a_desk_wants_a a_desk_leaves a_desk_leaves_a a_desk_leases a_desk_leases_a a_desk_uses a_desk_uses_a a_od a_od_boxes a_od_boxes_a a_od_words a_od_words_a a_od_weeks a_od_weeks_a a_od_routes a_od_routes_a a_od_offers a_od_offers_a a_od_wants a_od_wants_a a_od_leaves a_od_leaves_a a_od_leases a_od_leases_a a_od_uses a_od_uses_a res.1 res.2.1 res.2.2.1 res.2.2.2.1 res.2.2.2.2.1 res.2.2.2.2.2.1 res.2.2.2.2.2.2.1 res.2.2.2.2.2.2.2.1 res.2.2.2.2.2.2.2.2.1 res.2.2.2.2.2.2.2.2.2.1 res.2.2.2.2.2.2.2.2.2.2.1 res.2.2.2.2.2.2.2.2.2.2.2.1 res.2.2.2.2.2.2.2.2.2.2.2.2.1 res.2.2.2.2.2.2.2.2.2.2.2.2.2.1 res.2.2.2.2.2.2.2.2.2.2.2.2.2.2.1 res.2.2.2.2.2.2.2.2.2.2.2.2.2.2.2.1 res.2.2.2.2.2.2.2.2.2.2.2.2.2.2.2.2.1 res.2.2.2.2.2.2.2.2.2.2.2.2.2.2.2.2.2.1 res.2.2.2.2.2.2.2.2.2.2.2.2.2.2.2.2.2.2.1 res.2.2.2.2.2.2.2.2.2.2.2.2.2.2.2.2.2.2.2.1 res.2.2.2.2.2.2.2.2.2.2.2.2.2.2.2.2.2.2.2.2.1 res.2.2.2.2.2.2.2.2.2.2.2.2.2.2.2.2.2.2.2.2.2 o_today o_lack o_rate o_free o_boxes_r o_boxes_f o_words_r o_words_f o_weeks_r o_weeks_f o_routes_r o_routes_f o_offers_r o_offers_f o_wants_r o_wants_f o_leaves_r o_leaves_f o_leases_r o_leases_f o_uses_r o_uses_f) := by
  refine CtV.mk (cc := cX0_become) (maxL := 2) (ret := none) (own := RX0) (by decide) rfl rfl (Nat.le_of_ble_eq_true rfl) ?_
  intro p e s m below meth c A X ls hl hW
  obtain ⟨hx, hb, -⟩ := id X.1
  have hl : lv_has ls 2 [(0, .ref a_desk), (1, .ref a_od)] := hl
  generalize hH : s.heap = H at hW ⊢
  generalize hLo : ([] : List Loc) = locs at hW ⊢
  rw [fX0_become] at h
  refine lv_aload_n hx hb dX0_become_0 rfl (lv_at hl 0 rfl) ?_
  refine g_get X hW eX0_become_14 0 rfl rfl dX0_become_1 ?_
  refine lv_aload_n hx hb dX0_become_4 rfl (lv_at hl 1 rfl) ?_
  refine g_get X hW eX0_become_14 19 rfl rfl dX0_become_5 ?_
  obtain ⟨o5_tb_r, o5_tb_f, hq, h⟩ := bn2_some h
  refine g_cvv X hW (As := [.ref a_od_boxes]) (ws' := (wX0_become G a_desk a_desk_boxes a_desk_boxes_a a_desk_words a_desk_words_a a_desk_weeks a_desk_weeks_a a_desk_routes a_desk_routes_a a_desk_offers a_desk_offers_a a_desk_wants a_desk_wants_a a_desk_leaves a_desk_leaves_a a_desk_leases a_desk_leases_a a_desk_uses a_desk_uses_a a_od a_od_boxes a_od_boxes_a a_od_words a_od_words_a a_od_weeks a_od_weeks_a a_od_routes a_od_routes_a a_od_offers a_od_offers_a a_od_wants a_od_wants_a a_od_leaves a_od_leaves_a a_od_leases a_od_leases_a a_od_uses a_od_uses_a today lack rate free o5_tb_r o5_tb_f words_r words_f weeks_r weeks_f routes_r routes_f offers_r offers_f wants_r wants_f leaves_r leaves_f leases_r leases_f uses_r uses_f o_today o_lack o_rate o_free o_boxes_r o_boxes_f o_words_r o_words_f o_weeks_r o_weeks_f o_routes_r o_routes_f o_offers_r o_offers_f o_wants_r o_wants_f o_leaves_r o_leaves_f o_leases_r o_leases_f o_uses_r o_uses_f)) ckX0_become_X4_become_60 (kcX4_become (l := l) G a_desk_boxes a_desk_boxes_a a_od_boxes a_od_boxes_a (9 : Int32) (24 : Int32) boxes_r 216 boxes_f (9 : Int32) (24 : Int32) o_boxes_r 216 o_boxes_f hq) ⟨rfl, rfl, Nat.le_of_ble_eq_true rfl, Nat.le_of_ble_eq_true rfl⟩ [1, 2, 20, 21] rfl rfl rfl rfl rfl rfl rfl hl.1 (Nat.le_of_ble_eq_true rfl) ⟨Nat.zero_le _, Nat.zero_le _⟩ dX0_become_8 (fun H locs hW => ?_)
  refine lv_aload_n hx hb dX0_become_11 rfl (lv_at hl 0 rfl) ?_
  refine g_get X hW eX0_become_20 0 rfl rfl dX0_become_12 ?_
  refine lv_aload_n hx hb dX0_become_15 rfl (lv_at hl 1 rfl) ?_
  refine g_get X hW eX0_become_20 19 rfl rfl dX0_become_16 ?_
  obtain ⟨o10_tb_r, o10_tb_f, hq, h⟩ := bn2_some h
  refine g_cvv X hW (As := [.ref a_od_words]) (ws' := (wX0_become G a_desk a_desk_boxes a_desk_boxes_a a_desk_words a_desk_words_a a_desk_weeks a_desk_weeks_a a_desk_routes a_desk_routes_a a_desk_offers a_desk_offers_a a_desk_wants a_desk_wants_a a_desk_leaves a_desk_leaves_a a_desk_leases a_desk_leases_a a_desk_uses a_desk_uses_a a_od a_od_boxes a_od_boxes_a a_od_words a_od_words_a a_od_weeks a_od_weeks_a a_od_routes a_od_routes_a a_od_offers a_od_offers_a a_od_wants a_od_wants_a a_od_leaves a_od_leaves_a a_od_leases a_od_leases_a a_od_uses a_od_uses_a today lack rate free o5_tb_r o5_tb_f o10_tb_r o10_tb_f weeks_r weeks_f routes_r routes_f offers_r offers_f wants_r wants_f leaves_r leaves_f leases_r leases_f uses_r uses_f o_today o_lack o_rate o_free o_boxes_r o_boxes_f o_words_r o_words_f o_weeks_r o_weeks_f o_routes_r o_routes_f o_offers_r o_offers_f o_wants_r o_wants_f o_leaves_r o_leaves_f o_leases_r o_leases_f o_uses_r o_uses_f)) ckX0_become_X4_become_60 (kcX4_become (l := l) G a_desk_words a_desk_words_a a_od_words a_od_words_a (5 : Int32) (60 : Int32) words_r 300 words_f (5 : Int32) (60 : Int32) o_words_r 300 o_words_f hq) ⟨rfl, rfl, Nat.le_of_ble_eq_true rfl, Nat.le_of_ble_eq_true rfl⟩ [3, 4, 22, 23] rfl rfl rfl rfl rfl rfl rfl hl.1 (Nat.le_of_ble_eq_true rfl) ⟨Nat.zero_le _, Nat.zero_le _⟩ dX0_become_19 (fun H locs hW => ?_)
  refine lv_aload_n hx hb dX0_become_22 rfl (lv_at hl 0 rfl) ?_
  refine g_get X hW eX0_become_23 0 rfl rfl dX0_become_23 ?_
  refine lv_aload_n hx hb dX0_become_26 rfl (lv_at hl 1 rfl) ?_
  refine g_get X hW eX0_become_23 19 rfl rfl dX0_become_27 ?_
  obtain ⟨o15_tb_r, o15_tb_f, hq, h⟩ := bn2_some h
  refine g_cvv X hW (As := [.ref a_od_weeks]) (ws' := (wX0_become G a_desk a_desk_boxes a_desk_boxes_a a_desk_words a_desk_words_a a_desk_weeks a_desk_weeks_a a_desk_routes a_desk_routes_a a_desk_offers a_desk_offers_a a_desk_wants a_desk_wants_a a_desk_leaves a_desk_leaves_a a_desk_leases a_desk_leases_a a_desk_uses a_desk_uses_a a_od a_od_boxes a_od_boxes_a a_od_words a_od_words_a a_od_weeks a_od_weeks_a a_od_routes a_od_routes_a a_od_offers a_od_offers_a a_od_wants a_od_wants_a a_od_leaves a_od_leaves_a a_od_leases a_od_leases_a a_od_uses a_od_uses_a today lack rate free o5_tb_r o5_tb_f o10_tb_r o10_tb_f o15_tb_r o15_tb_f routes_r routes_f offers_r offers_f wants_r wants_f leaves_r leaves_f leases_r leases_f uses_r uses_f o_today o_lack o_rate o_free o_boxes_r o_boxes_f o_words_r o_words_f o_weeks_r o_weeks_f o_routes_r o_routes_f o_offers_r o_offers_f o_wants_r o_wants_f o_leaves_r o_leaves_f o_leases_r o_leases_f o_uses_r o_uses_f)) ckX0_become_X4_become_60 (kcX4_become (l := l) G a_desk_weeks a_desk_weeks_a a_od_weeks a_od_weeks_a (2 : Int32) (30 : Int32) weeks_r 60 weeks_f (2 : Int32) (30 : Int32) o_weeks_r 60 o_weeks_f hq) ⟨rfl, rfl, Nat.le_of_ble_eq_true rfl, Nat.le_of_ble_eq_true rfl⟩ [5, 6, 24, 25] rfl rfl rfl rfl rfl rfl rfl hl.1 (Nat.le_of_ble_eq_true rfl) ⟨Nat.zero_le _, Nat.zero_le _⟩ dX0_become_30 (fun H locs hW => ?_)
  refine lv_aload_n hx hb dX0_become_33 rfl (lv_at hl 0 rfl) ?_
  refine g_get X hW eX0_become_26 0 rfl rfl dX0_become_34 ?_
  refine lv_aload_n hx hb dX0_become_37 rfl (lv_at hl 1 rfl) ?_
  refine g_get X hW eX0_become_26 19 rfl rfl dX0_become_38 ?_
  obtain ⟨o20_tb_r, o20_tb_f, hq, h⟩ := bn2_some h
  refine g_cvv X hW (As := [.ref a_od_routes]) (ws' := (wX0_become G a_desk a_desk_boxes a_desk_boxes_a a_desk_words a_desk_words_a a_desk_weeks a_desk_weeks_a a_desk_routes a_desk_routes_a a_desk_offers a_desk_offers_a a_desk_wants a_desk_wants_a a_desk_leaves a_desk_leaves_a a_desk_leases a_desk_leases_a a_desk_uses a_desk_uses_a a_od a_od_boxes a_od_boxes_a a_od_words a_od_words_a a_od_weeks a_od_weeks_a a_od_routes a_od_routes_a a_od_offers a_od_offers_a a_od_wants a_od_wants_a a_od_leaves a_od_leaves_a a_od_leases a_od_leases_a a_od_uses a_od_uses_a today lack rate free o5_tb_r o5_tb_f o10_tb_r o10_tb_f o15_tb_r o15_tb_f o20_tb_r o20_tb_f offers_r offers_f wants_r wants_f leaves_r leaves_f leases_r leases_f uses_r uses_f o_today o_lack o_rate o_free o_boxes_r o_boxes_f o_words_r o_words_f o_weeks_r o_weeks_f o_routes_r o_routes_f o_offers_r o_offers_f o_wants_r o_wants_f o_leaves_r o_leaves_f o_leases_r o_leases_f o_uses_r o_uses_f)) ckX0_become_X4_become_60 (kcX4_become (l := l) G a_desk_routes a_desk_routes_a a_od_routes a_od_routes_a (5 : Int32) (10 : Int32) routes_r 50 routes_f (5 : Int32) (10 : Int32) o_routes_r 50 o_routes_f hq) ⟨rfl, rfl, Nat.le_of_ble_eq_true rfl, Nat.le_of_ble_eq_true rfl⟩ [7, 8, 26, 27] rfl rfl rfl rfl rfl rfl rfl hl.1 (Nat.le_of_ble_eq_true rfl) ⟨Nat.zero_le _, Nat.zero_le _⟩ dX0_become_41 (fun H locs hW => ?_)
  refine lv_aload_n hx hb dX0_become_44 rfl (lv_at hl 0 rfl) ?_
  refine g_get X hW eX0_become_29 0 rfl rfl dX0_become_45 ?_
  refine lv_aload_n hx hb dX0_become_48 rfl (lv_at hl 1 rfl) ?_
  refine g_get X hW eX0_become_29 19 rfl rfl dX0_become_49 ?_
  obtain ⟨o25_tb_r, o25_tb_f, hq, h⟩ := bn2_some h
  refine g_cvv X hW (As := [.ref a_od_offers]) (ws' := (wX0_become G a_desk a_desk_boxes a_desk_boxes_a a_desk_words a_desk_words_a a_desk_weeks a_desk_weeks_a a_desk_routes a_desk_routes_a a_desk_offers a_desk_offers_a a_desk_wants a_desk_wants_a a_desk_leaves a_desk_leaves_a a_desk_leases a_desk_leases_a a_desk_uses a_desk_uses_a a_od a_od_boxes a_od_boxes_a a_od_words a_od_words_a a_od_weeks a_od_weeks_a a_od_routes a_od_routes_a a_od_offers a_od_offers_a a_od_wants a_od_wants_a a_od_leaves a_od_leaves_a a_od_leases a_od_leases_a a_od_uses a_od_uses_a today lack rate free o5_tb_r o5_tb_f o10_tb_r o10_tb_f o15_tb_r o15_tb_f o20_tb_r o20_tb_f o25_tb_r o25_tb_f wants_r wants_f leaves_r leaves_f leases_r leases_f uses_r uses_f o_today o_lack o_rate o_free o_boxes_r o_boxes_f o_words_r o_words_f o_weeks_r o_weeks_f o_routes_r o_routes_f o_offers_r o_offers_f o_wants_r o_wants_f o_leaves_r o_leaves_f o_leases_r o_leases_f o_uses_r o_uses_f)) ckX0_become_X4_become_60 (kcX4_become (l := l) G a_desk_offers a_desk_offers_a a_od_offers a_od_offers_a (5 : Int32) (7 : Int32) offers_r 35 offers_f (5 : Int32) (7 : Int32) o_offers_r 35 o_offers_f hq) ⟨rfl, rfl, Nat.le_of_ble_eq_true rfl, Nat.le_of_ble_eq_true rfl⟩ [9, 10, 28, 29] rfl rfl rfl rfl rfl rfl rfl hl.1 (Nat.le_of_ble_eq_true rfl) ⟨Nat.zero_le _, Nat.zero_le _⟩ dX0_become_52 (fun H locs hW => ?_)
  refine lv_aload_n hx hb dX0_become_55 rfl (lv_at hl 0 rfl) ?_
  refine g_get X hW eX0_become_32 0 rfl rfl dX0_become_56 ?_
  refine lv_aload_n hx hb dX0_become_59 rfl (lv_at hl 1 rfl) ?_
  refine g_get X hW eX0_become_32 19 rfl rfl dX0_become_60 ?_
  obtain ⟨o30_tb_r, o30_tb_f, hq, h⟩ := bn2_some h
  refine g_cvv X hW (As := [.ref a_od_wants]) (ws' := (wX0_become G a_desk a_desk_boxes a_desk_boxes_a a_desk_words a_desk_words_a a_desk_weeks a_desk_weeks_a a_desk_routes a_desk_routes_a a_desk_offers a_desk_offers_a a_desk_wants a_desk_wants_a a_desk_leaves a_desk_leaves_a a_desk_leases a_desk_leases_a a_desk_uses a_desk_uses_a a_od a_od_boxes a_od_boxes_a a_od_words a_od_words_a a_od_weeks a_od_weeks_a a_od_routes a_od_routes_a a_od_offers a_od_offers_a a_od_wants a_od_wants_a a_od_leaves a_od_leaves_a a_od_leases a_od_leases_a a_od_uses a_od_uses_a today lack rate free o5_tb_r o5_tb_f o10_tb_r o10_tb_f o15_tb_r o15_tb_f o20_tb_r o20_tb_f o25_tb_r o25_tb_f o30_tb_r o30_tb_f leaves_r leaves_f leases_r leases_f uses_r uses_f o_today o_lack o_rate o_free o_boxes_r o_boxes_f o_words_r o_words_f o_weeks_r o_weeks_f o_routes_r o_routes_f o_offers_r o_offers_f o_wants_r o_wants_f o_leaves_r o_leaves_f o_leases_r o_leases_f o_uses_r o_uses_f)) ckX0_become_X4_become_60 (kcX4_become (l := l) G a_desk_wants a_desk_wants_a a_od_wants a_od_wants_a (5 : Int32) (7 : Int32) wants_r 35 wants_f (5 : Int32) (7 : Int32) o_wants_r 35 o_wants_f hq) ⟨rfl, rfl, Nat.le_of_ble_eq_true rfl, Nat.le_of_ble_eq_true rfl⟩ [11, 12, 30, 31] rfl rfl rfl rfl rfl rfl rfl hl.1 (Nat.le_of_ble_eq_true rfl) ⟨Nat.zero_le _, Nat.zero_le _⟩ dX0_become_63 (fun H locs hW => ?_)
  refine lv_aload_n hx hb dX0_become_66 rfl (lv_at hl 0 rfl) ?_
  refine g_get X hW eX0_become_35 0 rfl rfl dX0_become_67 ?_
  refine lv_aload_n hx hb dX0_become_70 rfl (lv_at hl 1 rfl) ?_
  refine g_get X hW eX0_become_35 19 rfl rfl dX0_become_71 ?_
  obtain ⟨o35_tb_r, o35_tb_f, hq, h⟩ := bn2_some h
  refine g_cvv X hW (As := [.ref a_od_leaves]) (ws' := (wX0_become G a_desk a_desk_boxes a_desk_boxes_a a_desk_words a_desk_words_a a_desk_weeks a_desk_weeks_a a_desk_routes a_desk_routes_a a_desk_offers a_desk_offers_a a_desk_wants a_desk_wants_a a_desk_leaves a_desk_leaves_a a_desk_leases a_desk_leases_a a_desk_uses a_desk_uses_a a_od a_od_boxes a_od_boxes_a a_od_words a_od_words_a a_od_weeks a_od_weeks_a a_od_routes a_od_routes_a a_od_offers a_od_offers_a a_od_wants a_od_wants_a a_od_leaves a_od_leaves_a a_od_leases a_od_leases_a a_od_uses a_od_uses_a today lack rate free o5_tb_r o5_tb_f o10_tb_r o10_tb_f o15_tb_r o15_tb_f o20_tb_r o20_tb_f o25_tb_r o25_tb_f o30_tb_r o30_tb_f o35_tb_r o35_tb_f leases_r leases_f uses_r uses_f o_today o_lack o_rate o_free o_boxes_r o_boxes_f o_words_r o_words_f o_weeks_r o_weeks_f o_routes_r o_routes_f o_offers_r o_offers_f o_wants_r o_wants_f o_leaves_r o_leaves_f o_leases_r o_leases_f o_uses_r o_uses_f)) ckX0_become_X4_become_60 (kcX4_become (l := l) G a_desk_leaves a_desk_leaves_a a_od_leaves a_od_leaves_a (4 : Int32) (4 : Int32) leaves_r 16 leaves_f (4 : Int32) (4 : Int32) o_leaves_r 16 o_leaves_f hq) ⟨rfl, rfl, Nat.le_of_ble_eq_true rfl, Nat.le_of_ble_eq_true rfl⟩ [13, 14, 32, 33] rfl rfl rfl rfl rfl rfl rfl hl.1 (Nat.le_of_ble_eq_true rfl) ⟨Nat.zero_le _, Nat.zero_le _⟩ dX0_become_74 (fun H locs hW => ?_)
  refine lv_aload_n hx hb dX0_become_77 rfl (lv_at hl 0 rfl) ?_
  refine g_get X hW eX0_become_38 0 rfl rfl dX0_become_78 ?_
  refine lv_aload_n hx hb dX0_become_81 rfl (lv_at hl 1 rfl) ?_
  refine g_get X hW eX0_become_38 19 rfl rfl dX0_become_82 ?_
  obtain ⟨o40_tb_r, o40_tb_f, hq, h⟩ := bn2_some h
  refine g_cvv X hW (As := [.ref a_od_leases]) (ws' := (wX0_become G a_desk a_desk_boxes a_desk_boxes_a a_desk_words a_desk_words_a a_desk_weeks a_desk_weeks_a a_desk_routes a_desk_routes_a a_desk_offers a_desk_offers_a a_desk_wants a_desk_wants_a a_desk_leaves a_desk_leaves_a a_desk_leases a_desk_leases_a a_desk_uses a_desk_uses_a a_od a_od_boxes a_od_boxes_a a_od_words a_od_words_a a_od_weeks a_od_weeks_a a_od_routes a_od_routes_a a_od_offers a_od_offers_a a_od_wants a_od_wants_a a_od_leaves a_od_leaves_a a_od_leases a_od_leases_a a_od_uses a_od_uses_a today lack rate free o5_tb_r o5_tb_f o10_tb_r o10_tb_f o15_tb_r o15_tb_f o20_tb_r o20_tb_f o25_tb_r o25_tb_f o30_tb_r o30_tb_f o35_tb_r o35_tb_f o40_tb_r o40_tb_f uses_r uses_f o_today o_lack o_rate o_free o_boxes_r o_boxes_f o_words_r o_words_f o_weeks_r o_weeks_f o_routes_r o_routes_f o_offers_r o_offers_f o_wants_r o_wants_f o_leaves_r o_leaves_f o_leases_r o_leases_f o_uses_r o_uses_f)) ckX0_become_X4_become_60 (kcX4_become (l := l) G a_desk_leases a_desk_leases_a a_od_leases a_od_leases_a (17 : Int32) (3 : Int32) leases_r 51 leases_f (17 : Int32) (3 : Int32) o_leases_r 51 o_leases_f hq) ⟨rfl, rfl, Nat.le_of_ble_eq_true rfl, Nat.le_of_ble_eq_true rfl⟩ [15, 16, 34, 35] rfl rfl rfl rfl rfl rfl rfl hl.1 (Nat.le_of_ble_eq_true rfl) ⟨Nat.zero_le _, Nat.zero_le _⟩ dX0_become_85 (fun H locs hW => ?_)
  refine lv_aload_n hx hb dX0_become_88 rfl (lv_at hl 0 rfl) ?_
  refine g_get X hW eX0_become_41 0 rfl rfl dX0_become_89 ?_
  refine lv_aload_n hx hb dX0_become_92 rfl (lv_at hl 1 rfl) ?_
  refine g_get X hW eX0_become_41 19 rfl rfl dX0_become_93 ?_
  obtain ⟨o45_tb_r, o45_tb_f, hq, h⟩ := bn2_some h
  refine g_cvv X hW (As := [.ref a_od_uses]) (ws' := (wX0_become G a_desk a_desk_boxes a_desk_boxes_a a_desk_words a_desk_words_a a_desk_weeks a_desk_weeks_a a_desk_routes a_desk_routes_a a_desk_offers a_desk_offers_a a_desk_wants a_desk_wants_a a_desk_leaves a_desk_leaves_a a_desk_leases a_desk_leases_a a_desk_uses a_desk_uses_a a_od a_od_boxes a_od_boxes_a a_od_words a_od_words_a a_od_weeks a_od_weeks_a a_od_routes a_od_routes_a a_od_offers a_od_offers_a a_od_wants a_od_wants_a a_od_leaves a_od_leaves_a a_od_leases a_od_leases_a a_od_uses a_od_uses_a today lack rate free o5_tb_r o5_tb_f o10_tb_r o10_tb_f o15_tb_r o15_tb_f o20_tb_r o20_tb_f o25_tb_r o25_tb_f o30_tb_r o30_tb_f o35_tb_r o35_tb_f o40_tb_r o40_tb_f o45_tb_r o45_tb_f o_today o_lack o_rate o_free o_boxes_r o_boxes_f o_words_r o_words_f o_weeks_r o_weeks_f o_routes_r o_routes_f o_offers_r o_offers_f o_wants_r o_wants_f o_leaves_r o_leaves_f o_leases_r o_leases_f o_uses_r o_uses_f)) ckX0_become_X4_become_60 (kcX4_become (l := l) G a_desk_uses a_desk_uses_a a_od_uses a_od_uses_a (6 : Int32) (40 : Int32) uses_r 240 uses_f (6 : Int32) (40 : Int32) o_uses_r 240 o_uses_f hq) ⟨rfl, rfl, Nat.le_of_ble_eq_true rfl, Nat.le_of_ble_eq_true rfl⟩ [17, 18, 36, 37] rfl rfl rfl rfl rfl rfl rfl hl.1 (Nat.le_of_ble_eq_true rfl) ⟨Nat.zero_le _, Nat.zero_le _⟩ dX0_become_96 (fun H locs hW => ?_)
  refine lv_aload_n hx hb dX0_become_99 rfl (lv_at hl 0 rfl) ?_
  refine lv_aload_n hx hb dX0_become_100 rfl (lv_at hl 1 rfl) ?_
  refine g_get X hW eX0_become_47 19 rfl rfl dX0_become_101 ?_
  refine g_put X hW (ws' := (wX0_become G a_desk a_desk_boxes a_desk_boxes_a a_desk_words a_desk_words_a a_desk_weeks a_desk_weeks_a a_desk_routes a_desk_routes_a a_desk_offers a_desk_offers_a a_desk_wants a_desk_wants_a a_desk_leaves a_desk_leaves_a a_desk_leases a_desk_leases_a a_desk_uses a_desk_uses_a a_od a_od_boxes a_od_boxes_a a_od_words a_od_words_a a_od_weeks a_od_weeks_a a_od_routes a_od_routes_a a_od_offers a_od_offers_a a_od_wants a_od_wants_a a_od_leaves a_od_leaves_a a_od_leases a_od_leases_a a_od_uses a_od_uses_a o_today lack rate free o5_tb_r o5_tb_f o10_tb_r o10_tb_f o15_tb_r o15_tb_f o20_tb_r o20_tb_f o25_tb_r o25_tb_f o30_tb_r o30_tb_f o35_tb_r o35_tb_f o40_tb_r o40_tb_f o45_tb_r o45_tb_f o_today o_lack o_rate o_free o_boxes_r o_boxes_f o_words_r o_words_f o_weeks_r o_weeks_f o_routes_r o_routes_f o_offers_r o_offers_f o_wants_r o_wants_f o_leaves_r o_leaves_f o_leases_r o_leases_f o_uses_r o_uses_f)) pX0_become_47 0 rfl (Nat.le_of_ble_eq_true rfl) rfl rfl rfl dX0_become_104 (fun H locs hW => ?_)
  refine lv_aload_n hx hb dX0_become_107 rfl (lv_at hl 0 rfl) ?_
  refine lv_aload_n hx hb dX0_become_108 rfl (lv_at hl 1 rfl) ?_
  refine g_get X hW eX0_become_51 19 rfl rfl dX0_become_109 ?_
  refine g_put X hW (ws' := (wX0_become G a_desk a_desk_boxes a_desk_boxes_a a_desk_words a_desk_words_a a_desk_weeks a_desk_weeks_a a_desk_routes a_desk_routes_a a_desk_offers a_desk_offers_a a_desk_wants a_desk_wants_a a_desk_leaves a_desk_leaves_a a_desk_leases a_desk_leases_a a_desk_uses a_desk_uses_a a_od a_od_boxes a_od_boxes_a a_od_words a_od_words_a a_od_weeks a_od_weeks_a a_od_routes a_od_routes_a a_od_offers a_od_offers_a a_od_wants a_od_wants_a a_od_leaves a_od_leaves_a a_od_leases a_od_leases_a a_od_uses a_od_uses_a o_today o_lack rate free o5_tb_r o5_tb_f o10_tb_r o10_tb_f o15_tb_r o15_tb_f o20_tb_r o20_tb_f o25_tb_r o25_tb_f o30_tb_r o30_tb_f o35_tb_r o35_tb_f o40_tb_r o40_tb_f o45_tb_r o45_tb_f o_today o_lack o_rate o_free o_boxes_r o_boxes_f o_words_r o_words_f o_weeks_r o_weeks_f o_routes_r o_routes_f o_offers_r o_offers_f o_wants_r o_wants_f o_leaves_r o_leaves_f o_leases_r o_leases_f o_uses_r o_uses_f)) pX0_become_51 0 rfl (Nat.le_of_ble_eq_true rfl) rfl rfl rfl dX0_become_112 (fun H locs hW => ?_)
  refine lv_aload_n hx hb dX0_become_115 rfl (lv_at hl 0 rfl) ?_
  refine lv_aload_n hx hb dX0_become_116 rfl (lv_at hl 1 rfl) ?_
  refine g_get X hW eX0_become_54 19 rfl rfl dX0_become_117 ?_
  refine g_put X hW (ws' := (wX0_become G a_desk a_desk_boxes a_desk_boxes_a a_desk_words a_desk_words_a a_desk_weeks a_desk_weeks_a a_desk_routes a_desk_routes_a a_desk_offers a_desk_offers_a a_desk_wants a_desk_wants_a a_desk_leaves a_desk_leaves_a a_desk_leases a_desk_leases_a a_desk_uses a_desk_uses_a a_od a_od_boxes a_od_boxes_a a_od_words a_od_words_a a_od_weeks a_od_weeks_a a_od_routes a_od_routes_a a_od_offers a_od_offers_a a_od_wants a_od_wants_a a_od_leaves a_od_leaves_a a_od_leases a_od_leases_a a_od_uses a_od_uses_a o_today o_lack o_rate free o5_tb_r o5_tb_f o10_tb_r o10_tb_f o15_tb_r o15_tb_f o20_tb_r o20_tb_f o25_tb_r o25_tb_f o30_tb_r o30_tb_f o35_tb_r o35_tb_f o40_tb_r o40_tb_f o45_tb_r o45_tb_f o_today o_lack o_rate o_free o_boxes_r o_boxes_f o_words_r o_words_f o_weeks_r o_weeks_f o_routes_r o_routes_f o_offers_r o_offers_f o_wants_r o_wants_f o_leaves_r o_leaves_f o_leases_r o_leases_f o_uses_r o_uses_f)) pX0_become_54 0 rfl (Nat.le_of_ble_eq_true rfl) rfl rfl rfl dX0_become_120 (fun H locs hW => ?_)
  refine lv_aload_n hx hb dX0_become_123 rfl (lv_at hl 0 rfl) ?_
  refine lv_aload_n hx hb dX0_become_124 rfl (lv_at hl 1 rfl) ?_
  refine g_get X hW eX0_become_57 19 rfl rfl dX0_become_125 ?_
  refine g_put X hW (ws' := (wX0_become G a_desk a_desk_boxes a_desk_boxes_a a_desk_words a_desk_words_a a_desk_weeks a_desk_weeks_a a_desk_routes a_desk_routes_a a_desk_offers a_desk_offers_a a_desk_wants a_desk_wants_a a_desk_leaves a_desk_leaves_a a_desk_leases a_desk_leases_a a_desk_uses a_desk_uses_a a_od a_od_boxes a_od_boxes_a a_od_words a_od_words_a a_od_weeks a_od_weeks_a a_od_routes a_od_routes_a a_od_offers a_od_offers_a a_od_wants a_od_wants_a a_od_leaves a_od_leaves_a a_od_leases a_od_leases_a a_od_uses a_od_uses_a o_today o_lack o_rate o_free o5_tb_r o5_tb_f o10_tb_r o10_tb_f o15_tb_r o15_tb_f o20_tb_r o20_tb_f o25_tb_r o25_tb_f o30_tb_r o30_tb_f o35_tb_r o35_tb_f o40_tb_r o40_tb_f o45_tb_r o45_tb_f o_today o_lack o_rate o_free o_boxes_r o_boxes_f o_words_r o_words_f o_weeks_r o_weeks_f o_routes_r o_routes_f o_offers_r o_offers_f o_wants_r o_wants_f o_leaves_r o_leaves_f o_leases_r o_leases_f o_uses_r o_uses_f)) pX0_become_57 0 rfl (Nat.le_of_ble_eq_true rfl) rfl rfl rfl dX0_become_128 (fun H locs hW => ?_)
  obtain rfl := Option.some.inj h
  exact g_vret X hW dX0_become_131
theorem kcX0_become {l : Launch} (G : Gt) (a_desk a_desk_boxes a_desk_boxes_a a_desk_words a_desk_words_a a_desk_weeks a_desk_weeks_a a_desk_routes a_desk_routes_a a_desk_offers a_desk_offers_a a_desk_wants a_desk_wants_a a_desk_leaves a_desk_leaves_a a_desk_leases a_desk_leases_a a_desk_uses a_desk_uses_a a_od a_od_boxes a_od_boxes_a a_od_words a_od_words_a a_od_weeks a_od_weeks_a a_od_routes a_od_routes_a a_od_offers a_od_offers_a a_od_wants a_od_wants_a a_od_leaves a_od_leaves_a a_od_leases a_od_leases_a a_od_uses a_od_uses_a : Nat)  (today : Int32) (lack : Int32) (rate : Int32) (free : Int32) (boxes_r : Int32) (boxes_f : (Nat → Int32)) (words_r : Int32) (words_f : (Nat → Int32)) (weeks_r : Int32) (weeks_f : (Nat → Int32)) (routes_r : Int32) (routes_f : (Nat → Int32)) (offers_r : Int32) (offers_f : (Nat → Int32)) (wants_r : Int32) (wants_f : (Nat → Int32)) (leaves_r : Int32) (leaves_f : (Nat → Int32)) (leases_r : Int32) (leases_f : (Nat → Int32)) (uses_r : Int32) (uses_f : (Nat → Int32)) (o_today : Int32) (o_lack : Int32) (o_rate : Int32) (o_free : Int32) (o_boxes_r : Int32) (o_boxes_f : (Nat → Int32)) (o_words_r : Int32) (o_words_f : (Nat → Int32)) (o_weeks_r : Int32) (o_weeks_f : (Nat → Int32)) (o_routes_r : Int32) (o_routes_f : (Nat → Int32)) (o_offers_r : Int32) (o_offers_f : (Nat → Int32)) (o_wants_r : Int32) (o_wants_f : (Nat → Int32)) (o_leaves_r : Int32) (o_leaves_f : (Nat → Int32)) (o_leases_r : Int32) (o_leases_f : (Nat → Int32)) (o_uses_r : Int32) (o_uses_f : (Nat → Int32))  {z_today : Int32} {z_lack : Int32} {z_rate : Int32} {z_free : Int32} {z_boxes_r : Int32} {z_boxes_f : (Nat → Int32)} {z_words_r : Int32} {z_words_f : (Nat → Int32)} {z_weeks_r : Int32} {z_weeks_f : (Nat → Int32)} {z_routes_r : Int32} {z_routes_f : (Nat → Int32)} {z_offers_r : Int32} {z_offers_f : (Nat → Int32)} {z_wants_r : Int32} {z_wants_f : (Nat → Int32)} {z_leaves_r : Int32} {z_leaves_f : (Nat → Int32)} {z_leases_r : Int32} {z_leases_f : (Nat → Int32)} {z_uses_r : Int32} {z_uses_f : (Nat → Int32)} (h : fX0_become today lack rate free boxes_r boxes_f words_r words_f weeks_r weeks_f routes_r routes_f offers_r offers_f wants_r wants_f leaves_r leaves_f leases_r leases_f uses_r uses_f o_today o_lack o_rate o_free o_boxes_r o_boxes_f o_words_r o_words_f o_weeks_r o_weeks_f o_routes_r o_routes_f o_offers_r o_offers_f o_wants_r o_wants_f o_leaves_r o_leaves_f o_leases_r o_leases_f o_uses_r o_uses_f = some (z_today, z_lack, z_rate, z_free, z_boxes_r, z_boxes_f, z_words_r, z_words_f, z_weeks_r, z_weeks_f, z_routes_r, z_routes_f, z_offers_r, z_offers_f, z_wants_r, z_wants_f, z_leaves_r, z_leaves_f, z_leases_r, z_leases_f, z_uses_r, z_uses_f)) : CtV G l yX0_become wsX0_become rmX0_become [.ref a_desk, .ref a_od] (wX0_become G a_desk a_desk_boxes a_desk_boxes_a a_desk_words a_desk_words_a a_desk_weeks a_desk_weeks_a a_desk_routes a_desk_routes_a a_desk_offers a_desk_offers_a a_desk_wants a_desk_wants_a a_desk_leaves a_desk_leaves_a a_desk_leases a_desk_leases_a a_desk_uses a_desk_uses_a a_od a_od_boxes a_od_boxes_a a_od_words a_od_words_a a_od_weeks a_od_weeks_a a_od_routes a_od_routes_a a_od_offers a_od_offers_a a_od_wants a_od_wants_a a_od_leaves a_od_leaves_a a_od_leases a_od_leases_a a_od_uses a_od_uses_a today lack rate free boxes_r boxes_f words_r words_f weeks_r weeks_f routes_r routes_f offers_r offers_f wants_r wants_f leaves_r leaves_f leases_r leases_f uses_r uses_f o_today o_lack o_rate o_free o_boxes_r o_boxes_f o_words_r o_words_f o_weeks_r o_weeks_f o_routes_r o_routes_f o_offers_r o_offers_f o_wants_r o_wants_f o_leaves_r o_leaves_f o_leases_r o_leases_f o_uses_r o_uses_f) (wX0_become G a_desk a_desk_boxes a_desk_boxes_a a_desk_words a_desk_words_a a_desk_weeks a_desk_weeks_a a_desk_routes a_desk_routes_a a_desk_offers a_desk_offers_a a_desk_wants a_desk_wants_a a_desk_leaves a_desk_leaves_a a_desk_leases a_desk_leases_a a_desk_uses a_desk_uses_a a_od a_od_boxes a_od_boxes_a a_od_words a_od_words_a a_od_weeks a_od_weeks_a a_od_routes a_od_routes_a a_od_offers a_od_offers_a a_od_wants a_od_wants_a a_od_leaves a_od_leaves_a a_od_leases a_od_leases_a a_od_uses a_od_uses_a z_today z_lack z_rate z_free z_boxes_r z_boxes_f z_words_r z_words_f z_weeks_r z_weeks_f z_routes_r z_routes_f z_offers_r z_offers_f z_wants_r z_wants_f z_leaves_r z_leaves_f z_leases_r z_leases_f z_uses_r z_uses_f o_today o_lack o_rate o_free o_boxes_r o_boxes_f o_words_r o_words_f o_weeks_r o_weeks_f o_routes_r o_routes_f o_offers_r o_offers_f o_wants_r o_wants_f o_leaves_r o_leaves_f o_leases_r o_leases_f o_uses_r o_uses_f) := k0X0_become G a_desk a_desk_boxes a_desk_boxes_a a_desk_words a_desk_words_a a_desk_weeks a_desk_weeks_a a_desk_routes a_desk_routes_a a_desk_offers a_desk_offers_a a_desk_wants a_desk_wants_a a_desk_leaves a_desk_leaves_a a_desk_leases a_desk_leases_a a_desk_uses a_desk_uses_a a_od a_od_boxes a_od_boxes_a a_od_words a_od_words_a a_od_weeks a_od_weeks_a a_od_routes a_od_routes_a a_od_offers a_od_offers_a a_od_wants a_od_wants_a a_od_leaves a_od_leaves_a a_od_leases a_od_leases_a a_od_uses a_od_uses_a today lack rate free boxes_r boxes_f words_r words_f weeks_r weeks_f routes_r routes_f offers_r offers_f wants_r wants_f leaves_r leaves_f leases_r leases_f uses_r uses_f o_today o_lack o_rate o_free o_boxes_r o_boxes_f o_words_r o_words_f o_weeks_r o_weeks_f o_routes_r o_routes_f o_offers_r o_offers_f o_wants_r o_wants_f o_leaves_r o_leaves_f o_leases_r o_leases_f o_uses_r o_uses_f h
end MX0_become
/-! EmptyBoxes$Tape.rewind -/
section MX5_rewind
theorem hdX5_rewind : yX5_rewind.cls = RX5 ∧ yX5_rewind.cls ≠ "java/lang/invoke/MethodHandle" ∧ yX5_rewind.cls ≠ "java/lang/invoke/VarHandle" ∧ (parseMethodDescriptor yX5_rewind.desc).map (fun d => d.parameters.length) = some 0 := by decide +kernel
abbrev wX5_rewind (G : Gt) (a_tape a_tape_a : Nat) (tp_many : Int32) (tp_first : Int32) (tp_behind : Int32) : va_W := [(a_tape, .inr (5, [.ref a_tape_a, .int tp_many, .int tp_first, .int tp_behind]))]
abbrev rmX5_rewind : Room := { frames := 0, cells := 0, slots := 0, locals := 0 }
theorem iX5_rewind_X5 : ∀ w ∈ wsX50, w ∈ wsX5_rewind := by decide +kernel
theorem pX5_rewind_19 : Fp wsX5_rewind RX5 19 5 2 .int := ⟨RX5, TX5, 4, tyX5, rfl, iX5_rewind_X5, by decide, by decide +kernel, tyX5_ok, nmX5, rfl, by decide +kernel⟩
theorem pX5_rewind_22 : Fp wsX5_rewind RX5 22 5 3 .int := ⟨RX5, TX5, 4, tyX5, rfl, iX5_rewind_X5, by decide, by decide +kernel, tyX5_ok, nmX5, rfl, by decide +kernel⟩
variable {p : Program} {l : Launch} {e : Env} {s : State} {m : MethodId} {args : Array Value} {below : List Frame} {meth : Method} {c : Code} {A : Nat → Prop} {G : Gt} {a_tape a_tape_a : Nat} {tp_many : Int32} {res : Int32 × Int32}
set_option maxHeartbeats 4000000 in
set_option maxRecDepth 100000 in
theorem k0X5_rewind {l : Launch} (G : Gt) (a_tape a_tape_a : Nat)  (tp_many : Int32) (tp_first : Int32) (tp_behind : Int32) {res : Int32 × Int32} (h : fX5_rewind tp_first tp_behind = some res) : CtV G l yX5_rewind wsX5_rewind rmX5_rewind [.ref a_tape] (wX5_rewind G a_tape a_tape_a tp_many tp_first tp_behind) (wX5_rewind G a_tape a_tape_a tp_many res.1 res.2) := by
  refine CtV.mk (cc := cX5_rewind) (maxL := 1) (ret := none) (own := RX5) (by decide) rfl rfl (Nat.le_of_ble_eq_true rfl) ?_
  intro p e s m below meth c A X ls hl hW
  obtain ⟨hx, hb, -⟩ := id X.1
  have hl : lv_has ls 1 [(0, .ref a_tape)] := hl
  generalize hH : s.heap = H at hW ⊢
  generalize hLo : ([] : List Loc) = locs at hW ⊢
  rw [fX5_rewind] at h
  refine lv_aload_n hx hb dX5_rewind_0 rfl (lv_at hl 0 rfl) ?_
  refine lv_iconst hx hb dX5_rewind_1 qI_0 ?_
  refine g_put X hW (ws' := (wX5_rewind G a_tape a_tape_a tp_many (0 : Int32) tp_behind)) pX5_rewind_19 0 rfl (Nat.le_of_ble_eq_true rfl) rfl rfl rfl dX5_rewind_2 (fun H locs hW => ?_)
  refine lv_aload_n hx hb dX5_rewind_5 rfl (lv_at hl 0 rfl) ?_
  refine lv_iconst hx hb dX5_rewind_6 qI_0 ?_
  refine g_put X hW (ws' := (wX5_rewind G a_tape a_tape_a tp_many (0 : Int32) (0 : Int32))) pX5_rewind_22 0 rfl (Nat.le_of_ble_eq_true rfl) rfl rfl rfl dX5_rewind_7 (fun H locs hW => ?_)
  obtain rfl := Option.some.inj h
  exact g_vret X hW dX5_rewind_10
theorem kcX5_rewind {l : Launch} (G : Gt) (a_tape a_tape_a : Nat)  (tp_many : Int32) (tp_first : Int32) (tp_behind : Int32)  {z_tp_first : Int32} {z_tp_behind : Int32} (h : fX5_rewind tp_first tp_behind = some (z_tp_first, z_tp_behind)) : CtV G l yX5_rewind wsX5_rewind rmX5_rewind [.ref a_tape] (wX5_rewind G a_tape a_tape_a tp_many tp_first tp_behind) (wX5_rewind G a_tape a_tape_a tp_many z_tp_first z_tp_behind) := k0X5_rewind G a_tape a_tape_a tp_many tp_first tp_behind h
end MX5_rewind
/-! EmptyBoxes$Tape.isLetter -/
section MX5_isLetter
theorem hdX5_isLetter : yX5_isLetter.cls = RX5 ∧ yX5_isLetter.cls ≠ "java/lang/invoke/MethodHandle" ∧ yX5_isLetter.cls ≠ "java/lang/invoke/VarHandle" ∧ (parseMethodDescriptor yX5_isLetter.desc).map (fun d => d.parameters.length) = some 1 := by decide +kernel
abbrev rmX5_isLetter : Room := { frames := 0, cells := 0, slots := 0, locals := 0 }
variable {p : Program} {l : Launch} {e : Env} {s : State} {m : MethodId} {args : Array Value} {below : List Frame} {meth : Method} {c : Code} {A : Nat → Prop} {G : Gt} {res : Int32}
set_option maxHeartbeats 4000000 in
set_option maxRecDepth 100000 in
theorem k0X5_isLetter {l : Launch} (G : Gt) (v0 : Int32)  {res : Int32} (h : fX5_isLetter v0 = some res) : CtI G l yX5_isLetter wsX5_isLetter rmX5_isLetter [.int v0] ([] : va_W) res ([] : va_W) := by
  refine CtI.mk (cc := cX5_isLetter) (maxL := 1) (ret := (some .boolean)) (own := RX5) (by decide) rfl rfl (Nat.le_of_ble_eq_true rfl) ?_
  intro p e s m below meth c A X ls hl hW
  obtain ⟨hx, hb, -⟩ := id X.1
  have hl : lv_has ls 1 [(0, .int v0)] := hl
  generalize hH : s.heap = H at hW ⊢
  generalize hLo : ([] : List Loc) = locs at hW ⊢
  rw [fX5_isLetter] at h
  refine lv_iload_n hx hb dX5_isLetter_0 rfl (lv_at hl 0 rfl) ?_
  refine lv_bipush hx hb dX5_isLetter_1 qB_97 ?_
  refine lv_icmp_lt (tgt := 16) hx hb dX5_isLetter_3 (by decide) (fun c3 => ?_) (fun c3 => ?_)
  · have h := (if_pos c3).symm.trans h
    refine lv_iconst hx hb dX5_isLetter_16 qI_0 ?_
    obtain rfl := Option.some.inj h
    exact g_zret X hW rfl dX5_isLetter_17
  · have h := (if_neg c3).symm.trans h
    refine lv_iload_n hx hb dX5_isLetter_6 rfl (lv_at hl 0 rfl) ?_
    refine lv_bipush hx hb dX5_isLetter_7 qB_122 ?_
    refine lv_icmp_gt (tgt := 16) hx hb dX5_isLetter_9 (by decide) (fun c8 => ?_) (fun c8 => ?_)
    · have h := (if_pos c8).symm.trans h
      refine lv_iconst hx hb dX5_isLetter_16 qI_0 ?_
      obtain rfl := Option.some.inj h
      exact g_zret X hW rfl dX5_isLetter_17
    · have h := (if_neg c8).symm.trans h
      refine lv_iconst hx hb dX5_isLetter_12 qI_1 ?_
      refine lv_goto (tgt := 17) hx hb dX5_isLetter_13 (by decide) ?_
      obtain rfl := Option.some.inj h
      exact g_zret X hW rfl dX5_isLetter_17
theorem kcX5_isLetter {l : Launch} (G : Gt) (v0 : Int32)  {r : Int32}  (h : fX5_isLetter v0 = some r) : CtI G l yX5_isLetter wsX5_isLetter rmX5_isLetter [.int v0] ([] : va_W) r ([] : va_W) := k0X5_isLetter G v0 h
end MX5_isLetter
/-! EmptyBoxes$Tape.isAtEnd -/
section MX5_isAtEnd
theorem hdX5_isAtEnd : yX5_isAtEnd.cls = RX5 ∧ yX5_isAtEnd.cls ≠ "java/lang/invoke/MethodHandle" ∧ yX5_isAtEnd.cls ≠ "java/lang/invoke/VarHandle" ∧ (parseMethodDescriptor yX5_isAtEnd.desc).map (fun d => d.parameters.length) = some 0 := by decide +kernel
abbrev wX5_isAtEnd (G : Gt) (a_tape a_tape_a : Nat) (tp_many : Int32) (tp_first : Int32) (tp_behind : Int32) : va_W := [(a_tape, .inr (5, [.ref a_tape_a, .int tp_many, .int tp_first, .int tp_behind]))]
abbrev rmX5_isAtEnd : Room := { frames := 0, cells := 0, slots := 0, locals := 0 }
theorem iX5_isAtEnd_X5 : ∀ w ∈ wsX50, w ∈ wsX5_isAtEnd := by decide +kernel
theorem eX5_isAtEnd_15 : Fk wsX5_isAtEnd RX5 15 5 1 := ⟨RX5, TX5, 4, rfl, iX5_isAtEnd_X5, by decide, by decide +kernel⟩
theorem eX5_isAtEnd_19 : Fk wsX5_isAtEnd RX5 19 5 2 := ⟨RX5, TX5, 4, rfl, iX5_isAtEnd_X5, by decide, by decide +kernel⟩
variable {p : Program} {l : Launch} {e : Env} {s : State} {m : MethodId} {args : Array Value} {below : List Frame} {meth : Method} {c : Code} {A : Nat → Prop} {G : Gt} {a_tape a_tape_a : Nat} {tp_many : Int32} {tp_first : Int32} {tp_behind : Int32} {res : Int32}
set_option maxHeartbeats 4000000 in
set_option maxRecDepth 100000 in
theorem k0X5_isAtEnd {l : Launch} (G : Gt) (a_tape a_tape_a : Nat)  (tp_many : Int32) (tp_first : Int32) (tp_behind : Int32) {res : Int32} (h : fX5_isAtEnd tp_many tp_first = some res) : CtI G l yX5_isAtEnd wsX5_isAtEnd rmX5_isAtEnd [.ref a_tape] (wX5_isAtEnd G a_tape a_tape_a tp_many tp_first tp_behind) res (wX5_isAtEnd G a_tape a_tape_a tp_many tp_first tp_behind) := by
  refine CtI.mk (cc := cX5_isAtEnd) (maxL := 1) (ret := (some .boolean)) (own := RX5) (by decide) rfl rfl (Nat.le_of_ble_eq_true rfl) ?_
  intro p e s m below meth c A X ls hl hW
  obtain ⟨hx, hb, -⟩ := id X.1
  have hl : lv_has ls 1 [(0, .ref a_tape)] := hl
  generalize hH : s.heap = H at hW ⊢
  generalize hLo : ([] : List Loc) = locs at hW ⊢
  rw [fX5_isAtEnd] at h
  refine lv_aload_n hx hb dX5_isAtEnd_0 rfl (lv_at hl 0 rfl) ?_
  refine g_get X hW eX5_isAtEnd_19 0 rfl rfl dX5_isAtEnd_1 ?_
  refine lv_aload_n hx hb dX5_isAtEnd_4 rfl (lv_at hl 0 rfl) ?_
  refine g_get X hW eX5_isAtEnd_15 0 rfl rfl dX5_isAtEnd_5 ?_
  refine lv_icmp_lt (tgt := 15) hx hb dX5_isAtEnd_8 (by decide) (fun c5 => ?_) (fun c5 => ?_)
  · have h := (if_pos c5).symm.trans h
    refine lv_iconst hx hb dX5_isAtEnd_15 qI_0 ?_
    obtain rfl := Option.some.inj h
    exact g_zret X hW rfl dX5_isAtEnd_16
  · have h := (if_neg c5).symm.trans h
    refine lv_iconst hx hb dX5_isAtEnd_11 qI_1 ?_
    refine lv_goto (tgt := 16) hx hb dX5_isAtEnd_12 (by decide) ?_
    obtain rfl := Option.some.inj h
    exact g_zret X hW rfl dX5_isAtEnd_16
theorem kcX5_isAtEnd {l : Launch} (G : Gt) (a_tape a_tape_a : Nat)  (tp_many : Int32) (tp_first : Int32) (tp_behind : Int32) {r : Int32}  (h : fX5_isAtEnd tp_many tp_first = some r) : CtI G l yX5_isAtEnd wsX5_isAtEnd rmX5_isAtEnd [.ref a_tape] (wX5_isAtEnd G a_tape a_tape_a tp_many tp_first tp_behind) r (wX5_isAtEnd G a_tape a_tape_a tp_many tp_first tp_behind) := k0X5_isAtEnd G a_tape a_tape_a tp_many tp_first tp_behind h
end MX5_isAtEnd
/-! EmptyBoxes$Tape.isDigit -/
section MX5_isDigit
theorem hdX5_isDigit : yX5_isDigit.cls = RX5 ∧ yX5_isDigit.cls ≠ "java/lang/invoke/MethodHandle" ∧ yX5_isDigit.cls ≠ "java/lang/invoke/VarHandle" ∧ (parseMethodDescriptor yX5_isDigit.desc).map (fun d => d.parameters.length) = some 1 := by decide +kernel
abbrev rmX5_isDigit : Room := { frames := 0, cells := 0, slots := 0, locals := 0 }
variable {p : Program} {l : Launch} {e : Env} {s : State} {m : MethodId} {args : Array Value} {below : List Frame} {meth : Method} {c : Code} {A : Nat → Prop} {G : Gt} {res : Int32}
set_option maxHeartbeats 4000000 in
set_option maxRecDepth 100000 in
theorem k0X5_isDigit {l : Launch} (G : Gt) (v0 : Int32)  {res : Int32} (h : fX5_isDigit v0 = some res) : CtI G l yX5_isDigit wsX5_isDigit rmX5_isDigit [.int v0] ([] : va_W) res ([] : va_W) := by
  refine CtI.mk (cc := cX5_isDigit) (maxL := 1) (ret := (some .boolean)) (own := RX5) (by decide) rfl rfl (Nat.le_of_ble_eq_true rfl) ?_
  intro p e s m below meth c A X ls hl hW
  obtain ⟨hx, hb, -⟩ := id X.1
  have hl : lv_has ls 1 [(0, .int v0)] := hl
  generalize hH : s.heap = H at hW ⊢
  generalize hLo : ([] : List Loc) = locs at hW ⊢
  rw [fX5_isDigit] at h
  refine lv_iload_n hx hb dX5_isDigit_0 rfl (lv_at hl 0 rfl) ?_
  refine lv_bipush hx hb dX5_isDigit_1 qB_48 ?_
  refine lv_icmp_lt (tgt := 16) hx hb dX5_isDigit_3 (by decide) (fun c3 => ?_) (fun c3 => ?_)
  · have h := (if_pos c3).symm.trans h
    refine lv_iconst hx hb dX5_isDigit_16 qI_0 ?_
    obtain rfl := Option.some.inj h
    exact g_zret X hW rfl dX5_isDigit_17
  · have h := (if_neg c3).symm.trans h
    refine lv_iload_n hx hb dX5_isDigit_6 rfl (lv_at hl 0 rfl) ?_
    refine lv_bipush hx hb dX5_isDigit_7 qB_57 ?_
    refine lv_icmp_gt (tgt := 16) hx hb dX5_isDigit_9 (by decide) (fun c8 => ?_) (fun c8 => ?_)
    · have h := (if_pos c8).symm.trans h
      refine lv_iconst hx hb dX5_isDigit_16 qI_0 ?_
      obtain rfl := Option.some.inj h
      exact g_zret X hW rfl dX5_isDigit_17
    · have h := (if_neg c8).symm.trans h
      refine lv_iconst hx hb dX5_isDigit_12 qI_1 ?_
      refine lv_goto (tgt := 17) hx hb dX5_isDigit_13 (by decide) ?_
      obtain rfl := Option.some.inj h
      exact g_zret X hW rfl dX5_isDigit_17
theorem kcX5_isDigit {l : Launch} (G : Gt) (v0 : Int32)  {r : Int32}  (h : fX5_isDigit v0 = some r) : CtI G l yX5_isDigit wsX5_isDigit rmX5_isDigit [.int v0] ([] : va_W) r ([] : va_W) := k0X5_isDigit G v0 h
end MX5_isDigit
/-! EmptyBoxes$Tape.advance -/
section MX5_advance
theorem hdX5_advance : yX5_advance.cls = RX5 ∧ yX5_advance.cls ≠ "java/lang/invoke/MethodHandle" ∧ yX5_advance.cls ≠ "java/lang/invoke/VarHandle" ∧ (parseMethodDescriptor yX5_advance.desc).map (fun d => d.parameters.length) = some 0 := by decide +kernel
abbrev wX5_advance (G : Gt) (a_tape a_tape_a : Nat) (tp_many : Int32) (tp_first : Int32) (tp_behind : Int32) (tp_f : (Nat → Int32)) : va_W := [(a_tape, .inr (5, [.ref a_tape_a, .int tp_many, .int tp_first, .int tp_behind])), (a_tape_a, .inl (G.2.1, 120, .inl tp_f))]
abbrev rmX5_advance : Room := { frames := 1, cells := 0, slots := 0, locals := 20 }
theorem iX5_advance_X5 : ∀ w ∈ wsX50, w ∈ wsX5_advance := by decide +kernel
theorem eX5_advance_15 : Fk wsX5_advance RX5 15 5 1 := ⟨RX5, TX5, 4, rfl, iX5_advance_X5, by decide, by decide +kernel⟩
theorem eX5_advance_19 : Fk wsX5_advance RX5 19 5 2 := ⟨RX5, TX5, 4, rfl, iX5_advance_X5, by decide, by decide +kernel⟩
theorem eX5_advance_22 : Fk wsX5_advance RX5 22 5 3 := ⟨RX5, TX5, 4, rfl, iX5_advance_X5, by decide, by decide +kernel⟩
theorem eX5_advance_9 : Fk wsX5_advance RX5 9 5 0 := ⟨RX5, TX5, 4, rfl, iX5_advance_X5, by decide, by decide +kernel⟩
theorem pX5_advance_19 : Fp wsX5_advance RX5 19 5 2 .int := ⟨RX5, TX5, 4, tyX5, rfl, iX5_advance_X5, by decide, by decide +kernel, tyX5_ok, nmX5, rfl, by decide +kernel⟩
theorem pX5_advance_22 : Fp wsX5_advance RX5 22 5 3 .int := ⟨RX5, TX5, 4, tyX5, rfl, iX5_advance_X5, by decide, by decide +kernel, tyX5_ok, nmX5, rfl, by decide +kernel⟩
theorem ckX5_advance_X5_isAtEnd_32 : CkV wsX5_advance RX5 32 yX5_isAtEnd wsX5_isAtEnd cX5_isAtEnd 1 (some .boolean) 0 5 := ⟨RX5, TX5, 4, _, rfl, gX5_advance_X5_isAtEnd, rfl, hdX5_isAtEnd⟩
theorem ckX5_advance_X5_isDigit_29 : CkS wsX5_advance RX5 29 yX5_isDigit wsX5_isDigit cX5_isDigit 1 (some .boolean) 1 := ⟨_, gX5_advance_X5_isDigit, rfl, hdX5_isDigit.2⟩
theorem ckX5_advance_X5_isLetter_25 : CkS wsX5_advance RX5 25 yX5_isLetter wsX5_isLetter cX5_isLetter 1 (some .boolean) 1 := ⟨_, gX5_advance_X5_isLetter, rfl, hdX5_isLetter.2⟩
variable {p : Program} {l : Launch} {e : Env} {s : State} {m : MethodId} {args : Array Value} {below : List Frame} {meth : Method} {c : Code} {A : Nat → Prop} {G : Gt} {a_tape a_tape_a : Nat} {tp_many : Int32} {tp_f : (Nat → Int32)} {res : Int32 × Int32 × Int32}
set_option maxHeartbeats 4000000 in
set_option maxRecDepth 100000 in
theorem tX5_advance_197 (X : Bx p s m args meth c cX5_advance 1 wsX5_advance RX5 (some .boolean)) (tp_first : Int32) (tp_behind : Int32)   (h : fX5_advance_197 tp_many tp_first tp_behind = some res) : ∀ (H : Heap) (locs : List Loc), Wo G A s (wX5_advance G a_tape a_tape_a tp_many tp_first tp_behind tp_f) H locs → ∀ ls : Array Slot, lv_has ls 1 [(0, .ref a_tape)] → W p l e rmX5_advance s m args below meth c H locs 0 0 (QI G A below args s res.1 (wX5_advance G a_tape a_tape_a tp_many res.2.1 res.2.2 tp_f)) (F0 m 197 ls []) := by
  obtain ⟨hx, hb, -⟩ := id X.1
  intro H locs hW ls hl
  rw [fX5_advance_197] at h
  refine lv_aload_n hx hb dX5_advance_197 rfl (lv_at hl 0 rfl) ?_
  obtain ⟨r2, hq, h⟩ := bn1_some h
  refine g_cvi X hW (As := []) (ws' := (wX5_advance G a_tape a_tape_a tp_many tp_first tp_behind tp_f)) ckX5_advance_X5_isAtEnd_32 (kcX5_isAtEnd (l := l) G a_tape a_tape_a tp_many tp_first tp_behind hq) ⟨rfl, rfl, Nat.le_of_ble_eq_true rfl, Nat.le_of_ble_eq_true rfl⟩ [0] rfl rfl rfl rfl rfl rfl rfl hl.1 (Nat.le_of_ble_eq_true rfl) ⟨Nat.zero_le _, Nat.zero_le _⟩ dX5_advance_198 (fun H locs hW => ?_)
  refine lv_if_ne (tgt := 208) hx hb dX5_advance_201 (by decide) (fun c3 => ?_) (fun c3 => ?_)
  · have h := (if_neg c3).symm.trans h
    refine lv_iconst hx hb dX5_advance_208 qI_0 ?_
    obtain rfl := Option.some.inj h
    exact g_zret X hW rfl dX5_advance_209
  · have h := (if_pos c3).symm.trans h
    refine lv_iconst hx hb dX5_advance_204 qI_1 ?_
    refine lv_goto (tgt := 209) hx hb dX5_advance_205 (by decide) ?_
    obtain rfl := Option.some.inj h
    exact g_zret X hW rfl dX5_advance_209
set_option maxHeartbeats 4000000 in
set_option maxRecDepth 100000 in
theorem tX5_advance_176 (X : Bx p s m args meth c cX5_advance 1 wsX5_advance RX5 (some .boolean)) (tp_first : Int32) (tp_behind : Int32)   (h : fX5_advance_176 tp_many tp_first tp_behind = some res) : ∀ (H : Heap) (locs : List Loc), Wo G A s (wX5_advance G a_tape a_tape_a tp_many tp_first tp_behind tp_f) H locs → ∀ ls : Array Slot, lv_has ls 1 [(0, .ref a_tape)] → W p l e rmX5_advance s m args below meth c H locs 0 0 (QI G A below args s res.1 (wX5_advance G a_tape a_tape_a tp_many res.2.1 res.2.2 tp_f)) (F0 m 176 ls []) := by
  obtain ⟨hx, hb, -⟩ := id X.1
  intro H locs hW ls hl
  rw [fX5_advance_176] at h
  refine lv_aload_n hx hb dX5_advance_176 rfl (lv_at hl 0 rfl) ?_
  refine g_get X hW eX5_advance_19 0 rfl rfl dX5_advance_177 ?_
  refine lv_aload_n hx hb dX5_advance_180 rfl (lv_at hl 0 rfl) ?_
  refine g_get X hW eX5_advance_15 0 rfl rfl dX5_advance_181 ?_
  refine lv_icmp_ge (tgt := 197) hx hb dX5_advance_184 (by decide) (fun c13 => ?_) (fun c13 => ?_)
  · have h := (if_pos c13).symm.trans h
    exact tX5_advance_197 X tp_first tp_behind h H locs hW ls hl
  · have h := (if_neg c13).symm.trans h
    refine lv_aload_n hx hb dX5_advance_187 rfl (lv_at hl 0 rfl) ?_
    refine lv_dup hx hb dX5_advance_188 rfl ?_
    refine g_get X hW eX5_advance_22 0 rfl rfl dX5_advance_189 ?_
    refine lv_iconst hx hb dX5_advance_192 qI_1 ?_
    refine lv_iadd hx hb dX5_advance_193 ?_
    refine g_put X hW (ws' := (wX5_advance G a_tape a_tape_a tp_many tp_first (tp_behind + (1 : Int32)) tp_f)) pX5_advance_22 0 rfl (Nat.le_of_ble_eq_true rfl) rfl rfl rfl dX5_advance_194 (fun H locs hW => ?_)
    exact tX5_advance_197 X tp_first (tp_behind + (1 : Int32)) h H locs hW ls hl
set_option maxHeartbeats 4000000 in
set_option maxRecDepth 100000 in
theorem tX5_advance_137 (X : Bx p s m args meth c cX5_advance 1 wsX5_advance RX5 (some .boolean)) (tp_first : Int32) (k_197 : Int32 → Option (Int32 × Int32 × Int32)) (Hk_197 : ∀ (tp_behind : Int32), k_197 tp_behind = some res → ∀ (H : Heap) (locs : List Loc), Wo G A s (wX5_advance G a_tape a_tape_a tp_many tp_first tp_behind tp_f) H locs → ∀ ls : Array Slot, lv_has ls 1 [(0, .ref a_tape)] → W p l e rmX5_advance s m args below meth c H locs 0 0 (QI G A below args s res.1 (wX5_advance G a_tape a_tape_a tp_many res.2.1 res.2.2 tp_f)) (F0 m 197 ls [])) : ∀ (n : Nat) (tp_behind : Int32), fX5_advance_137 tp_many tp_f k_197 n tp_behind = some res → ∀ (H : Heap) (locs : List Loc), Wo G A s (wX5_advance G a_tape a_tape_a tp_many tp_first tp_behind tp_f) H locs → ∀ ls : Array Slot, lv_has ls 1 [(0, .ref a_tape)] → W p l e rmX5_advance s m args below meth c H locs 0 0 (QI G A below args s res.1 (wX5_advance G a_tape a_tape_a tp_many res.2.1 res.2.2 tp_f)) (F0 m 137 ls []) := by
  obtain ⟨hx, hb, -⟩ := id X.1
  intro n
  induction n with
  | zero => intro tp_behind h; rw [fX5_advance_137] at h; cases h
  | succ n ih =>
    intro tp_behind h H locs hW ls hl
    rw [fX5_advance_137] at h
    refine lv_aload_n hx hb dX5_advance_137 rfl (lv_at hl 0 rfl) ?_
    refine g_get X hW eX5_advance_22 0 rfl rfl dX5_advance_138 ?_
    refine lv_aload_n hx hb dX5_advance_141 rfl (lv_at hl 0 rfl) ?_
    refine g_get X hW eX5_advance_15 0 rfl rfl dX5_advance_142 ?_
    refine lv_icmp_ge (tgt := 197) hx hb dX5_advance_145 (by decide) (fun c24 => ?_) (fun c24 => ?_)
    · have h := (if_pos c24).symm.trans h
      exact Hk_197 tp_behind h H locs hW ls hl
    · have h := (if_neg c24).symm.trans h
      refine lv_aload_n hx hb dX5_advance_148 rfl (lv_at hl 0 rfl) ?_
      refine g_get X hW eX5_advance_9 0 rfl rfl dX5_advance_149 ?_
      refine lv_aload_n hx hb dX5_advance_152 rfl (lv_at hl 0 rfl) ?_
      refine g_get X hW eX5_advance_22 0 rfl rfl dX5_advance_153 ?_
      obtain ⟨g29, h⟩ := gd_some h
      refine g_ald X hW 1 rfl g29 dX5_advance_156 ?_
      obtain ⟨r30, hq, h⟩ := bn1_some h
      refine g_csi X hW (As := [.int (tp_f tp_behind.toNatClampNeg)]) (ws' := (wX5_advance G a_tape a_tape_a tp_many tp_first tp_behind tp_f)) ckX5_advance_X5_isDigit_29 (kcX5_isDigit (l := l) G (tp_f tp_behind.toNatClampNeg) hq) ⟨rfl, rfl, Nat.le_of_ble_eq_true rfl, Nat.le_of_ble_eq_true rfl⟩ [] rfl rfl rfl rfl rfl rfl hl.1 (Nat.le_of_ble_eq_true rfl) ⟨Nat.zero_le _, Nat.zero_le _⟩ dX5_advance_157 (fun H locs hW => ?_)
      refine lv_if_eq (tgt := 197) hx hb dX5_advance_160 (by decide) (fun c31 => ?_) (fun c31 => ?_)
      · have h := (if_pos c31).symm.trans h
        exact Hk_197 tp_behind h H locs hW ls hl
      · have h := (if_neg c31).symm.trans h
        refine lv_aload_n hx hb dX5_advance_163 rfl (lv_at hl 0 rfl) ?_
        refine lv_dup hx hb dX5_advance_164 rfl ?_
        refine g_get X hW eX5_advance_22 0 rfl rfl dX5_advance_165 ?_
        refine lv_iconst hx hb dX5_advance_168 qI_1 ?_
        refine lv_iadd hx hb dX5_advance_169 ?_
        refine g_put X hW (ws' := (wX5_advance G a_tape a_tape_a tp_many tp_first (tp_behind + (1 : Int32)) tp_f)) pX5_advance_22 0 rfl (Nat.le_of_ble_eq_true rfl) rfl rfl rfl dX5_advance_170 (fun H locs hW => ?_)
        refine lv_goto (tgt := 137) hx hb dX5_advance_173 (by decide) ?_
        exact ih (tp_behind + (1 : Int32)) h H locs hW ls hl
set_option maxHeartbeats 4000000 in
set_option maxRecDepth 100000 in
theorem tX5_advance_111 (X : Bx p s m args meth c cX5_advance 1 wsX5_advance RX5 (some .boolean)) (tp_first : Int32) (tp_behind : Int32)   (h : fX5_advance_111 tp_many tp_first tp_behind tp_f = some res) : ∀ (H : Heap) (locs : List Loc), Wo G A s (wX5_advance G a_tape a_tape_a tp_many tp_first tp_behind tp_f) H locs → ∀ ls : Array Slot, lv_has ls 1 [(0, .ref a_tape)] → W p l e rmX5_advance s m args below meth c H locs 0 0 (QI G A below args s res.1 (wX5_advance G a_tape a_tape_a tp_many res.2.1 res.2.2 tp_f)) (F0 m 111 ls []) := by
  obtain ⟨hx, hb, -⟩ := id X.1
  intro H locs hW ls hl
  rw [fX5_advance_111] at h
  refine lv_aload_n hx hb dX5_advance_111 rfl (lv_at hl 0 rfl) ?_
  refine g_get X hW eX5_advance_19 0 rfl rfl dX5_advance_112 ?_
  refine lv_aload_n hx hb dX5_advance_115 rfl (lv_at hl 0 rfl) ?_
  refine g_get X hW eX5_advance_15 0 rfl rfl dX5_advance_116 ?_
  refine lv_icmp_ge (tgt := 176) hx hb dX5_advance_119 (by decide) (fun c43 => ?_) (fun c43 => ?_)
  · have h := (if_pos c43).symm.trans h
    exact tX5_advance_176 X tp_first tp_behind h H locs hW ls hl
  · have h := (if_neg c43).symm.trans h
    refine lv_aload_n hx hb dX5_advance_122 rfl (lv_at hl 0 rfl) ?_
    refine g_get X hW eX5_advance_9 0 rfl rfl dX5_advance_123 ?_
    refine lv_aload_n hx hb dX5_advance_126 rfl (lv_at hl 0 rfl) ?_
    refine g_get X hW eX5_advance_19 0 rfl rfl dX5_advance_127 ?_
    obtain ⟨g48, h⟩ := gd_some h
    refine g_ald X hW 1 rfl g48 dX5_advance_130 ?_
    obtain ⟨r49, hq, h⟩ := bn1_some h
    refine g_csi X hW (As := [.int (tp_f tp_first.toNatClampNeg)]) (ws' := (wX5_advance G a_tape a_tape_a tp_many tp_first tp_behind tp_f)) ckX5_advance_X5_isDigit_29 (kcX5_isDigit (l := l) G (tp_f tp_first.toNatClampNeg) hq) ⟨rfl, rfl, Nat.le_of_ble_eq_true rfl, Nat.le_of_ble_eq_true rfl⟩ [] rfl rfl rfl rfl rfl rfl hl.1 (Nat.le_of_ble_eq_true rfl) ⟨Nat.zero_le _, Nat.zero_le _⟩ dX5_advance_131 (fun H locs hW => ?_)
    refine lv_if_eq (tgt := 176) hx hb dX5_advance_134 (by decide) (fun c50 => ?_) (fun c50 => ?_)
    · have h := (if_pos c50).symm.trans h
      exact tX5_advance_176 X tp_first tp_behind h H locs hW ls hl
    · have h := (if_neg c50).symm.trans h
      exact tX5_advance_137 X tp_first (fun tp_behind_q51 => fX5_advance_197 tp_many tp_first tp_behind_q51) (fun tp_behind_q51 h H locs hW ls hl => by exact tX5_advance_197 X tp_first tp_behind_q51 h H locs hW ls hl) FU tp_behind h H locs hW ls hl
set_option maxHeartbeats 4000000 in
set_option maxRecDepth 100000 in
theorem tX5_advance_72 (X : Bx p s m args meth c cX5_advance 1 wsX5_advance RX5 (some .boolean)) (tp_first : Int32) (k_197 : Int32 → Option (Int32 × Int32 × Int32)) (Hk_197 : ∀ (tp_behind : Int32), k_197 tp_behind = some res → ∀ (H : Heap) (locs : List Loc), Wo G A s (wX5_advance G a_tape a_tape_a tp_many tp_first tp_behind tp_f) H locs → ∀ ls : Array Slot, lv_has ls 1 [(0, .ref a_tape)] → W p l e rmX5_advance s m args below meth c H locs 0 0 (QI G A below args s res.1 (wX5_advance G a_tape a_tape_a tp_many res.2.1 res.2.2 tp_f)) (F0 m 197 ls [])) : ∀ (n : Nat) (tp_behind : Int32), fX5_advance_72 tp_many tp_f k_197 n tp_behind = some res → ∀ (H : Heap) (locs : List Loc), Wo G A s (wX5_advance G a_tape a_tape_a tp_many tp_first tp_behind tp_f) H locs → ∀ ls : Array Slot, lv_has ls 1 [(0, .ref a_tape)] → W p l e rmX5_advance s m args below meth c H locs 0 0 (QI G A below args s res.1 (wX5_advance G a_tape a_tape_a tp_many res.2.1 res.2.2 tp_f)) (F0 m 72 ls []) := by
  obtain ⟨hx, hb, -⟩ := id X.1
  intro n
  induction n with
  | zero => intro tp_behind h; rw [fX5_advance_72] at h; cases h
  | succ n ih =>
    intro tp_behind h H locs hW ls hl
    rw [fX5_advance_72] at h
    refine lv_aload_n hx hb dX5_advance_72 rfl (lv_at hl 0 rfl) ?_
    refine g_get X hW eX5_advance_22 0 rfl rfl dX5_advance_73 ?_
    refine lv_aload_n hx hb dX5_advance_76 rfl (lv_at hl 0 rfl) ?_
    refine g_get X hW eX5_advance_15 0 rfl rfl dX5_advance_77 ?_
    refine lv_icmp_ge (tgt := 197) hx hb dX5_advance_80 (by decide) (fun c56 => ?_) (fun c56 => ?_)
    · have h := (if_pos c56).symm.trans h
      exact Hk_197 tp_behind h H locs hW ls hl
    · have h := (if_neg c56).symm.trans h
      refine lv_aload_n hx hb dX5_advance_83 rfl (lv_at hl 0 rfl) ?_
      refine g_get X hW eX5_advance_9 0 rfl rfl dX5_advance_84 ?_
      refine lv_aload_n hx hb dX5_advance_87 rfl (lv_at hl 0 rfl) ?_
      refine g_get X hW eX5_advance_22 0 rfl rfl dX5_advance_88 ?_
      obtain ⟨g61, h⟩ := gd_some h
      refine g_ald X hW 1 rfl g61 dX5_advance_91 ?_
      obtain ⟨r62, hq, h⟩ := bn1_some h
      refine g_csi X hW (As := [.int (tp_f tp_behind.toNatClampNeg)]) (ws' := (wX5_advance G a_tape a_tape_a tp_many tp_first tp_behind tp_f)) ckX5_advance_X5_isLetter_25 (kcX5_isLetter (l := l) G (tp_f tp_behind.toNatClampNeg) hq) ⟨rfl, rfl, Nat.le_of_ble_eq_true rfl, Nat.le_of_ble_eq_true rfl⟩ [] rfl rfl rfl rfl rfl rfl hl.1 (Nat.le_of_ble_eq_true rfl) ⟨Nat.zero_le _, Nat.zero_le _⟩ dX5_advance_92 (fun H locs hW => ?_)
      refine lv_if_eq (tgt := 197) hx hb dX5_advance_95 (by decide) (fun c63 => ?_) (fun c63 => ?_)
      · have h := (if_pos c63).symm.trans h
        exact Hk_197 tp_behind h H locs hW ls hl
      · have h := (if_neg c63).symm.trans h
        refine lv_aload_n hx hb dX5_advance_98 rfl (lv_at hl 0 rfl) ?_
        refine lv_dup hx hb dX5_advance_99 rfl ?_
        refine g_get X hW eX5_advance_22 0 rfl rfl dX5_advance_100 ?_
        refine lv_iconst hx hb dX5_advance_103 qI_1 ?_
        refine lv_iadd hx hb dX5_advance_104 ?_
        refine g_put X hW (ws' := (wX5_advance G a_tape a_tape_a tp_many tp_first (tp_behind + (1 : Int32)) tp_f)) pX5_advance_22 0 rfl (Nat.le_of_ble_eq_true rfl) rfl rfl rfl dX5_advance_105 (fun H locs hW => ?_)
        refine lv_goto (tgt := 72) hx hb dX5_advance_108 (by decide) ?_
        exact ih (tp_behind + (1 : Int32)) h H locs hW ls hl
set_option maxHeartbeats 4000000 in
set_option maxRecDepth 100000 in
theorem tX5_advance_38 (X : Bx p s m args meth c cX5_advance 1 wsX5_advance RX5 (some .boolean)) (tp_first : Int32) (tp_behind : Int32)   (h : fX5_advance_38 tp_many tp_behind tp_f = some res) : ∀ (H : Heap) (locs : List Loc), Wo G A s (wX5_advance G a_tape a_tape_a tp_many tp_first tp_behind tp_f) H locs → ∀ ls : Array Slot, lv_has ls 1 [(0, .ref a_tape)] → W p l e rmX5_advance s m args below meth c H locs 0 0 (QI G A below args s res.1 (wX5_advance G a_tape a_tape_a tp_many res.2.1 res.2.2 tp_f)) (F0 m 38 ls []) := by
  obtain ⟨hx, hb, -⟩ := id X.1
  intro H locs hW ls hl
  rw [fX5_advance_38] at h
  refine lv_aload_n hx hb dX5_advance_38 rfl (lv_at hl 0 rfl) ?_
  refine lv_aload_n hx hb dX5_advance_39 rfl (lv_at hl 0 rfl) ?_
  refine g_get X hW eX5_advance_22 0 rfl rfl dX5_advance_40 ?_
  refine g_put X hW (ws' := (wX5_advance G a_tape a_tape_a tp_many tp_behind tp_behind tp_f)) pX5_advance_19 0 rfl (Nat.le_of_ble_eq_true rfl) rfl rfl rfl dX5_advance_43 (fun H locs hW => ?_)
  refine lv_aload_n hx hb dX5_advance_46 rfl (lv_at hl 0 rfl) ?_
  refine g_get X hW eX5_advance_19 0 rfl rfl dX5_advance_47 ?_
  refine lv_aload_n hx hb dX5_advance_50 rfl (lv_at hl 0 rfl) ?_
  refine g_get X hW eX5_advance_15 0 rfl rfl dX5_advance_51 ?_
  refine lv_icmp_ge (tgt := 111) hx hb dX5_advance_54 (by decide) (fun c79 => ?_) (fun c79 => ?_)
  · have h := (if_pos c79).symm.trans h
    exact tX5_advance_111 X tp_behind tp_behind h H locs hW ls hl
  · have h := (if_neg c79).symm.trans h
    refine lv_aload_n hx hb dX5_advance_57 rfl (lv_at hl 0 rfl) ?_
    refine g_get X hW eX5_advance_9 0 rfl rfl dX5_advance_58 ?_
    refine lv_aload_n hx hb dX5_advance_61 rfl (lv_at hl 0 rfl) ?_
    refine g_get X hW eX5_advance_19 0 rfl rfl dX5_advance_62 ?_
    obtain ⟨g84, h⟩ := gd_some h
    refine g_ald X hW 1 rfl g84 dX5_advance_65 ?_
    obtain ⟨r85, hq, h⟩ := bn1_some h
    refine g_csi X hW (As := [.int (tp_f tp_behind.toNatClampNeg)]) (ws' := (wX5_advance G a_tape a_tape_a tp_many tp_behind tp_behind tp_f)) ckX5_advance_X5_isLetter_25 (kcX5_isLetter (l := l) G (tp_f tp_behind.toNatClampNeg) hq) ⟨rfl, rfl, Nat.le_of_ble_eq_true rfl, Nat.le_of_ble_eq_true rfl⟩ [] rfl rfl rfl rfl rfl rfl hl.1 (Nat.le_of_ble_eq_true rfl) ⟨Nat.zero_le _, Nat.zero_le _⟩ dX5_advance_66 (fun H locs hW => ?_)
    refine lv_if_eq (tgt := 111) hx hb dX5_advance_69 (by decide) (fun c86 => ?_) (fun c86 => ?_)
    · have h := (if_pos c86).symm.trans h
      exact tX5_advance_111 X tp_behind tp_behind h H locs hW ls hl
    · have h := (if_neg c86).symm.trans h
      exact tX5_advance_72 X tp_behind (fun tp_behind_q87 => fX5_advance_197 tp_many tp_behind tp_behind_q87) (fun tp_behind_q87 h H locs hW ls hl => by exact tX5_advance_197 X tp_behind tp_behind_q87 h H locs hW ls hl) FU tp_behind h H locs hW ls hl
set_option maxHeartbeats 4000000 in
set_option maxRecDepth 100000 in
theorem tX5_advance_0 (X : Bx p s m args meth c cX5_advance 1 wsX5_advance RX5 (some .boolean)) (tp_first : Int32) (k_38 : Int32 → Option (Int32 × Int32 × Int32)) (Hk_38 : ∀ (tp_behind : Int32), k_38 tp_behind = some res → ∀ (H : Heap) (locs : List Loc), Wo G A s (wX5_advance G a_tape a_tape_a tp_many tp_first tp_behind tp_f) H locs → ∀ ls : Array Slot, lv_has ls 1 [(0, .ref a_tape)] → W p l e rmX5_advance s m args below meth c H locs 0 0 (QI G A below args s res.1 (wX5_advance G a_tape a_tape_a tp_many res.2.1 res.2.2 tp_f)) (F0 m 38 ls [])) : ∀ (n : Nat) (tp_behind : Int32), fX5_advance_0 tp_many tp_f k_38 n tp_behind = some res → ∀ (H : Heap) (locs : List Loc), Wo G A s (wX5_advance G a_tape a_tape_a tp_many tp_first tp_behind tp_f) H locs → ∀ ls : Array Slot, lv_has ls 1 [(0, .ref a_tape)] → W p l e rmX5_advance s m args below meth c H locs 0 0 (QI G A below args s res.1 (wX5_advance G a_tape a_tape_a tp_many res.2.1 res.2.2 tp_f)) (F0 m 0 ls []) := by
  obtain ⟨hx, hb, -⟩ := id X.1
  intro n
  induction n with
  | zero => intro tp_behind h; rw [fX5_advance_0] at h; cases h
  | succ n ih =>
    intro tp_behind h H locs hW ls hl
    rw [fX5_advance_0] at h
    refine lv_aload_n hx hb dX5_advance_0 rfl (lv_at hl 0 rfl) ?_
    refine g_get X hW eX5_advance_22 0 rfl rfl dX5_advance_1 ?_
    refine lv_aload_n hx hb dX5_advance_4 rfl (lv_at hl 0 rfl) ?_
    refine g_get X hW eX5_advance_15 0 rfl rfl dX5_advance_5 ?_
    refine lv_icmp_ge (tgt := 38) hx hb dX5_advance_8 (by decide) (fun c92 => ?_) (fun c92 => ?_)
    · have h := (if_pos c92).symm.trans h
      exact Hk_38 tp_behind h H locs hW ls hl
    · have h := (if_neg c92).symm.trans h
      refine lv_aload_n hx hb dX5_advance_11 rfl (lv_at hl 0 rfl) ?_
      refine g_get X hW eX5_advance_9 0 rfl rfl dX5_advance_12 ?_
      refine lv_aload_n hx hb dX5_advance_15 rfl (lv_at hl 0 rfl) ?_
      refine g_get X hW eX5_advance_22 0 rfl rfl dX5_advance_16 ?_
      obtain ⟨g97, h⟩ := gd_some h
      refine g_ald X hW 1 rfl g97 dX5_advance_19 ?_
      refine lv_bipush hx hb dX5_advance_20 qB_32 ?_
      refine lv_icmp_ne (tgt := 38) hx hb dX5_advance_22 (by decide) (fun c99 => ?_) (fun c99 => ?_)
      · have h := (if_neg c99).symm.trans h
        exact Hk_38 tp_behind h H locs hW ls hl
      · have h := (if_pos c99).symm.trans h
        refine lv_aload_n hx hb dX5_advance_25 rfl (lv_at hl 0 rfl) ?_
        refine lv_dup hx hb dX5_advance_26 rfl ?_
        refine g_get X hW eX5_advance_22 0 rfl rfl dX5_advance_27 ?_
        refine lv_iconst hx hb dX5_advance_30 qI_1 ?_
        refine lv_iadd hx hb dX5_advance_31 ?_
        refine g_put X hW (ws' := (wX5_advance G a_tape a_tape_a tp_many tp_first (tp_behind + (1 : Int32)) tp_f)) pX5_advance_22 0 rfl (Nat.le_of_ble_eq_true rfl) rfl rfl rfl dX5_advance_32 (fun H locs hW => ?_)
        refine lv_goto (tgt := 0) hx hb dX5_advance_35 (by decide) ?_
        exact ih (tp_behind + (1 : Int32)) h H locs hW ls hl
set_option maxHeartbeats 4000000 in
set_option maxRecDepth 100000 in
theorem k0X5_advance {l : Launch} (G : Gt) (a_tape a_tape_a : Nat)  (tp_many : Int32) (tp_first : Int32) (tp_behind : Int32) (tp_f : (Nat → Int32)) {res : Int32 × Int32 × Int32} (h : fX5_advance tp_many tp_first tp_behind tp_f = some res) : CtI G l yX5_advance wsX5_advance rmX5_advance [.ref a_tape] (wX5_advance G a_tape a_tape_a tp_many tp_first tp_behind tp_f) res.1 (wX5_advance G a_tape a_tape_a tp_many res.2.1 res.2.2 tp_f) := by
  refine CtI.mk (cc := cX5_advance) (maxL := 1) (ret := (some .boolean)) (own := RX5) (by decide) rfl rfl (Nat.le_of_ble_eq_true rfl) ?_
  intro p e s m below meth c A X ls hl hW
  obtain ⟨hx, hb, -⟩ := id X.1
  have hl : lv_has ls 1 [(0, .ref a_tape)] := hl
  generalize hH : s.heap = H at hW ⊢
  generalize hLo : ([] : List Loc) = locs at hW ⊢
  rw [fX5_advance] at h
  exact tX5_advance_0 X tp_first (fun tp_behind_q107 => fX5_advance_38 tp_many tp_behind_q107 tp_f) (fun tp_behind_q107 h H locs hW ls hl => by exact tX5_advance_38 X tp_first tp_behind_q107 h H locs hW ls hl) FU tp_behind h H locs hW ls hl
theorem kcX5_advance {l : Launch} (G : Gt) (a_tape a_tape_a : Nat)  (tp_many : Int32) (tp_first : Int32) (tp_behind : Int32) (tp_f : (Nat → Int32)) {r : Int32} {z_tp_first : Int32} {z_tp_behind : Int32} (h : fX5_advance tp_many tp_first tp_behind tp_f = some (r, z_tp_first, z_tp_behind)) : CtI G l yX5_advance wsX5_advance rmX5_advance [.ref a_tape] (wX5_advance G a_tape a_tape_a tp_many tp_first tp_behind tp_f) r (wX5_advance G a_tape a_tape_a tp_many z_tp_first z_tp_behind tp_f) := k0X5_advance G a_tape a_tape_a tp_many tp_first tp_behind tp_f h
end MX5_advance
/-! EmptyBoxes$Tape.says -/
section MX5_says
theorem hdX5_says : yX5_says.cls = RX5 ∧ yX5_says.cls ≠ "java/lang/invoke/MethodHandle" ∧ yX5_says.cls ≠ "java/lang/invoke/VarHandle" ∧ (parseMethodDescriptor yX5_says.desc).map (fun d => d.parameters.length) = some 1 := by decide +kernel
abbrev wX5_says (G : Gt) (a_tape a_tape_a : Nat) (tp_many : Int32) (tp_first : Int32) (tp_behind : Int32) (tp_f : (Nat → Int32)) : va_W := [(a_tape, .inr (5, [.ref a_tape_a, .int tp_many, .int tp_first, .int tp_behind])), (a_tape_a, .inl (G.2.1, 120, .inl tp_f))]
abbrev rmX5_says : Room := { frames := 4, cells := 0, slots := 0, locals := 85 }
theorem iX5_says_X5 : ∀ w ∈ wsX50, w ∈ wsX5_says := by decide +kernel
theorem eX5_says_15 : Fk wsX5_says RX5 15 5 1 := ⟨RX5, TX5, 4, rfl, iX5_says_X5, by decide, by decide +kernel⟩
theorem eX5_says_19 : Fk wsX5_says RX5 19 5 2 := ⟨RX5, TX5, 4, rfl, iX5_says_X5, by decide, by decide +kernel⟩
theorem eX5_says_22 : Fk wsX5_says RX5 22 5 3 := ⟨RX5, TX5, 4, rfl, iX5_says_X5, by decide, by decide +kernel⟩
theorem eX5_says_9 : Fk wsX5_says RX5 9 5 0 := ⟨RX5, TX5, 4, rfl, iX5_says_X5, by decide, by decide +kernel⟩
theorem csX5_says_36 : CkT wsX5_says RX5 36 yJ0_length_8abf5 wsJ0_length_8abf5 cJ0_length_8abf5 1 (some .int) 0 := ⟨_, gX5_says_J0_length_8abf5, rfl, by decide +kernel⟩
theorem csX5_says_42 : CkT wsX5_says RX5 42 yJ0_charAt_5068e wsJ0_charAt_5068e cJ0_charAt_5068e 2 (some .char) 1 := ⟨_, gX5_says_J0_charAt_5068e, rfl, by decide +kernel⟩
variable {p : Program} {l : Launch} {e : Env} {s : State} {m : MethodId} {args : Array Value} {below : List Frame} {meth : Method} {c : Code} {A : Nat → Prop} {G : Gt} {a_tape a_tape_a : Nat} {tp_many : Int32} {tp_first : Int32} {tp_behind : Int32} {tp_f : (Nat → Int32)} {res : Int32}
set_option maxHeartbeats 4000000 in
set_option maxRecDepth 100000 in
theorem tX5_says_20 (X : Bx p s m args meth c cX5_says 3 wsX5_says RX5 (some .boolean)) (v1 : Nat)   : ∀ (n : Nat) (v2 : Int32), fX5_says_20 v1 tp_many tp_first tp_f n v2 = some res → ∀ (H : Heap) (locs : List Loc), Wo G A s (wX5_says G a_tape a_tape_a tp_many tp_first tp_behind tp_f) H locs → ∀ ls : Array Slot, lv_has ls 3 [(0, .ref a_tape), (1, .ref (G.2.2.1 v1)), (2, .int v2)] → W p l e rmX5_says s m args below meth c H locs 0 0 (QI G A below args s res (wX5_says G a_tape a_tape_a tp_many tp_first tp_behind tp_f)) (F0 m 20 ls []) := by
  obtain ⟨hx, hb, -⟩ := id X.1
  intro n
  induction n with
  | zero => intro v2 h; rw [fX5_says_20] at h; cases h
  | succ n ih =>
    intro v2 h H locs hW ls hl
    rw [fX5_says_20] at h
    refine lv_iload_n hx hb dX5_says_20 rfl (lv_at hl 2 rfl) ?_
    refine lv_aload_n hx hb dX5_says_21 rfl (lv_at hl 1 rfl) ?_
    obtain ⟨g3, h⟩ := gd_some h
    refine g_slen X hW csX5_says_36 hl.1 g3 ⟨Nat.le_of_ble_eq_true rfl, Nat.le_of_ble_eq_true rfl⟩ (Nat.le_of_ble_eq_true rfl) ⟨Nat.zero_le _, Nat.zero_le _⟩ dX5_says_22 (fun H locs hW => ?_)
    refine lv_icmp_ge (tgt := 68) hx hb dX5_says_25 (by decide) (fun c4 => ?_) (fun c4 => ?_)
    · have h := (if_pos c4).symm.trans h
      refine lv_iconst hx hb dX5_says_68 qI_1 ?_
      obtain rfl := Option.some.inj h
      exact g_zret X hW rfl dX5_says_69
    · have h := (if_neg c4).symm.trans h
      refine lv_aload_n hx hb dX5_says_28 rfl (lv_at hl 0 rfl) ?_
      refine g_get X hW eX5_says_19 0 rfl rfl dX5_says_29 ?_
      refine lv_iload_n hx hb dX5_says_32 rfl (lv_at hl 2 rfl) ?_
      refine lv_iadd hx hb dX5_says_33 ?_
      refine lv_aload_n hx hb dX5_says_34 rfl (lv_at hl 0 rfl) ?_
      refine g_get X hW eX5_says_15 0 rfl rfl dX5_says_35 ?_
      refine lv_icmp_ge (tgt := 68) hx hb dX5_says_38 (by decide) (fun c13 => ?_) (fun c13 => ?_)
      · have h := (if_pos c13).symm.trans h
        refine lv_iconst hx hb dX5_says_68 qI_1 ?_
        obtain rfl := Option.some.inj h
        exact g_zret X hW rfl dX5_says_69
      · have h := (if_neg c13).symm.trans h
        refine lv_aload_n hx hb dX5_says_41 rfl (lv_at hl 0 rfl) ?_
        refine g_get X hW eX5_says_9 0 rfl rfl dX5_says_42 ?_
        refine lv_aload_n hx hb dX5_says_45 rfl (lv_at hl 0 rfl) ?_
        refine g_get X hW eX5_says_19 0 rfl rfl dX5_says_46 ?_
        refine lv_iload_n hx hb dX5_says_49 rfl (lv_at hl 2 rfl) ?_
        refine lv_iadd hx hb dX5_says_50 ?_
        obtain ⟨g22, h⟩ := gd_some h
        refine g_ald X hW 1 rfl g22 dX5_says_51 ?_
        refine lv_aload_n hx hb dX5_says_52 rfl (lv_at hl 1 rfl) ?_
        refine lv_iload_n hx hb dX5_says_53 rfl (lv_at hl 2 rfl) ?_
        obtain ⟨g25, h⟩ := gd_some h
        refine g_schar X hW csX5_says_42 hl.1 g25 ⟨Nat.le_of_ble_eq_true rfl, Nat.le_of_ble_eq_true rfl⟩ (Nat.le_of_ble_eq_true rfl) ⟨Nat.zero_le _, Nat.zero_le _⟩ dX5_says_54 (fun H locs hW => ?_)
        refine lv_icmp_eq (tgt := 62) hx hb dX5_says_57 (by decide) (fun c26 => ?_) (fun c26 => ?_)
        · have h := (if_pos c26).symm.trans h
          refine lv_iinc (v := (v2 + (1 : Int32))) (lv' := [(2, .int (v2 + (1 : Int32))), (0, .ref a_tape), (1, .ref (G.2.2.1 v1))]) hx hb dX5_says_62 hl (k := 2) rfl (congrArg (fun z => v2 + z) qI_1) (by decide) rfl (fun ls hl => ?_)
          refine lv_goto (tgt := 20) hx hb dX5_says_65 (by decide) ?_
          exact ih (v2 + (1 : Int32)) h H locs hW ls (lv_sub hl [1, 2, 0] rfl)
        · have h := (if_neg c26).symm.trans h
          refine lv_iconst hx hb dX5_says_60 qI_0 ?_
          obtain rfl := Option.some.inj h
          exact g_zret X hW rfl dX5_says_61
set_option maxHeartbeats 4000000 in
set_option maxRecDepth 100000 in
theorem k0X5_says {l : Launch} (G : Gt) (a_tape a_tape_a : Nat) (v1 : Nat) (tp_many : Int32) (tp_first : Int32) (tp_behind : Int32) (tp_f : (Nat → Int32)) {res : Int32} (h : fX5_says v1 tp_many tp_first tp_behind tp_f = some res) : CtI G l yX5_says wsX5_says rmX5_says [.ref a_tape, .ref (G.2.2.1 v1)] (wX5_says G a_tape a_tape_a tp_many tp_first tp_behind tp_f) res (wX5_says G a_tape a_tape_a tp_many tp_first tp_behind tp_f) := by
  refine CtI.mk (cc := cX5_says) (maxL := 3) (ret := (some .boolean)) (own := RX5) (by decide) rfl rfl (Nat.le_of_ble_eq_true rfl) ?_
  intro p e s m below meth c A X ls hl hW
  obtain ⟨hx, hb, -⟩ := id X.1
  have hl : lv_has ls 3 [(0, .ref a_tape), (1, .ref (G.2.2.1 v1))] := hl
  generalize hH : s.heap = H at hW ⊢
  generalize hLo : ([] : List Loc) = locs at hW ⊢
  rw [fX5_says] at h
  refine lv_aload_n hx hb dX5_says_0 rfl (lv_at hl 0 rfl) ?_
  refine g_get X hW eX5_says_22 0 rfl rfl dX5_says_1 ?_
  refine lv_aload_n hx hb dX5_says_4 rfl (lv_at hl 0 rfl) ?_
  refine g_get X hW eX5_says_19 0 rfl rfl dX5_says_5 ?_
  refine lv_isub hx hb dX5_says_8 ?_
  refine lv_aload_n hx hb dX5_says_9 rfl (lv_at hl 1 rfl) ?_
  obtain ⟨g37, h⟩ := gd_some h
  refine g_slen X hW csX5_says_36 hl.1 g37 ⟨Nat.le_of_ble_eq_true rfl, Nat.le_of_ble_eq_true rfl⟩ (Nat.le_of_ble_eq_true rfl) ⟨Nat.zero_le _, Nat.zero_le _⟩ dX5_says_10 (fun H locs hW => ?_)
  refine lv_icmp_eq (tgt := 18) hx hb dX5_says_13 (by decide) (fun c38 => ?_) (fun c38 => ?_)
  · have h := (if_pos c38).symm.trans h
    refine lv_iconst hx hb dX5_says_18 qI_0 ?_
    refine lv_istore_n (lv' := [(2, .int (0 : Int32)), (0, .ref a_tape), (1, .ref (G.2.2.1 v1))]) hx hb dX5_says_19 rfl hl (by decide) rfl (fun ls hl => ?_)
    exact tX5_says_20 X v1 FU (0 : Int32) h H locs hW ls (lv_sub hl [1, 2, 0] rfl)
  · have h := (if_neg c38).symm.trans h
    refine lv_iconst hx hb dX5_says_16 qI_0 ?_
    obtain rfl := Option.some.inj h
    exact g_zret X hW rfl dX5_says_17
theorem kcX5_says {l : Launch} (G : Gt) (a_tape a_tape_a : Nat) (v1 : Nat) (tp_many : Int32) (tp_first : Int32) (tp_behind : Int32) (tp_f : (Nat → Int32)) {r : Int32}  (h : fX5_says v1 tp_many tp_first tp_behind tp_f = some r) : CtI G l yX5_says wsX5_says rmX5_says [.ref a_tape, .ref (G.2.2.1 v1)] (wX5_says G a_tape a_tape_a tp_many tp_first tp_behind tp_f) r (wX5_says G a_tape a_tape_a tp_many tp_first tp_behind tp_f) := k0X5_says G a_tape a_tape_a v1 tp_many tp_first tp_behind tp_f h
end MX5_says
/-! EmptyBoxes$LeaseText.termSaid -/
section MX1_termSaid
theorem hdX1_termSaid : yX1_termSaid.cls = RX1 ∧ yX1_termSaid.cls ≠ "java/lang/invoke/MethodHandle" ∧ yX1_termSaid.cls ≠ "java/lang/invoke/VarHandle" ∧ (parseMethodDescriptor yX1_termSaid.desc).map (fun d => d.parameters.length) = some 1 := by decide +kernel
abbrev wX1_termSaid (G : Gt) (a_tape a_tape_a : Nat) (tp_many : Int32) (tp_first : Int32) (tp_behind : Int32) (tp_f : (Nat → Int32)) : va_W := [(a_tape, .inr (5, [.ref a_tape_a, .int tp_many, .int tp_first, .int tp_behind])), (a_tape_a, .inl (G.2.1, 120, .inl tp_f))]
abbrev rmX1_termSaid : Room := { frames := 5, cells := 0, slots := 0, locals := 107 }
theorem ckX1_termSaid_X5_says_52 : CkV wsX1_termSaid RX1 52 yX5_says wsX5_says cX5_says 3 (some .boolean) 1 5 := ⟨RX5, TX5, 4, _, rfl, gX1_termSaid_X5_says, rfl, hdX5_says⟩
variable {p : Program} {l : Launch} {e : Env} {s : State} {m : MethodId} {args : Array Value} {below : List Frame} {meth : Method} {c : Code} {A : Nat → Prop} {G : Gt} {a_tape a_tape_a : Nat} {tp_many : Int32} {tp_first : Int32} {tp_behind : Int32} {tp_f : (Nat → Int32)} {res : Int32}
set_option maxHeartbeats 4000000 in
set_option maxRecDepth 100000 in
theorem k0X1_termSaid {l : Launch} (G : Gt) (a_tape a_tape_a : Nat)  (tp_many : Int32) (tp_first : Int32) (tp_behind : Int32) (tp_f : (Nat → Int32)) {res : Int32} (h : fX1_termSaid tp_many tp_first tp_behind tp_f = some res) : CtI G l yX1_termSaid wsX1_termSaid rmX1_termSaid [.ref a_tape] (wX1_termSaid G a_tape a_tape_a tp_many tp_first tp_behind tp_f) res (wX1_termSaid G a_tape a_tape_a tp_many tp_first tp_behind tp_f) := by
  refine CtI.mk (cc := cX1_termSaid) (maxL := 1) (ret := (some .int)) (own := RX1) (by decide) rfl rfl (Nat.le_of_ble_eq_true rfl) ?_
  intro p e s m below meth c A X ls hl hW
  obtain ⟨hx, hb, -⟩ := id X.1
  have hl : lv_has ls 1 [(0, .ref a_tape)] := hl
  generalize hH : s.heap = H at hW ⊢
  generalize hLo : ([] : List Loc) = locs at hW ⊢
  rw [fX1_termSaid] at h
  refine lv_aload_n hx hb dX1_termSaid_0 rfl (lv_at hl 0 rfl) ?_
  refine g_ldcs X hW (i := 0) (k := 56) rfl dX1_termSaid_1 ?_
  obtain ⟨r3, hq, h⟩ := bn1_some h
  refine g_cvi X hW (As := [.ref (G.2.2.1 0)]) (ws' := (wX1_termSaid G a_tape a_tape_a tp_many tp_first tp_behind tp_f)) ckX1_termSaid_X5_says_52 (kcX5_says (l := l) G a_tape a_tape_a 0 tp_many tp_first tp_behind tp_f hq) ⟨rfl, rfl, Nat.le_of_ble_eq_true rfl, Nat.le_of_ble_eq_true rfl⟩ [0, 1] rfl rfl rfl rfl rfl rfl rfl hl.1 (Nat.le_of_ble_eq_true rfl) ⟨Nat.zero_le _, Nat.zero_le _⟩ dX1_termSaid_3 (fun H locs hW => ?_)
  refine lv_if_eq (tgt := 11) hx hb dX1_termSaid_6 (by decide) (fun c4 => ?_) (fun c4 => ?_)
  · have h := (if_pos c4).symm.trans h
    refine lv_aload_n hx hb dX1_termSaid_11 rfl (lv_at hl 0 rfl) ?_
    refine g_ldcs X hW (i := 1) (k := 58) rfl dX1_termSaid_12 ?_
    obtain ⟨r7, hq, h⟩ := bn1_some h
    refine g_cvi X hW (As := [.ref (G.2.2.1 1)]) (ws' := (wX1_termSaid G a_tape a_tape_a tp_many tp_first tp_behind tp_f)) ckX1_termSaid_X5_says_52 (kcX5_says (l := l) G a_tape a_tape_a 1 tp_many tp_first tp_behind tp_f hq) ⟨rfl, rfl, Nat.le_of_ble_eq_true rfl, Nat.le_of_ble_eq_true rfl⟩ [0, 1] rfl rfl rfl rfl rfl rfl rfl hl.1 (Nat.le_of_ble_eq_true rfl) ⟨Nat.zero_le _, Nat.zero_le _⟩ dX1_termSaid_14 (fun H locs hW => ?_)
    refine lv_if_eq (tgt := 22) hx hb dX1_termSaid_17 (by decide) (fun c8 => ?_) (fun c8 => ?_)
    · have h := (if_pos c8).symm.trans h
      refine lv_aload_n hx hb dX1_termSaid_22 rfl (lv_at hl 0 rfl) ?_
      refine g_ldcs X hW (i := 2) (k := 60) rfl dX1_termSaid_23 ?_
      obtain ⟨r11, hq, h⟩ := bn1_some h
      refine g_cvi X hW (As := [.ref (G.2.2.1 2)]) (ws' := (wX1_termSaid G a_tape a_tape_a tp_many tp_first tp_behind tp_f)) ckX1_termSaid_X5_says_52 (kcX5_says (l := l) G a_tape a_tape_a 2 tp_many tp_first tp_behind tp_f hq) ⟨rfl, rfl, Nat.le_of_ble_eq_true rfl, Nat.le_of_ble_eq_true rfl⟩ [0, 1] rfl rfl rfl rfl rfl rfl rfl hl.1 (Nat.le_of_ble_eq_true rfl) ⟨Nat.zero_le _, Nat.zero_le _⟩ dX1_termSaid_25 (fun H locs hW => ?_)
      refine lv_if_eq (tgt := 33) hx hb dX1_termSaid_28 (by decide) (fun c12 => ?_) (fun c12 => ?_)
      · have h := (if_pos c12).symm.trans h
        refine lv_aload_n hx hb dX1_termSaid_33 rfl (lv_at hl 0 rfl) ?_
        refine g_ldcs X hW (i := 3) (k := 62) rfl dX1_termSaid_34 ?_
        obtain ⟨r15, hq, h⟩ := bn1_some h
        refine g_cvi X hW (As := [.ref (G.2.2.1 3)]) (ws' := (wX1_termSaid G a_tape a_tape_a tp_many tp_first tp_behind tp_f)) ckX1_termSaid_X5_says_52 (kcX5_says (l := l) G a_tape a_tape_a 3 tp_many tp_first tp_behind tp_f hq) ⟨rfl, rfl, Nat.le_of_ble_eq_true rfl, Nat.le_of_ble_eq_true rfl⟩ [0, 1] rfl rfl rfl rfl rfl rfl rfl hl.1 (Nat.le_of_ble_eq_true rfl) ⟨Nat.zero_le _, Nat.zero_le _⟩ dX1_termSaid_36 (fun H locs hW => ?_)
        refine lv_if_eq (tgt := 44) hx hb dX1_termSaid_39 (by decide) (fun c16 => ?_) (fun c16 => ?_)
        · have h := (if_pos c16).symm.trans h
          refine lv_aload_n hx hb dX1_termSaid_44 rfl (lv_at hl 0 rfl) ?_
          refine g_ldcs X hW (i := 4) (k := 64) rfl dX1_termSaid_45 ?_
          obtain ⟨r19, hq, h⟩ := bn1_some h
          refine g_cvi X hW (As := [.ref (G.2.2.1 4)]) (ws' := (wX1_termSaid G a_tape a_tape_a tp_many tp_first tp_behind tp_f)) ckX1_termSaid_X5_says_52 (kcX5_says (l := l) G a_tape a_tape_a 4 tp_many tp_first tp_behind tp_f hq) ⟨rfl, rfl, Nat.le_of_ble_eq_true rfl, Nat.le_of_ble_eq_true rfl⟩ [0, 1] rfl rfl rfl rfl rfl rfl rfl hl.1 (Nat.le_of_ble_eq_true rfl) ⟨Nat.zero_le _, Nat.zero_le _⟩ dX1_termSaid_47 (fun H locs hW => ?_)
          refine lv_if_eq (tgt := 55) hx hb dX1_termSaid_50 (by decide) (fun c20 => ?_) (fun c20 => ?_)
          · have h := (if_pos c20).symm.trans h
            refine lv_aload_n hx hb dX1_termSaid_55 rfl (lv_at hl 0 rfl) ?_
            refine g_ldcs X hW (i := 5) (k := 66) rfl dX1_termSaid_56 ?_
            obtain ⟨r23, hq, h⟩ := bn1_some h
            refine g_cvi X hW (As := [.ref (G.2.2.1 5)]) (ws' := (wX1_termSaid G a_tape a_tape_a tp_many tp_first tp_behind tp_f)) ckX1_termSaid_X5_says_52 (kcX5_says (l := l) G a_tape a_tape_a 5 tp_many tp_first tp_behind tp_f hq) ⟨rfl, rfl, Nat.le_of_ble_eq_true rfl, Nat.le_of_ble_eq_true rfl⟩ [0, 1] rfl rfl rfl rfl rfl rfl rfl hl.1 (Nat.le_of_ble_eq_true rfl) ⟨Nat.zero_le _, Nat.zero_le _⟩ dX1_termSaid_58 (fun H locs hW => ?_)
            refine lv_if_eq (tgt := 69) hx hb dX1_termSaid_61 (by decide) (fun c24 => ?_) (fun c24 => ?_)
            · have h := (if_pos c24).symm.trans h
              refine lv_bipush hx hb dX1_termSaid_69 qB_m3 ?_
              obtain rfl := Option.some.inj h
              exact g_iret X hW dX1_termSaid_71
            · have h := (if_neg c24).symm.trans h
              refine lv_bipush hx hb dX1_termSaid_64 qB_10 ?_
              refine lv_goto (tgt := 71) hx hb dX1_termSaid_66 (by decide) ?_
              obtain rfl := Option.some.inj h
              exact g_iret X hW dX1_termSaid_71
          · have h := (if_neg c20).symm.trans h
            refine lv_iconst hx hb dX1_termSaid_53 qI_4 ?_
            obtain rfl := Option.some.inj h
            exact g_iret X hW dX1_termSaid_54
        · have h := (if_neg c16).symm.trans h
          refine lv_iconst hx hb dX1_termSaid_42 qI_3 ?_
          obtain rfl := Option.some.inj h
          exact g_iret X hW dX1_termSaid_43
      · have h := (if_neg c12).symm.trans h
        refine lv_iconst hx hb dX1_termSaid_31 qI_2 ?_
        obtain rfl := Option.some.inj h
        exact g_iret X hW dX1_termSaid_32
    · have h := (if_neg c8).symm.trans h
      refine lv_iconst hx hb dX1_termSaid_20 qI_1 ?_
      obtain rfl := Option.some.inj h
      exact g_iret X hW dX1_termSaid_21
  · have h := (if_neg c4).symm.trans h
    refine lv_iconst hx hb dX1_termSaid_9 qI_0 ?_
    obtain rfl := Option.some.inj h
    exact g_iret X hW dX1_termSaid_10
theorem kcX1_termSaid {l : Launch} (G : Gt) (a_tape a_tape_a : Nat)  (tp_many : Int32) (tp_first : Int32) (tp_behind : Int32) (tp_f : (Nat → Int32)) {r : Int32}  (h : fX1_termSaid tp_many tp_first tp_behind tp_f = some r) : CtI G l yX1_termSaid wsX1_termSaid rmX1_termSaid [.ref a_tape] (wX1_termSaid G a_tape a_tape_a tp_many tp_first tp_behind tp_f) r (wX1_termSaid G a_tape a_tape_a tp_many tp_first tp_behind tp_f) := k0X1_termSaid G a_tape a_tape_a tp_many tp_first tp_behind tp_f h
end MX1_termSaid
/-! EmptyBoxes$Tape.number -/
section MX5_number
theorem hdX5_number : yX5_number.cls = RX5 ∧ yX5_number.cls ≠ "java/lang/invoke/MethodHandle" ∧ yX5_number.cls ≠ "java/lang/invoke/VarHandle" ∧ (parseMethodDescriptor yX5_number.desc).map (fun d => d.parameters.length) = some 0 := by decide +kernel
abbrev wX5_number (G : Gt) (a_tape a_tape_a : Nat) (tp_many : Int32) (tp_first : Int32) (tp_behind : Int32) (tp_f : (Nat → Int32)) : va_W := [(a_tape, .inr (5, [.ref a_tape_a, .int tp_many, .int tp_first, .int tp_behind])), (a_tape_a, .inl (G.2.1, 120, .inl tp_f))]
abbrev rmX5_number : Room := { frames := 1, cells := 0, slots := 0, locals := 20 }
theorem iX5_number_X5 : ∀ w ∈ wsX50, w ∈ wsX5_number := by decide +kernel
theorem eX5_number_15 : Fk wsX5_number RX5 15 5 1 := ⟨RX5, TX5, 4, rfl, iX5_number_X5, by decide, by decide +kernel⟩
theorem eX5_number_19 : Fk wsX5_number RX5 19 5 2 := ⟨RX5, TX5, 4, rfl, iX5_number_X5, by decide, by decide +kernel⟩
theorem eX5_number_22 : Fk wsX5_number RX5 22 5 3 := ⟨RX5, TX5, 4, rfl, iX5_number_X5, by decide, by decide +kernel⟩
theorem eX5_number_9 : Fk wsX5_number RX5 9 5 0 := ⟨RX5, TX5, 4, rfl, iX5_number_X5, by decide, by decide +kernel⟩
theorem ckX5_number_X5_isAtEnd_32 : CkV wsX5_number RX5 32 yX5_isAtEnd wsX5_isAtEnd cX5_isAtEnd 1 (some .boolean) 0 5 := ⟨RX5, TX5, 4, _, rfl, gX5_number_X5_isAtEnd, rfl, hdX5_isAtEnd⟩
theorem ckX5_number_X5_isDigit_29 : CkS wsX5_number RX5 29 yX5_isDigit wsX5_isDigit cX5_isDigit 1 (some .boolean) 1 := ⟨_, gX5_number_X5_isDigit, rfl, hdX5_isDigit.2⟩
variable {p : Program} {l : Launch} {e : Env} {s : State} {m : MethodId} {args : Array Value} {below : List Frame} {meth : Method} {c : Code} {A : Nat → Prop} {G : Gt} {a_tape a_tape_a : Nat} {tp_many : Int32} {tp_first : Int32} {tp_behind : Int32} {tp_f : (Nat → Int32)} {res : Int32}
set_option maxHeartbeats 4000000 in
set_option maxRecDepth 100000 in
theorem tX5_number_45 (X : Bx p s m args meth c cX5_number 3 wsX5_number RX5 (some .int))    : ∀ (n : Nat) (v1 : Int32) (v2 : Int32), fX5_number_45 tp_many tp_behind tp_f n v1 v2 = some res → ∀ (H : Heap) (locs : List Loc), Wo G A s (wX5_number G a_tape a_tape_a tp_many tp_first tp_behind tp_f) H locs → ∀ ls : Array Slot, lv_has ls 3 [(0, .ref a_tape), (1, .int v1), (2, .int v2)] → W p l e rmX5_number s m args below meth c H locs 0 0 (QI G A below args s res (wX5_number G a_tape a_tape_a tp_many tp_first tp_behind tp_f)) (F0 m 45 ls []) := by
  obtain ⟨hx, hb, -⟩ := id X.1
  intro n
  induction n with
  | zero => intro v1 v2 h; rw [fX5_number_45] at h; cases h
  | succ n ih =>
    intro v1 v2 h H locs hW ls hl
    rw [fX5_number_45] at h
    refine lv_iload_n hx hb dX5_number_45 rfl (lv_at hl 2 rfl) ?_
    refine lv_aload_n hx hb dX5_number_46 rfl (lv_at hl 0 rfl) ?_
    refine g_get X hW eX5_number_22 0 rfl rfl dX5_number_47 ?_
    refine lv_icmp_ge (tgt := 82) hx hb dX5_number_50 (by decide) (fun c4 => ?_) (fun c4 => ?_)
    · have h := (if_pos c4).symm.trans h
      refine lv_iload_n hx hb dX5_number_82 rfl (lv_at hl 1 rfl) ?_
      obtain rfl := Option.some.inj h
      exact g_iret X hW dX5_number_83
    · have h := (if_neg c4).symm.trans h
      refine lv_iload_n hx hb dX5_number_53 rfl (lv_at hl 2 rfl) ?_
      refine lv_aload_n hx hb dX5_number_54 rfl (lv_at hl 0 rfl) ?_
      refine g_get X hW eX5_number_15 0 rfl rfl dX5_number_55 ?_
      refine lv_icmp_ge (tgt := 82) hx hb dX5_number_58 (by decide) (fun c10 => ?_) (fun c10 => ?_)
      · have h := (if_pos c10).symm.trans h
        refine lv_iload_n hx hb dX5_number_82 rfl (lv_at hl 1 rfl) ?_
        obtain rfl := Option.some.inj h
        exact g_iret X hW dX5_number_83
      · have h := (if_neg c10).symm.trans h
        refine lv_iload_n hx hb dX5_number_61 rfl (lv_at hl 1 rfl) ?_
        refine lv_bipush hx hb dX5_number_62 qB_10 ?_
        refine lv_imul hx hb dX5_number_64 ?_
        refine lv_aload_n hx hb dX5_number_65 rfl (lv_at hl 0 rfl) ?_
        refine g_get X hW eX5_number_9 0 rfl rfl dX5_number_66 ?_
        refine lv_iload_n hx hb dX5_number_69 rfl (lv_at hl 2 rfl) ?_
        obtain ⟨g19, h⟩ := gd_some h
        refine g_ald X hW 1 rfl g19 dX5_number_70 ?_
        refine lv_bipush hx hb dX5_number_71 qB_48 ?_
        refine lv_isub hx hb dX5_number_73 ?_
        refine lv_iadd hx hb dX5_number_74 ?_
        refine lv_istore_n (lv' := [(1, .int ((v1 * (10 : Int32)) + ((tp_f v2.toNatClampNeg) - (48 : Int32)))), (0, .ref a_tape), (2, .int v2)]) hx hb dX5_number_75 rfl hl (by decide) rfl (fun ls hl => ?_)
        refine lv_iinc (v := (v2 + (1 : Int32))) (lv' := [(2, .int (v2 + (1 : Int32))), (1, .int ((v1 * (10 : Int32)) + ((tp_f v2.toNatClampNeg) - (48 : Int32)))), (0, .ref a_tape)]) hx hb dX5_number_76 hl (k := 2) rfl (congrArg (fun z => v2 + z) qI_1) (by decide) rfl (fun ls hl => ?_)
        refine lv_goto (tgt := 45) hx hb dX5_number_79 (by decide) ?_
        exact ih ((v1 * (10 : Int32)) + ((tp_f v2.toNatClampNeg) - (48 : Int32))) (v2 + (1 : Int32)) h H locs hW ls (lv_sub hl [2, 1, 0] rfl)
set_option maxHeartbeats 4000000 in
set_option maxRecDepth 100000 in
theorem k0X5_number {l : Launch} (G : Gt) (a_tape a_tape_a : Nat)  (tp_many : Int32) (tp_first : Int32) (tp_behind : Int32) (tp_f : (Nat → Int32)) {res : Int32} (h : fX5_number tp_many tp_first tp_behind tp_f = some res) : CtI G l yX5_number wsX5_number rmX5_number [.ref a_tape] (wX5_number G a_tape a_tape_a tp_many tp_first tp_behind tp_f) res (wX5_number G a_tape a_tape_a tp_many tp_first tp_behind tp_f) := by
  refine CtI.mk (cc := cX5_number) (maxL := 3) (ret := (some .int)) (own := RX5) (by decide) rfl rfl (Nat.le_of_ble_eq_true rfl) ?_
  intro p e s m below meth c A X ls hl hW
  obtain ⟨hx, hb, -⟩ := id X.1
  have hl : lv_has ls 3 [(0, .ref a_tape)] := hl
  generalize hH : s.heap = H at hW ⊢
  generalize hLo : ([] : List Loc) = locs at hW ⊢
  rw [fX5_number] at h
  refine lv_aload_n hx hb dX5_number_0 rfl (lv_at hl 0 rfl) ?_
  obtain ⟨r27, hq, h⟩ := bn1_some h
  refine g_cvi X hW (As := []) (ws' := (wX5_number G a_tape a_tape_a tp_many tp_first tp_behind tp_f)) ckX5_number_X5_isAtEnd_32 (kcX5_isAtEnd (l := l) G a_tape a_tape_a tp_many tp_first tp_behind hq) ⟨rfl, rfl, Nat.le_of_ble_eq_true rfl, Nat.le_of_ble_eq_true rfl⟩ [0] rfl rfl rfl rfl rfl rfl rfl hl.1 (Nat.le_of_ble_eq_true rfl) ⟨Nat.zero_le _, Nat.zero_le _⟩ dX5_number_1 (fun H locs hW => ?_)
  refine lv_if_ne (tgt := 35) hx hb dX5_number_4 (by decide) (fun c28 => ?_) (fun c28 => ?_)
  · have h := (if_neg c28).symm.trans h
    refine lv_bipush hx hb dX5_number_35 qB_m3 ?_
    obtain rfl := Option.some.inj h
    exact g_iret X hW dX5_number_37
  · have h := (if_pos c28).symm.trans h
    refine lv_aload_n hx hb dX5_number_7 rfl (lv_at hl 0 rfl) ?_
    refine g_get X hW eX5_number_9 0 rfl rfl dX5_number_8 ?_
    refine lv_aload_n hx hb dX5_number_11 rfl (lv_at hl 0 rfl) ?_
    refine g_get X hW eX5_number_19 0 rfl rfl dX5_number_12 ?_
    obtain ⟨g35, h⟩ := gd_some h
    refine g_ald X hW 1 rfl g35 dX5_number_15 ?_
    obtain ⟨r36, hq, h⟩ := bn1_some h
    refine g_csi X hW (As := [.int (tp_f tp_first.toNatClampNeg)]) (ws' := (wX5_number G a_tape a_tape_a tp_many tp_first tp_behind tp_f)) ckX5_number_X5_isDigit_29 (kcX5_isDigit (l := l) G (tp_f tp_first.toNatClampNeg) hq) ⟨rfl, rfl, Nat.le_of_ble_eq_true rfl, Nat.le_of_ble_eq_true rfl⟩ [] rfl rfl rfl rfl rfl rfl hl.1 (Nat.le_of_ble_eq_true rfl) ⟨Nat.zero_le _, Nat.zero_le _⟩ dX5_number_16 (fun H locs hW => ?_)
    refine lv_if_eq (tgt := 35) hx hb dX5_number_19 (by decide) (fun c37 => ?_) (fun c37 => ?_)
    · have h := (if_pos c37).symm.trans h
      refine lv_bipush hx hb dX5_number_35 qB_m3 ?_
      obtain rfl := Option.some.inj h
      exact g_iret X hW dX5_number_37
    · have h := (if_neg c37).symm.trans h
      refine lv_aload_n hx hb dX5_number_22 rfl (lv_at hl 0 rfl) ?_
      refine g_get X hW eX5_number_22 0 rfl rfl dX5_number_23 ?_
      refine lv_aload_n hx hb dX5_number_26 rfl (lv_at hl 0 rfl) ?_
      refine g_get X hW eX5_number_19 0 rfl rfl dX5_number_27 ?_
      refine lv_isub hx hb dX5_number_30 ?_
      refine lv_iconst hx hb dX5_number_31 qI_3 ?_
      refine lv_icmp_le (tgt := 38) hx hb dX5_number_32 (by decide) (fun c46 => ?_) (fun c46 => ?_)
      · have h := (if_pos c46).symm.trans h
        refine lv_iconst hx hb dX5_number_38 qI_0 ?_
        refine lv_istore_n (lv' := [(1, .int (0 : Int32)), (0, .ref a_tape)]) hx hb dX5_number_39 rfl hl (by decide) rfl (fun ls hl => ?_)
        refine lv_aload_n hx hb dX5_number_40 rfl (lv_at hl 1 rfl) ?_
        refine g_get X hW eX5_number_19 0 rfl rfl dX5_number_41 ?_
        refine lv_istore_n (lv' := [(2, .int tp_first), (1, .int (0 : Int32)), (0, .ref a_tape)]) hx hb dX5_number_44 rfl hl (by decide) rfl (fun ls hl => ?_)
        exact tX5_number_45 X  FU (0 : Int32) tp_first h H locs hW ls (lv_sub hl [2, 1, 0] rfl)
      · have h := (if_neg c46).symm.trans h
        refine lv_bipush hx hb dX5_number_35 qB_m3 ?_
        obtain rfl := Option.some.inj h
        exact g_iret X hW dX5_number_37
theorem kcX5_number {l : Launch} (G : Gt) (a_tape a_tape_a : Nat)  (tp_many : Int32) (tp_first : Int32) (tp_behind : Int32) (tp_f : (Nat → Int32)) {r : Int32}  (h : fX5_number tp_many tp_first tp_behind tp_f = some r) : CtI G l yX5_number wsX5_number rmX5_number [.ref a_tape] (wX5_number G a_tape a_tape_a tp_many tp_first tp_behind tp_f) r (wX5_number G a_tape a_tape_a tp_many tp_first tp_behind tp_f) := k0X5_number G a_tape a_tape_a tp_many tp_first tp_behind tp_f h
end MX5_number
/-! EmptyBoxes$LeaseText.parseClause -/
section MX1_parseClause
theorem hdX1_parseClause : yX1_parseClause.cls = RX1 ∧ yX1_parseClause.cls ≠ "java/lang/invoke/MethodHandle" ∧ yX1_parseClause.cls ≠ "java/lang/invoke/VarHandle" ∧ (parseMethodDescriptor yX1_parseClause.desc).map (fun d => d.parameters.length) = some 1 := by decide +kernel
abbrev wX1_parseClause (G : Gt) (a_text a_text_a a_tape a_tape_a : Nat) (tx_clauses : Int32) (tx_fault : Int32) (tx_f : (Nat → Int32)) (tp_many : Int32) (tp_first : Int32) (tp_behind : Int32) (tp_f : (Nat → Int32)) : va_W := [(a_text, .inr (1, [.ref a_text_a, .int tx_clauses, .int tx_fault])), (a_text_a, .inl (G.2.1, 16, .inl tx_f)), (a_tape, .inr (5, [.ref a_tape_a, .int tp_many, .int tp_first, .int tp_behind])), (a_tape_a, .inl (G.2.1, 120, .inl tp_f))]
abbrev rmX1_parseClause : Room := { frames := 6, cells := 0, slots := 0, locals := 127 }
theorem iX1_parseClause_X1 : ∀ w ∈ wsX10, w ∈ wsX1_parseClause := by decide +kernel
theorem eX1_parseClause_9 : Fk wsX1_parseClause RX1 9 1 0 := ⟨RX1, TX1, 3, rfl, iX1_parseClause_X1, by decide, by decide +kernel⟩
theorem ckX1_parseClause_X1_termSaid_39 : CkS wsX1_parseClause RX1 39 yX1_termSaid wsX1_termSaid cX1_termSaid 1 (some .int) 1 := ⟨_, gX1_parseClause_X1_termSaid, rfl, hdX1_termSaid.2⟩
theorem ckX1_parseClause_X5_advance_27 : CkV wsX1_parseClause RX1 27 yX5_advance wsX5_advance cX5_advance 1 (some .boolean) 0 5 := ⟨RX5, TX5, 4, _, rfl, gX1_parseClause_X5_advance, rfl, hdX5_advance⟩
theorem ckX1_parseClause_X5_number_43 : CkV wsX1_parseClause RX1 43 yX5_number wsX5_number cX5_number 3 (some .int) 0 5 := ⟨RX5, TX5, 4, _, rfl, gX1_parseClause_X5_number, rfl, hdX5_number⟩
theorem ckX1_parseClause_X5_says_52 : CkV wsX1_parseClause RX1 52 yX5_says wsX5_says cX5_says 3 (some .boolean) 1 5 := ⟨RX5, TX5, 4, _, rfl, gX1_parseClause_X5_says, rfl, hdX5_says⟩
theorem ckX1_parseClause_X6_isPlace_46 : CkN wsX1_parseClause RX1 46 yX6_isPlace wsX6_isPlace cX6_isPlace 1 (some .boolean) 1 := ⟨"EmptyBoxes", _, by decide +kernel, by decide +kernel, by decide +kernel, gX1_parseClause_X6_isPlace_n46, rfl, hdX6_isPlace.2⟩
variable {p : Program} {l : Launch} {e : Env} {s : State} {m : MethodId} {args : Array Value} {below : List Frame} {meth : Method} {c : Code} {A : Nat → Prop} {G : Gt} {a_text a_text_a a_tape a_tape_a : Nat} {tx_clauses : Int32} {tx_fault : Int32} {tp_many : Int32} {tp_f : (Nat → Int32)} {res : Int32 × (Nat → Int32) × Int32 × Int32}
set_option maxHeartbeats 4000000 in
set_option maxRecDepth 100000 in
theorem tX1_parseClause_42 (X : Bx p s m args meth c cX1_parseClause 4 wsX1_parseClause RX1 (some .boolean)) (v2 : Int32) (tx_f : (Nat → Int32)) (tp_first : Int32) (tp_behind : Int32)   (h : fX1_parseClause_42 v2 tx_f tp_many tp_first tp_behind tp_f = some res) : ∀ (H : Heap) (locs : List Loc), Wo G A s (wX1_parseClause G a_text a_text_a a_tape a_tape_a tx_clauses tx_fault tx_f tp_many tp_first tp_behind tp_f) H locs → ∀ ls : Array Slot, lv_has ls 4 [(0, .ref a_text), (1, .ref a_tape), (2, .int v2)] → W p l e rmX1_parseClause s m args below meth c H locs 0 0 (QI G A below args s res.1 (wX1_parseClause G a_text a_text_a a_tape a_tape_a tx_clauses tx_fault res.2.1 tp_many res.2.2.1 res.2.2.2 tp_f)) (F0 m 42 ls []) := by
  obtain ⟨hx, hb, -⟩ := id X.1
  intro H locs hW ls hl
  rw [fX1_parseClause_42] at h
  refine lv_iload_n hx hb dX1_parseClause_42 rfl (lv_at hl 2 rfl) ?_
  refine lv_if_lt (tgt := 55) hx hb dX1_parseClause_43 (by decide) (fun c2 => ?_) (fun c2 => ?_)
  · have h := (if_pos c2).symm.trans h
    refine lv_iconst hx hb dX1_parseClause_55 qI_0 ?_
    obtain rfl := Option.some.inj h
    exact g_zret X hW rfl dX1_parseClause_56
  · have h := (if_neg c2).symm.trans h
    refine lv_aload_n hx hb dX1_parseClause_46 rfl (lv_at hl 0 rfl) ?_
    refine g_get X hW eX1_parseClause_9 0 rfl rfl dX1_parseClause_47 ?_
    refine lv_iload_n hx hb dX1_parseClause_50 rfl (lv_at hl 2 rfl) ?_
    obtain ⟨g8, h⟩ := gd_some h
    refine g_ald X hW 1 rfl g8 dX1_parseClause_51 ?_
    refine lv_if_lt (tgt := 57) hx hb dX1_parseClause_52 (by decide) (fun c9 => ?_) (fun c9 => ?_)
    · have h := (if_pos c9).symm.trans h
      refine lv_aload_n hx hb dX1_parseClause_57 rfl (lv_at hl 1 rfl) ?_
      obtain ⟨r11, o11_tp_first, o11_tp_behind, hq, h⟩ := bn3_some h
      refine g_cvi X hW (As := []) (ws' := (wX1_parseClause G a_text a_text_a a_tape a_tape_a tx_clauses tx_fault tx_f tp_many o11_tp_first o11_tp_behind tp_f)) ckX1_parseClause_X5_advance_27 (kcX5_advance (l := l) G a_tape a_tape_a tp_many tp_first tp_behind tp_f hq) ⟨rfl, rfl, Nat.le_of_ble_eq_true rfl, Nat.le_of_ble_eq_true rfl⟩ [2, 3] rfl rfl rfl rfl rfl rfl rfl hl.1 (Nat.le_of_ble_eq_true rfl) ⟨Nat.zero_le _, Nat.zero_le _⟩ dX1_parseClause_58 (fun H locs hW => ?_)
      refine lv_pop hx hb dX1_parseClause_61 rfl ?_
      refine lv_aload_n hx hb dX1_parseClause_62 rfl (lv_at hl 0 rfl) ?_
      refine g_get X hW eX1_parseClause_9 0 rfl rfl dX1_parseClause_63 ?_
      refine lv_iload_n hx hb dX1_parseClause_66 rfl (lv_at hl 2 rfl) ?_
      refine lv_aload_n hx hb dX1_parseClause_67 rfl (lv_at hl 1 rfl) ?_
      obtain ⟨r17, hq, h⟩ := bn1_some h
      refine g_cvi X hW (As := []) (ws' := (wX1_parseClause G a_text a_text_a a_tape a_tape_a tx_clauses tx_fault tx_f tp_many o11_tp_first o11_tp_behind tp_f)) ckX1_parseClause_X5_number_43 (kcX5_number (l := l) G a_tape a_tape_a tp_many o11_tp_first o11_tp_behind tp_f hq) ⟨rfl, rfl, Nat.le_of_ble_eq_true rfl, Nat.le_of_ble_eq_true rfl⟩ [2, 3] rfl rfl rfl rfl rfl rfl rfl hl.1 (Nat.le_of_ble_eq_true rfl) ⟨Nat.zero_le _, Nat.zero_le _⟩ dX1_parseClause_68 (fun H locs hW => ?_)
      obtain ⟨g18, h⟩ := gd_some h
      refine g_ast X hW (ws' := (wX1_parseClause G a_text a_text_a a_tape a_tape_a tx_clauses tx_fault (upd tx_f v2.toNatClampNeg r17) tp_many o11_tp_first o11_tp_behind tp_f)) 1 rfl g18 rfl dX1_parseClause_71 (fun H locs hW => ?_)
      refine lv_aload_n hx hb dX1_parseClause_72 rfl (lv_at hl 0 rfl) ?_
      refine g_get X hW eX1_parseClause_9 0 rfl rfl dX1_parseClause_73 ?_
      refine lv_iload_n hx hb dX1_parseClause_76 rfl (lv_at hl 2 rfl) ?_
      obtain ⟨g22, h⟩ := gd_some h
      refine g_ald X hW 1 rfl g22 dX1_parseClause_77 ?_
      refine lv_if_ge (tgt := 83) hx hb dX1_parseClause_78 (by decide) (fun c23 => ?_) (fun c23 => ?_)
      · have h := (if_pos c23).symm.trans h
        refine lv_aload_n hx hb dX1_parseClause_83 rfl (lv_at hl 1 rfl) ?_
        obtain ⟨r25, o25_tp_first, o25_tp_behind, hq, h⟩ := bn3_some h
        refine g_cvi X hW (As := []) (ws' := (wX1_parseClause G a_text a_text_a a_tape a_tape_a tx_clauses tx_fault (upd tx_f v2.toNatClampNeg r17) tp_many o25_tp_first o25_tp_behind tp_f)) ckX1_parseClause_X5_advance_27 (kcX5_advance (l := l) G a_tape a_tape_a tp_many o11_tp_first o11_tp_behind tp_f hq) ⟨rfl, rfl, Nat.le_of_ble_eq_true rfl, Nat.le_of_ble_eq_true rfl⟩ [2, 3] rfl rfl rfl rfl rfl rfl rfl hl.1 (Nat.le_of_ble_eq_true rfl) ⟨Nat.zero_le _, Nat.zero_le _⟩ dX1_parseClause_84 (fun H locs hW => ?_)
        refine lv_pop hx hb dX1_parseClause_87 rfl ?_
        refine lv_aload_n hx hb dX1_parseClause_88 rfl (lv_at hl 1 rfl) ?_
        refine g_ldcs X hW (i := 6) (k := 50) rfl dX1_parseClause_89 ?_
        obtain ⟨r29, hq, h⟩ := bn1_some h
        refine g_cvi X hW (As := [.ref (G.2.2.1 6)]) (ws' := (wX1_parseClause G a_text a_text_a a_tape a_tape_a tx_clauses tx_fault (upd tx_f v2.toNatClampNeg r17) tp_many o25_tp_first o25_tp_behind tp_f)) ckX1_parseClause_X5_says_52 (kcX5_says (l := l) G a_tape a_tape_a 6 tp_many o25_tp_first o25_tp_behind tp_f hq) ⟨rfl, rfl, Nat.le_of_ble_eq_true rfl, Nat.le_of_ble_eq_true rfl⟩ [2, 3] rfl rfl rfl rfl rfl rfl rfl hl.1 (Nat.le_of_ble_eq_true rfl) ⟨Nat.zero_le _, Nat.zero_le _⟩ dX1_parseClause_91 (fun H locs hW => ?_)
        obtain ⟨g30, h⟩ := gd_some h
        obtain rfl := Option.some.inj h
        exact g_zret X hW g30 dX1_parseClause_94
      · have h := (if_neg c23).symm.trans h
        refine lv_iconst hx hb dX1_parseClause_81 qI_0 ?_
        obtain rfl := Option.some.inj h
        exact g_zret X hW rfl dX1_parseClause_82
    · have h := (if_neg c9).symm.trans h
      refine lv_iconst hx hb dX1_parseClause_55 qI_0 ?_
      obtain rfl := Option.some.inj h
      exact g_zret X hW rfl dX1_parseClause_56
set_option maxHeartbeats 4000000 in
set_option maxRecDepth 100000 in
theorem tX1_parseClause_41 (X : Bx p s m args meth c cX1_parseClause 4 wsX1_parseClause RX1 (some .boolean)) (t0 : Int32) (tx_f : (Nat → Int32)) (tp_first : Int32) (tp_behind : Int32)   (h : fX1_parseClause_41 t0 tx_f tp_many tp_first tp_behind tp_f = some res) : ∀ (H : Heap) (locs : List Loc), Wo G A s (wX1_parseClause G a_text a_text_a a_tape a_tape_a tx_clauses tx_fault tx_f tp_many tp_first tp_behind tp_f) H locs → ∀ ls : Array Slot, lv_has ls 4 [(0, .ref a_text), (1, .ref a_tape)] → W p l e rmX1_parseClause s m args below meth c H locs 0 0 (QI G A below args s res.1 (wX1_parseClause G a_text a_text_a a_tape a_tape_a tx_clauses tx_fault res.2.1 tp_many res.2.2.1 res.2.2.2 tp_f)) (F0 m 41 ls [.int t0]) := by
  obtain ⟨hx, hb, -⟩ := id X.1
  intro H locs hW ls hl
  rw [fX1_parseClause_41] at h
  refine lv_istore_n (lv' := [(2, .int t0), (0, .ref a_text), (1, .ref a_tape)]) hx hb dX1_parseClause_41 rfl hl (by decide) rfl (fun ls hl => ?_)
  exact tX1_parseClause_42 X t0 tx_f tp_first tp_behind h H locs hW ls (lv_sub hl [1, 2, 0] rfl)
set_option maxHeartbeats 4000000 in
set_option maxRecDepth 100000 in
theorem tX1_parseClause_16 (X : Bx p s m args meth c cX1_parseClause 4 wsX1_parseClause RX1 (some .boolean)) (v2 : Int32) (tx_f : (Nat → Int32)) (tp_first : Int32) (tp_behind : Int32)   (h : fX1_parseClause_16 v2 tx_f tp_many tp_first tp_behind tp_f = some res) : ∀ (H : Heap) (locs : List Loc), Wo G A s (wX1_parseClause G a_text a_text_a a_tape a_tape_a tx_clauses tx_fault tx_f tp_many tp_first tp_behind tp_f) H locs → ∀ ls : Array Slot, lv_has ls 4 [(0, .ref a_text), (1, .ref a_tape), (2, .int v2)] → W p l e rmX1_parseClause s m args below meth c H locs 0 0 (QI G A below args s res.1 (wX1_parseClause G a_text a_text_a a_tape a_tape_a tx_clauses tx_fault res.2.1 tp_many res.2.2.1 res.2.2.2 tp_f)) (F0 m 16 ls []) := by
  obtain ⟨hx, hb, -⟩ := id X.1
  intro H locs hW ls hl
  rw [fX1_parseClause_16] at h
  refine lv_aload_n hx hb dX1_parseClause_16 rfl (lv_at hl 1 rfl) ?_
  obtain ⟨r37, o37_tp_first, o37_tp_behind, hq, h⟩ := bn3_some h
  refine g_cvi X hW (As := []) (ws' := (wX1_parseClause G a_text a_text_a a_tape a_tape_a tx_clauses tx_fault tx_f tp_many o37_tp_first o37_tp_behind tp_f)) ckX1_parseClause_X5_advance_27 (kcX5_advance (l := l) G a_tape a_tape_a tp_many tp_first tp_behind tp_f hq) ⟨rfl, rfl, Nat.le_of_ble_eq_true rfl, Nat.le_of_ble_eq_true rfl⟩ [2, 3] rfl rfl rfl rfl rfl rfl rfl hl.1 (Nat.le_of_ble_eq_true rfl) ⟨Nat.zero_le _, Nat.zero_le _⟩ dX1_parseClause_17 (fun H locs hW => ?_)
  refine lv_pop hx hb dX1_parseClause_20 rfl ?_
  refine lv_aload_n hx hb dX1_parseClause_21 rfl (lv_at hl 1 rfl) ?_
  obtain ⟨r40, hq, h⟩ := bn1_some h
  refine g_cvi X hW (As := []) (ws' := (wX1_parseClause G a_text a_text_a a_tape a_tape_a tx_clauses tx_fault tx_f tp_many o37_tp_first o37_tp_behind tp_f)) ckX1_parseClause_X5_number_43 (kcX5_number (l := l) G a_tape a_tape_a tp_many o37_tp_first o37_tp_behind tp_f hq) ⟨rfl, rfl, Nat.le_of_ble_eq_true rfl, Nat.le_of_ble_eq_true rfl⟩ [2, 3] rfl rfl rfl rfl rfl rfl rfl hl.1 (Nat.le_of_ble_eq_true rfl) ⟨Nat.zero_le _, Nat.zero_le _⟩ dX1_parseClause_22 (fun H locs hW => ?_)
  refine lv_istore_n (lv' := [(3, .int r40), (0, .ref a_text), (1, .ref a_tape), (2, .int v2)]) hx hb dX1_parseClause_25 rfl hl (by decide) rfl (fun ls hl => ?_)
  refine lv_iload_n hx hb dX1_parseClause_26 rfl (lv_at hl 0 rfl) ?_
  obtain ⟨r43, hq, h⟩ := bn1_some h
  refine g_cni X hW (As := [.int r40]) (ws' := (wX1_parseClause G a_text a_text_a a_tape a_tape_a tx_clauses tx_fault tx_f tp_many o37_tp_first o37_tp_behind tp_f)) ckX1_parseClause_X6_isPlace_46 (kcX6_isPlace (l := l) G r40 hq) ⟨rfl, rfl, Nat.le_of_ble_eq_true rfl, Nat.le_of_ble_eq_true rfl⟩ [] rfl rfl rfl rfl rfl rfl hl.1 (Nat.le_of_ble_eq_true rfl) ⟨Nat.zero_le _, Nat.zero_le _⟩ dX1_parseClause_27 (fun H locs hW => ?_)
  refine lv_if_eq (tgt := 39) hx hb dX1_parseClause_30 (by decide) (fun c44 => ?_) (fun c44 => ?_)
  · have h := (if_pos c44).symm.trans h
    refine lv_bipush hx hb dX1_parseClause_39 qB_m3 ?_
    exact tX1_parseClause_41 X (-3 : Int32) tx_f o37_tp_first o37_tp_behind h H locs hW ls (lv_sub hl [1, 2] rfl)
  · have h := (if_neg c44).symm.trans h
    refine lv_iload_n hx hb dX1_parseClause_33 rfl (lv_at hl 3 rfl) ?_
    refine lv_iload_n hx hb dX1_parseClause_34 rfl (lv_at hl 0 rfl) ?_
    refine lv_iadd hx hb dX1_parseClause_35 ?_
    refine lv_goto (tgt := 41) hx hb dX1_parseClause_36 (by decide) ?_
    exact tX1_parseClause_41 X (v2 + r40) tx_f o37_tp_first o37_tp_behind h H locs hW ls (lv_sub hl [1, 2] rfl)
set_option maxHeartbeats 4000000 in
set_option maxRecDepth 100000 in
theorem k0X1_parseClause {l : Launch} (G : Gt) (a_text a_text_a a_tape a_tape_a : Nat)  (tx_clauses : Int32) (tx_fault : Int32) (tx_f : (Nat → Int32)) (tp_many : Int32) (tp_first : Int32) (tp_behind : Int32) (tp_f : (Nat → Int32)) {res : Int32 × (Nat → Int32) × Int32 × Int32} (h : fX1_parseClause tx_f tp_many tp_first tp_behind tp_f = some res) : CtI G l yX1_parseClause wsX1_parseClause rmX1_parseClause [.ref a_text, .ref a_tape] (wX1_parseClause G a_text a_text_a a_tape a_tape_a tx_clauses tx_fault tx_f tp_many tp_first tp_behind tp_f) res.1 (wX1_parseClause G a_text a_text_a a_tape a_tape_a tx_clauses tx_fault res.2.1 tp_many res.2.2.1 res.2.2.2 tp_f) := by
  refine CtI.mk (cc := cX1_parseClause) (maxL := 4) (ret := (some .boolean)) (own := RX1) (by decide) rfl rfl (Nat.le_of_ble_eq_true rfl) ?_
  intro p e s m below meth c A X ls hl hW
  obtain ⟨hx, hb, -⟩ := id X.1
  have hl : lv_has ls 4 [(0, .ref a_text), (1, .ref a_tape)] := hl
  generalize hH : s.heap = H at hW ⊢
  generalize hLo : ([] : List Loc) = locs at hW ⊢
  rw [fX1_parseClause] at h
  refine lv_aload_n hx hb dX1_parseClause_0 rfl (lv_at hl 1 rfl) ?_
  obtain ⟨r51, hq, h⟩ := bn1_some h
  refine g_csi X hW (As := [.ref a_tape]) (ws' := (wX1_parseClause G a_text a_text_a a_tape a_tape_a tx_clauses tx_fault tx_f tp_many tp_first tp_behind tp_f)) ckX1_parseClause_X1_termSaid_39 (kcX1_termSaid (l := l) G a_tape a_tape_a tp_many tp_first tp_behind tp_f hq) ⟨rfl, rfl, Nat.le_of_ble_eq_true rfl, Nat.le_of_ble_eq_true rfl⟩ [2, 3] rfl rfl rfl rfl rfl rfl hl.1 (Nat.le_of_ble_eq_true rfl) ⟨Nat.zero_le _, Nat.zero_le _⟩ dX1_parseClause_1 (fun H locs hW => ?_)
  refine lv_istore_n (lv' := [(2, .int r51), (0, .ref a_text), (1, .ref a_tape)]) hx hb dX1_parseClause_4 rfl hl (by decide) rfl (fun ls hl => ?_)
  refine lv_iload_n hx hb dX1_parseClause_5 rfl (lv_at hl 0 rfl) ?_
  refine lv_iconst hx hb dX1_parseClause_6 qI_4 ?_
  refine lv_icmp_eq (tgt := 16) hx hb dX1_parseClause_7 (by decide) (fun c55 => ?_) (fun c55 => ?_)
  · have h := (if_pos c55).symm.trans h
    exact tX1_parseClause_16 X r51 tx_f tp_first tp_behind h H locs hW ls (lv_sub hl [1, 2, 0] rfl)
  · have h := (if_neg c55).symm.trans h
    refine lv_iload_n hx hb dX1_parseClause_10 rfl (lv_at hl 0 rfl) ?_
    refine lv_bipush hx hb dX1_parseClause_11 qB_10 ?_
    refine lv_icmp_ne (tgt := 42) hx hb dX1_parseClause_13 (by decide) (fun c58 => ?_) (fun c58 => ?_)
    · have h := (if_neg c58).symm.trans h
      exact tX1_parseClause_42 X r51 tx_f tp_first tp_behind h H locs hW ls (lv_sub hl [1, 2, 0] rfl)
    · have h := (if_pos c58).symm.trans h
      exact tX1_parseClause_16 X r51 tx_f tp_first tp_behind h H locs hW ls (lv_sub hl [1, 2, 0] rfl)
theorem kcX1_parseClause {l : Launch} (G : Gt) (a_text a_text_a a_tape a_tape_a : Nat)  (tx_clauses : Int32) (tx_fault : Int32) (tx_f : (Nat → Int32)) (tp_many : Int32) (tp_first : Int32) (tp_behind : Int32) (tp_f : (Nat → Int32)) {r : Int32} {z_tx_f : (Nat → Int32)} {z_tp_first : Int32} {z_tp_behind : Int32} (h : fX1_parseClause tx_f tp_many tp_first tp_behind tp_f = some (r, z_tx_f, z_tp_first, z_tp_behind)) : CtI G l yX1_parseClause wsX1_parseClause rmX1_parseClause [.ref a_text, .ref a_tape] (wX1_parseClause G a_text a_text_a a_tape a_tape_a tx_clauses tx_fault tx_f tp_many tp_first tp_behind tp_f) r (wX1_parseClause G a_text a_text_a a_tape a_tape_a tx_clauses tx_fault z_tx_f tp_many z_tp_first z_tp_behind tp_f) := k0X1_parseClause G a_text a_text_a a_tape a_tape_a tx_clauses tx_fault tx_f tp_many tp_first tp_behind tp_f h
end MX1_parseClause
/-! EmptyBoxes$Tape.place -/
section MX5_place
theorem hdX5_place : yX5_place.cls = RX5 ∧ yX5_place.cls ≠ "java/lang/invoke/MethodHandle" ∧ yX5_place.cls ≠ "java/lang/invoke/VarHandle" ∧ (parseMethodDescriptor yX5_place.desc).map (fun d => d.parameters.length) = some 0 := by decide +kernel
abbrev wX5_place (G : Gt) (a_tape a_tape_a : Nat) (tp_many : Int32) (tp_first : Int32) (tp_behind : Int32) : va_W := [(a_tape, .inr (5, [.ref a_tape_a, .int tp_many, .int tp_first, .int tp_behind]))]
abbrev rmX5_place : Room := { frames := 0, cells := 0, slots := 0, locals := 0 }
theorem iX5_place_X5 : ∀ w ∈ wsX50, w ∈ wsX5_place := by decide +kernel
theorem eX5_place_19 : Fk wsX5_place RX5 19 5 2 := ⟨RX5, TX5, 4, rfl, iX5_place_X5, by decide, by decide +kernel⟩
variable {p : Program} {l : Launch} {e : Env} {s : State} {m : MethodId} {args : Array Value} {below : List Frame} {meth : Method} {c : Code} {A : Nat → Prop} {G : Gt} {a_tape a_tape_a : Nat} {tp_many : Int32} {tp_first : Int32} {tp_behind : Int32} {res : Int32}
set_option maxHeartbeats 4000000 in
set_option maxRecDepth 100000 in
theorem k0X5_place {l : Launch} (G : Gt) (a_tape a_tape_a : Nat)  (tp_many : Int32) (tp_first : Int32) (tp_behind : Int32) {res : Int32} (h : fX5_place tp_first = some res) : CtI G l yX5_place wsX5_place rmX5_place [.ref a_tape] (wX5_place G a_tape a_tape_a tp_many tp_first tp_behind) res (wX5_place G a_tape a_tape_a tp_many tp_first tp_behind) := by
  refine CtI.mk (cc := cX5_place) (maxL := 1) (ret := (some .int)) (own := RX5) (by decide) rfl rfl (Nat.le_of_ble_eq_true rfl) ?_
  intro p e s m below meth c A X ls hl hW
  obtain ⟨hx, hb, -⟩ := id X.1
  have hl : lv_has ls 1 [(0, .ref a_tape)] := hl
  generalize hH : s.heap = H at hW ⊢
  generalize hLo : ([] : List Loc) = locs at hW ⊢
  rw [fX5_place] at h
  refine lv_aload_n hx hb dX5_place_0 rfl (lv_at hl 0 rfl) ?_
  refine g_get X hW eX5_place_19 0 rfl rfl dX5_place_1 ?_
  obtain rfl := Option.some.inj h
  exact g_iret X hW dX5_place_4
theorem kcX5_place {l : Launch} (G : Gt) (a_tape a_tape_a : Nat)  (tp_many : Int32) (tp_first : Int32) (tp_behind : Int32) {r : Int32}  (h : fX5_place tp_first = some r) : CtI G l yX5_place wsX5_place rmX5_place [.ref a_tape] (wX5_place G a_tape a_tape_a tp_many tp_first tp_behind) r (wX5_place G a_tape a_tape_a tp_many tp_first tp_behind) := k0X5_place G a_tape a_tape_a tp_many tp_first tp_behind h
end MX5_place
/-! EmptyBoxes$LeaseText.parse -/
section MX1_parse
theorem hdX1_parse : yX1_parse.cls = RX1 ∧ yX1_parse.cls ≠ "java/lang/invoke/MethodHandle" ∧ yX1_parse.cls ≠ "java/lang/invoke/VarHandle" ∧ (parseMethodDescriptor yX1_parse.desc).map (fun d => d.parameters.length) = some 1 := by decide +kernel
abbrev wX1_parse (G : Gt) (a_text a_text_a a_tape a_tape_a : Nat) (tx_clauses : Int32) (tx_fault : Int32) (tx_f : (Nat → Int32)) (tp_many : Int32) (tp_first : Int32) (tp_behind : Int32) (tp_f : (Nat → Int32)) : va_W := [(a_text, .inr (1, [.ref a_text_a, .int tx_clauses, .int tx_fault])), (a_text_a, .inl (G.2.1, 16, .inl tx_f)), (a_tape, .inr (5, [.ref a_tape_a, .int tp_many, .int tp_first, .int tp_behind])), (a_tape_a, .inl (G.2.1, 120, .inl tp_f))]
abbrev rmX1_parse : Room := { frames := 7, cells := 0, slots := 0, locals := 150 }
theorem iX1_parse_X1 : ∀ w ∈ wsX10, w ∈ wsX1_parse := by decide +kernel
theorem eX1_parse_15 : Fk wsX1_parse RX1 15 1 1 := ⟨RX1, TX1, 3, rfl, iX1_parse_X1, by decide, by decide +kernel⟩
theorem eX1_parse_9 : Fk wsX1_parse RX1 9 1 0 := ⟨RX1, TX1, 3, rfl, iX1_parse_X1, by decide, by decide +kernel⟩
theorem pX1_parse_15 : Fp wsX1_parse RX1 15 1 1 .int := ⟨RX1, TX1, 3, tyX1, rfl, iX1_parse_X1, by decide, by decide +kernel, tyX1_ok, nmX1, rfl, by decide +kernel⟩
theorem pX1_parse_19 : Fp wsX1_parse RX1 19 1 2 .int := ⟨RX1, TX1, 3, tyX1, rfl, iX1_parse_X1, by decide, by decide +kernel, tyX1_ok, nmX1, rfl, by decide +kernel⟩
theorem ckX1_parse_X1_parseClause_31 : CkV wsX1_parse RX1 31 yX1_parseClause wsX1_parseClause cX1_parseClause 4 (some .boolean) 1 1 := ⟨RX1, TX1, 3, _, rfl, gX1_parse_X1_parseClause, rfl, hdX1_parseClause⟩
theorem ckX1_parse_X5_advance_27 : CkV wsX1_parse RX1 27 yX5_advance wsX5_advance cX5_advance 1 (some .boolean) 0 5 := ⟨RX5, TX5, 4, _, rfl, gX1_parse_X5_advance, rfl, hdX5_advance⟩
theorem ckX1_parse_X5_place_35 : CkV wsX1_parse RX1 35 yX5_place wsX5_place cX5_place 1 (some .int) 0 5 := ⟨RX5, TX5, 4, _, rfl, gX1_parse_X5_place, rfl, hdX5_place⟩
theorem ckX1_parse_X5_rewind_22 : CkV wsX1_parse RX1 22 yX5_rewind wsX5_rewind cX5_rewind 1 none 0 5 := ⟨RX5, TX5, 4, _, rfl, gX1_parse_X5_rewind, rfl, hdX5_rewind⟩
variable {p : Program} {l : Launch} {e : Env} {s : State} {m : MethodId} {args : Array Value} {below : List Frame} {meth : Method} {c : Code} {A : Nat → Prop} {G : Gt} {a_text a_text_a a_tape a_tape_a : Nat} {tp_many : Int32} {tp_f : (Nat → Int32)} {res : Int32 × Int32 × Int32 × (Nat → Int32) × Int32 × Int32}
set_option maxHeartbeats 4000000 in
set_option maxRecDepth 100000 in
theorem tX1_parse_61 (X : Bx p s m args meth c cX1_parse 3 wsX1_parse RX1 (some .boolean)) (tx_clauses : Int32) (tx_fault : Int32) (tx_f : (Nat → Int32)) (tp_first : Int32) (tp_behind : Int32)   (h : fX1_parse_61 tx_clauses tx_f tp_first tp_behind = some res) : ∀ (H : Heap) (locs : List Loc), Wo G A s (wX1_parse G a_text a_text_a a_tape a_tape_a tx_clauses tx_fault tx_f tp_many tp_first tp_behind tp_f) H locs → ∀ ls : Array Slot, lv_has ls 3 [(0, .ref a_text), (1, .ref a_tape)] → W p l e rmX1_parse s m args below meth c H locs 0 0 (QI G A below args s res.1 (wX1_parse G a_text a_text_a a_tape a_tape_a res.2.1 res.2.2.1 res.2.2.2.1 tp_many res.2.2.2.2.1 res.2.2.2.2.2 tp_f)) (F0 m 61 ls []) := by
  obtain ⟨hx, hb, -⟩ := id X.1
  intro H locs hW ls hl
  rw [fX1_parse_61] at h
  refine lv_aload_n hx hb dX1_parse_61 rfl (lv_at hl 0 rfl) ?_
  refine lv_aload_n hx hb dX1_parse_62 rfl (lv_at hl 1 rfl) ?_
  obtain ⟨r3, hq, h⟩ := bn1_some h
  refine g_cvi X hW (As := []) (ws' := (wX1_parse G a_text a_text_a a_tape a_tape_a tx_clauses tx_fault tx_f tp_many tp_first tp_behind tp_f)) ckX1_parse_X5_place_35 (kcX5_place (l := l) G a_tape a_tape_a tp_many tp_first tp_behind hq) ⟨rfl, rfl, Nat.le_of_ble_eq_true rfl, Nat.le_of_ble_eq_true rfl⟩ [2] rfl rfl rfl rfl rfl rfl rfl hl.1 (Nat.le_of_ble_eq_true rfl) ⟨Nat.zero_le _, Nat.zero_le _⟩ dX1_parse_63 (fun H locs hW => ?_)
  refine g_put X hW (ws' := (wX1_parse G a_text a_text_a a_tape a_tape_a tx_clauses r3 tx_f tp_many tp_first tp_behind tp_f)) pX1_parse_19 0 rfl (Nat.le_of_ble_eq_true rfl) rfl rfl rfl dX1_parse_66 (fun H locs hW => ?_)
  refine lv_iconst hx hb dX1_parse_69 qI_0 ?_
  obtain rfl := Option.some.inj h
  exact g_zret X hW rfl dX1_parse_70
set_option maxHeartbeats 4000000 in
set_option maxRecDepth 100000 in
theorem tX1_parse_38 (X : Bx p s m args meth c cX1_parse 3 wsX1_parse RX1 (some .boolean)) (tx_fault : Int32) (k_61 : Int32 → (Nat → Int32) → Int32 → Int32 → Option (Int32 × Int32 × Int32 × (Nat → Int32) × Int32 × Int32)) (Hk_61 : ∀ (tx_clauses : Int32) (tx_f : (Nat → Int32)) (tp_first : Int32) (tp_behind : Int32), k_61 tx_clauses tx_f tp_first tp_behind = some res → ∀ (H : Heap) (locs : List Loc), Wo G A s (wX1_parse G a_text a_text_a a_tape a_tape_a tx_clauses tx_fault tx_f tp_many tp_first tp_behind tp_f) H locs → ∀ ls : Array Slot, lv_has ls 3 [(0, .ref a_text), (1, .ref a_tape)] → W p l e rmX1_parse s m args below meth c H locs 0 0 (QI G A below args s res.1 (wX1_parse G a_text a_text_a a_tape a_tape_a res.2.1 res.2.2.1 res.2.2.2.1 tp_many res.2.2.2.2.1 res.2.2.2.2.2 tp_f)) (F0 m 61 ls [])) : ∀ (n : Nat) (v2 : Int32) (tx_clauses : Int32) (tx_f : (Nat → Int32)) (tp_first : Int32) (tp_behind : Int32), fX1_parse_38 tx_fault tp_many tp_f k_61 n v2 tx_clauses tx_f tp_first tp_behind = some res → ∀ (H : Heap) (locs : List Loc), Wo G A s (wX1_parse G a_text a_text_a a_tape a_tape_a tx_clauses tx_fault tx_f tp_many tp_first tp_behind tp_f) H locs → ∀ ls : Array Slot, lv_has ls 3 [(0, .ref a_text), (1, .ref a_tape), (2, .int v2)] → W p l e rmX1_parse s m args below meth c H locs 0 0 (QI G A below args s res.1 (wX1_parse G a_text a_text_a a_tape a_tape_a res.2.1 res.2.2.1 res.2.2.2.1 tp_many res.2.2.2.2.1 res.2.2.2.2.2 tp_f)) (F0 m 38 ls []) := by
  obtain ⟨hx, hb, -⟩ := id X.1
  intro n
  induction n with
  | zero => intro v2 tx_clauses tx_f tp_first tp_behind h; rw [fX1_parse_38] at h; cases h
  | succ n ih =>
    intro v2 tx_clauses tx_f tp_first tp_behind h H locs hW ls hl
    rw [fX1_parse_38] at h
    refine lv_iload_n hx hb dX1_parse_38 rfl (lv_at hl 2 rfl) ?_
    refine lv_bipush hx hb dX1_parse_39 qB_16 ?_
    refine lv_icmp_gt (tgt := 87) hx hb dX1_parse_41 (by decide) (fun c9 => ?_) (fun c9 => ?_)
    · have h := (if_pos c9).symm.trans h
      refine lv_iconst hx hb dX1_parse_87 qI_0 ?_
      obtain rfl := Option.some.inj h
      exact g_zret X hW rfl dX1_parse_88
    · have h := (if_neg c9).symm.trans h
      refine lv_aload_n hx hb dX1_parse_44 rfl (lv_at hl 1 rfl) ?_
      obtain ⟨r13, o13_tp_first, o13_tp_behind, hq, h⟩ := bn3_some h
      refine g_cvi X hW (As := []) (ws' := (wX1_parse G a_text a_text_a a_tape a_tape_a tx_clauses tx_fault tx_f tp_many o13_tp_first o13_tp_behind tp_f)) ckX1_parse_X5_advance_27 (kcX5_advance (l := l) G a_tape a_tape_a tp_many tp_first tp_behind tp_f hq) ⟨rfl, rfl, Nat.le_of_ble_eq_true rfl, Nat.le_of_ble_eq_true rfl⟩ [2, 3] rfl rfl rfl rfl rfl rfl rfl hl.1 (Nat.le_of_ble_eq_true rfl) ⟨Nat.zero_le _, Nat.zero_le _⟩ dX1_parse_45 (fun H locs hW => ?_)
      refine lv_if_ne (tgt := 53) hx hb dX1_parse_48 (by decide) (fun c14 => ?_) (fun c14 => ?_)
      · have h := (if_neg c14).symm.trans h
        refine lv_aload_n hx hb dX1_parse_53 rfl (lv_at hl 0 rfl) ?_
        refine lv_aload_n hx hb dX1_parse_54 rfl (lv_at hl 1 rfl) ?_
        obtain ⟨r17, o17_tx_f, o17_tp_first, o17_tp_behind, hq, h⟩ := bn4_some h
        refine g_cvi X hW (As := [.ref a_tape]) (ws' := (wX1_parse G a_text a_text_a a_tape a_tape_a tx_clauses tx_fault o17_tx_f tp_many o17_tp_first o17_tp_behind tp_f)) ckX1_parse_X1_parseClause_31 (kcX1_parseClause (l := l) G a_text a_text_a a_tape a_tape_a tx_clauses tx_fault tx_f tp_many o13_tp_first o13_tp_behind tp_f hq) ⟨rfl, rfl, Nat.le_of_ble_eq_true rfl, Nat.le_of_ble_eq_true rfl⟩ [0, 1, 2, 3] rfl rfl rfl rfl rfl rfl rfl hl.1 (Nat.le_of_ble_eq_true rfl) ⟨Nat.zero_le _, Nat.zero_le _⟩ dX1_parse_55 (fun H locs hW => ?_)
        refine lv_if_ne (tgt := 71) hx hb dX1_parse_58 (by decide) (fun c18 => ?_) (fun c18 => ?_)
        · have h := (if_neg c18).symm.trans h
          refine lv_aload_n hx hb dX1_parse_71 rfl (lv_at hl 0 rfl) ?_
          refine lv_dup hx hb dX1_parse_72 rfl ?_
          refine g_get X hW eX1_parse_15 0 rfl rfl dX1_parse_73 ?_
          refine lv_iconst hx hb dX1_parse_76 qI_1 ?_
          refine lv_iadd hx hb dX1_parse_77 ?_
          refine g_put X hW (ws' := (wX1_parse G a_text a_text_a a_tape a_tape_a (tx_clauses + (1 : Int32)) tx_fault o17_tx_f tp_many o17_tp_first o17_tp_behind tp_f)) pX1_parse_15 0 rfl (Nat.le_of_ble_eq_true rfl) rfl rfl rfl dX1_parse_78 (fun H locs hW => ?_)
          refine lv_iinc (v := (v2 + (1 : Int32))) (lv' := [(2, .int (v2 + (1 : Int32))), (0, .ref a_text), (1, .ref a_tape)]) hx hb dX1_parse_81 hl (k := 2) rfl (congrArg (fun z => v2 + z) qI_1) (by decide) rfl (fun ls hl => ?_)
          refine lv_goto (tgt := 38) hx hb dX1_parse_84 (by decide) ?_
          exact ih (v2 + (1 : Int32)) (tx_clauses + (1 : Int32)) o17_tx_f o17_tp_first o17_tp_behind h H locs hW ls (lv_sub hl [1, 2, 0] rfl)
        · have h := (if_pos c18).symm.trans h
          exact Hk_61 tx_clauses o17_tx_f o17_tp_first o17_tp_behind h H locs hW ls (lv_sub hl [0, 1] rfl)
      · have h := (if_pos c14).symm.trans h
        refine lv_iconst hx hb dX1_parse_51 qI_1 ?_
        obtain rfl := Option.some.inj h
        exact g_zret X hW rfl dX1_parse_52
set_option maxHeartbeats 4000000 in
set_option maxRecDepth 100000 in
theorem tX1_parse_22 (X : Bx p s m args meth c cX1_parse 3 wsX1_parse RX1 (some .boolean)) (tx_clauses : Int32) (tx_fault : Int32) (tx_f : (Nat → Int32)) (tp_first : Int32) (tp_behind : Int32)   (h : fX1_parse_22 tx_f tp_many tp_first tp_behind tp_f = some res) : ∀ (H : Heap) (locs : List Loc), Wo G A s (wX1_parse G a_text a_text_a a_tape a_tape_a tx_clauses tx_fault tx_f tp_many tp_first tp_behind tp_f) H locs → ∀ ls : Array Slot, lv_has ls 3 [(0, .ref a_text), (1, .ref a_tape)] → W p l e rmX1_parse s m args below meth c H locs 0 0 (QI G A below args s res.1 (wX1_parse G a_text a_text_a a_tape a_tape_a res.2.1 res.2.2.1 res.2.2.2.1 tp_many res.2.2.2.2.1 res.2.2.2.2.2 tp_f)) (F0 m 22 ls []) := by
  obtain ⟨hx, hb, -⟩ := id X.1
  intro H locs hW ls hl
  rw [fX1_parse_22] at h
  refine lv_aload_n hx hb dX1_parse_22 rfl (lv_at hl 0 rfl) ?_
  refine lv_iconst hx hb dX1_parse_23 qI_0 ?_
  refine g_put X hW (ws' := (wX1_parse G a_text a_text_a a_tape a_tape_a (0 : Int32) tx_fault tx_f tp_many tp_first tp_behind tp_f)) pX1_parse_15 0 rfl (Nat.le_of_ble_eq_true rfl) rfl rfl rfl dX1_parse_24 (fun H locs hW => ?_)
  refine lv_aload_n hx hb dX1_parse_27 rfl (lv_at hl 0 rfl) ?_
  refine lv_iconst hx hb dX1_parse_28 qI_0 ?_
  refine g_put X hW (ws' := (wX1_parse G a_text a_text_a a_tape a_tape_a (0 : Int32) (0 : Int32) tx_f tp_many tp_first tp_behind tp_f)) pX1_parse_19 0 rfl (Nat.le_of_ble_eq_true rfl) rfl rfl rfl dX1_parse_29 (fun H locs hW => ?_)
  refine lv_aload_n hx hb dX1_parse_32 rfl (lv_at hl 1 rfl) ?_
  obtain ⟨o36_tp_first, o36_tp_behind, hq, h⟩ := bn2_some h
  refine g_cvv X hW (As := []) (ws' := (wX1_parse G a_text a_text_a a_tape a_tape_a (0 : Int32) (0 : Int32) tx_f tp_many o36_tp_first o36_tp_behind tp_f)) ckX1_parse_X5_rewind_22 (kcX5_rewind (l := l) G a_tape a_tape_a tp_many tp_first tp_behind hq) ⟨rfl, rfl, Nat.le_of_ble_eq_true rfl, Nat.le_of_ble_eq_true rfl⟩ [2] rfl rfl rfl rfl rfl rfl rfl hl.1 (Nat.le_of_ble_eq_true rfl) ⟨Nat.zero_le _, Nat.zero_le _⟩ dX1_parse_33 (fun H locs hW => ?_)
  refine lv_iconst hx hb dX1_parse_36 qI_0 ?_
  refine lv_istore_n (lv' := [(2, .int (0 : Int32)), (0, .ref a_text), (1, .ref a_tape)]) hx hb dX1_parse_37 rfl hl (by decide) rfl (fun ls hl => ?_)
  exact tX1_parse_38 X (0 : Int32) (fun tx_clauses_q39 tx_f_q39 tp_first_q39 tp_behind_q39 => fX1_parse_61 tx_clauses_q39 tx_f_q39 tp_first_q39 tp_behind_q39) (fun tx_clauses_q39 tx_f_q39 tp_first_q39 tp_behind_q39 h H locs hW ls hl => by exact tX1_parse_61 X tx_clauses_q39 (0 : Int32) tx_f_q39 tp_first_q39 tp_behind_q39 h H locs hW ls hl) FU (0 : Int32) (0 : Int32) tx_f o36_tp_first o36_tp_behind h H locs hW ls (lv_sub hl [1, 2, 0] rfl)
set_option maxHeartbeats 4000000 in
set_option maxRecDepth 100000 in
theorem tX1_parse_2 (X : Bx p s m args meth c cX1_parse 3 wsX1_parse RX1 (some .boolean)) (tx_clauses : Int32) (tx_fault : Int32) (tp_first : Int32) (tp_behind : Int32) (k_22 : (Nat → Int32) → Option (Int32 × Int32 × Int32 × (Nat → Int32) × Int32 × Int32)) (Hk_22 : ∀ (tx_f : (Nat → Int32)), k_22 tx_f = some res → ∀ (H : Heap) (locs : List Loc), Wo G A s (wX1_parse G a_text a_text_a a_tape a_tape_a tx_clauses tx_fault tx_f tp_many tp_first tp_behind tp_f) H locs → ∀ ls : Array Slot, lv_has ls 3 [(0, .ref a_text), (1, .ref a_tape)] → W p l e rmX1_parse s m args below meth c H locs 0 0 (QI G A below args s res.1 (wX1_parse G a_text a_text_a a_tape a_tape_a res.2.1 res.2.2.1 res.2.2.2.1 tp_many res.2.2.2.2.1 res.2.2.2.2.2 tp_f)) (F0 m 22 ls [])) : ∀ (n : Nat) (v2 : Int32) (tx_f : (Nat → Int32)), fX1_parse_2 k_22 n v2 tx_f = some res → ∀ (H : Heap) (locs : List Loc), Wo G A s (wX1_parse G a_text a_text_a a_tape a_tape_a tx_clauses tx_fault tx_f tp_many tp_first tp_behind tp_f) H locs → ∀ ls : Array Slot, lv_has ls 3 [(0, .ref a_text), (1, .ref a_tape), (2, .int v2)] → W p l e rmX1_parse s m args below meth c H locs 0 0 (QI G A below args s res.1 (wX1_parse G a_text a_text_a a_tape a_tape_a res.2.1 res.2.2.1 res.2.2.2.1 tp_many res.2.2.2.2.1 res.2.2.2.2.2 tp_f)) (F0 m 2 ls []) := by
  obtain ⟨hx, hb, -⟩ := id X.1
  intro n
  induction n with
  | zero => intro v2 tx_f h; rw [fX1_parse_2] at h; cases h
  | succ n ih =>
    intro v2 tx_f h H locs hW ls hl
    rw [fX1_parse_2] at h
    refine lv_iload_n hx hb dX1_parse_2 rfl (lv_at hl 2 rfl) ?_
    refine lv_bipush hx hb dX1_parse_3 qB_16 ?_
    refine lv_icmp_ge (tgt := 22) hx hb dX1_parse_5 (by decide) (fun c42 => ?_) (fun c42 => ?_)
    · have h := (if_pos c42).symm.trans h
      exact Hk_22 tx_f h H locs hW ls (lv_sub hl [0, 1] rfl)
    · have h := (if_neg c42).symm.trans h
      refine lv_aload_n hx hb dX1_parse_8 rfl (lv_at hl 0 rfl) ?_
      refine g_get X hW eX1_parse_9 0 rfl rfl dX1_parse_9 ?_
      refine lv_iload_n hx hb dX1_parse_12 rfl (lv_at hl 2 rfl) ?_
      refine lv_bipush hx hb dX1_parse_13 qB_m3 ?_
      obtain ⟨g47, h⟩ := gd_some h
      refine g_ast X hW (ws' := (wX1_parse G a_text a_text_a a_tape a_tape_a tx_clauses tx_fault (upd tx_f v2.toNatClampNeg (-3 : Int32)) tp_many tp_first tp_behind tp_f)) 1 rfl g47 rfl dX1_parse_15 (fun H locs hW => ?_)
      refine lv_iinc (v := (v2 + (1 : Int32))) (lv' := [(2, .int (v2 + (1 : Int32))), (0, .ref a_text), (1, .ref a_tape)]) hx hb dX1_parse_16 hl (k := 2) rfl (congrArg (fun z => v2 + z) qI_1) (by decide) rfl (fun ls hl => ?_)
      refine lv_goto (tgt := 2) hx hb dX1_parse_19 (by decide) ?_
      exact ih (v2 + (1 : Int32)) (upd tx_f v2.toNatClampNeg (-3 : Int32)) h H locs hW ls (lv_sub hl [1, 2, 0] rfl)
set_option maxHeartbeats 4000000 in
set_option maxRecDepth 100000 in
theorem k0X1_parse {l : Launch} (G : Gt) (a_text a_text_a a_tape a_tape_a : Nat)  (tx_clauses : Int32) (tx_fault : Int32) (tx_f : (Nat → Int32)) (tp_many : Int32) (tp_first : Int32) (tp_behind : Int32) (tp_f : (Nat → Int32)) {res : Int32 × Int32 × Int32 × (Nat → Int32) × Int32 × Int32} (h : fX1_parse tx_clauses tx_fault tx_f tp_many tp_first tp_behind tp_f = some res) : CtI G l yX1_parse wsX1_parse rmX1_parse [.ref a_text, .ref a_tape] (wX1_parse G a_text a_text_a a_tape a_tape_a tx_clauses tx_fault tx_f tp_many tp_first tp_behind tp_f) res.1 (wX1_parse G a_text a_text_a a_tape a_tape_a res.2.1 res.2.2.1 res.2.2.2.1 tp_many res.2.2.2.2.1 res.2.2.2.2.2 tp_f) := by
  refine CtI.mk (cc := cX1_parse) (maxL := 3) (ret := (some .boolean)) (own := RX1) (by decide) rfl rfl (Nat.le_of_ble_eq_true rfl) ?_
  intro p e s m below meth c A X ls hl hW
  obtain ⟨hx, hb, -⟩ := id X.1
  have hl : lv_has ls 3 [(0, .ref a_text), (1, .ref a_tape)] := hl
  generalize hH : s.heap = H at hW ⊢
  generalize hLo : ([] : List Loc) = locs at hW ⊢
  rw [fX1_parse] at h
  refine lv_iconst hx hb dX1_parse_0 qI_0 ?_
  refine lv_istore_n (lv' := [(2, .int (0 : Int32)), (0, .ref a_text), (1, .ref a_tape)]) hx hb dX1_parse_1 rfl hl (by decide) rfl (fun ls hl => ?_)
  exact tX1_parse_2 X tx_clauses tx_fault tp_first tp_behind (fun tx_f_q52 => fX1_parse_22 tx_f_q52 tp_many tp_first tp_behind tp_f) (fun tx_f_q52 h H locs hW ls hl => by exact tX1_parse_22 X tx_clauses tx_fault tx_f_q52 tp_first tp_behind h H locs hW ls hl) FU (0 : Int32) tx_f h H locs hW ls (lv_sub hl [1, 2, 0] rfl)
theorem kcX1_parse {l : Launch} (G : Gt) (a_text a_text_a a_tape a_tape_a : Nat)  (tx_clauses : Int32) (tx_fault : Int32) (tx_f : (Nat → Int32)) (tp_many : Int32) (tp_first : Int32) (tp_behind : Int32) (tp_f : (Nat → Int32)) {r : Int32} {z_tx_clauses : Int32} {z_tx_fault : Int32} {z_tx_f : (Nat → Int32)} {z_tp_first : Int32} {z_tp_behind : Int32} (h : fX1_parse tx_clauses tx_fault tx_f tp_many tp_first tp_behind tp_f = some (r, z_tx_clauses, z_tx_fault, z_tx_f, z_tp_first, z_tp_behind)) : CtI G l yX1_parse wsX1_parse rmX1_parse [.ref a_text, .ref a_tape] (wX1_parse G a_text a_text_a a_tape a_tape_a tx_clauses tx_fault tx_f tp_many tp_first tp_behind tp_f) r (wX1_parse G a_text a_text_a a_tape a_tape_a z_tx_clauses z_tx_fault z_tx_f tp_many z_tp_first z_tp_behind tp_f) := k0X1_parse G a_text a_text_a a_tape a_tape_a tx_clauses tx_fault tx_f tp_many tp_first tp_behind tp_f h
end MX1_parse
/-! EmptyBoxes$LeaseText.termOr -/
section MX1_termOr
theorem hdX1_termOr : yX1_termOr.cls = RX1 ∧ yX1_termOr.cls ≠ "java/lang/invoke/MethodHandle" ∧ yX1_termOr.cls ≠ "java/lang/invoke/VarHandle" ∧ (parseMethodDescriptor yX1_termOr.desc).map (fun d => d.parameters.length) = some 2 := by decide +kernel
abbrev wX1_termOr (G : Gt) (a_text a_text_a : Nat) (tx_clauses : Int32) (tx_fault : Int32) (tx_f : (Nat → Int32)) : va_W := [(a_text, .inr (1, [.ref a_text_a, .int tx_clauses, .int tx_fault])), (a_text_a, .inl (G.2.1, 16, .inl tx_f))]
abbrev rmX1_termOr : Room := { frames := 0, cells := 0, slots := 0, locals := 0 }
theorem iX1_termOr_X1 : ∀ w ∈ wsX10, w ∈ wsX1_termOr := by decide +kernel
theorem eX1_termOr_9 : Fk wsX1_termOr RX1 9 1 0 := ⟨RX1, TX1, 3, rfl, iX1_termOr_X1, by decide, by decide +kernel⟩
variable {p : Program} {l : Launch} {e : Env} {s : State} {m : MethodId} {args : Array Value} {below : List Frame} {meth : Method} {c : Code} {A : Nat → Prop} {G : Gt} {a_text a_text_a : Nat} {tx_clauses : Int32} {tx_fault : Int32} {tx_f : (Nat → Int32)} {res : Int32}
set_option maxHeartbeats 4000000 in
set_option maxRecDepth 100000 in
theorem tX1_termOr_24 (X : Bx p s m args meth c cX1_termOr 4 wsX1_termOr RX1 (some .int)) (v1 : Int32) (v2 : Int32) (t0 : Int32)   (h : fX1_termOr_24 v1 v2 t0 tx_f = some res) : ∀ (H : Heap) (locs : List Loc), Wo G A s (wX1_termOr G a_text a_text_a tx_clauses tx_fault tx_f) H locs → ∀ ls : Array Slot, lv_has ls 4 [(0, .ref a_text), (1, .int v1), (2, .int v2)] → W p l e rmX1_termOr s m args below meth c H locs 0 0 (QI G A below args s res (wX1_termOr G a_text a_text_a tx_clauses tx_fault tx_f)) (F0 m 24 ls [.int t0]) := by
  obtain ⟨hx, hb, -⟩ := id X.1
  intro H locs hW ls hl
  rw [fX1_termOr_24] at h
  refine lv_istore_n (lv' := [(3, .int t0), (0, .ref a_text), (1, .int v1), (2, .int v2)]) hx hb dX1_termOr_24 rfl hl (by decide) rfl (fun ls hl => ?_)
  refine lv_iload_n hx hb dX1_termOr_25 rfl (lv_at hl 0 rfl) ?_
  refine lv_if_eq (tgt := 38) hx hb dX1_termOr_26 (by decide) (fun c3 => ?_) (fun c3 => ?_)
  · have h := (if_pos c3).symm.trans h
    refine lv_iload_n hx hb dX1_termOr_38 rfl (lv_at hl 3 rfl) ?_
    obtain rfl := Option.some.inj h
    exact g_iret X hW dX1_termOr_39
  · have h := (if_neg c3).symm.trans h
    refine lv_aload_n hx hb dX1_termOr_29 rfl (lv_at hl 1 rfl) ?_
    refine g_get X hW eX1_termOr_9 0 rfl rfl dX1_termOr_30 ?_
    refine lv_iload_n hx hb dX1_termOr_33 rfl (lv_at hl 2 rfl) ?_
    obtain ⟨g9, h⟩ := gd_some h
    refine g_ald X hW 1 rfl g9 dX1_termOr_34 ?_
    refine lv_goto (tgt := 39) hx hb dX1_termOr_35 (by decide) ?_
    obtain rfl := Option.some.inj h
    exact g_iret X hW dX1_termOr_39
set_option maxHeartbeats 4000000 in
set_option maxRecDepth 100000 in
theorem tX1_termOr_23 (X : Bx p s m args meth c cX1_termOr 4 wsX1_termOr RX1 (some .int)) (v1 : Int32) (v2 : Int32)   (h : fX1_termOr_23 v1 v2 tx_f = some res) : ∀ (H : Heap) (locs : List Loc), Wo G A s (wX1_termOr G a_text a_text_a tx_clauses tx_fault tx_f) H locs → ∀ ls : Array Slot, lv_has ls 4 [(0, .ref a_text), (1, .int v1), (2, .int v2)] → W p l e rmX1_termOr s m args below meth c H locs 0 0 (QI G A below args s res (wX1_termOr G a_text a_text_a tx_clauses tx_fault tx_f)) (F0 m 23 ls []) := by
  obtain ⟨hx, hb, -⟩ := id X.1
  intro H locs hW ls hl
  rw [fX1_termOr_23] at h
  refine lv_iconst hx hb dX1_termOr_23 qI_0 ?_
  exact tX1_termOr_24 X v1 v2 (0 : Int32) h H locs hW ls hl
set_option maxHeartbeats 4000000 in
set_option maxRecDepth 100000 in
theorem k0X1_termOr {l : Launch} (G : Gt) (a_text a_text_a : Nat) (v1 : Int32) (v2 : Int32) (tx_clauses : Int32) (tx_fault : Int32) (tx_f : (Nat → Int32)) {res : Int32} (h : fX1_termOr v1 v2 tx_f = some res) : CtI G l yX1_termOr wsX1_termOr rmX1_termOr [.ref a_text, .int v1, .int v2] (wX1_termOr G a_text a_text_a tx_clauses tx_fault tx_f) res (wX1_termOr G a_text a_text_a tx_clauses tx_fault tx_f) := by
  refine CtI.mk (cc := cX1_termOr) (maxL := 4) (ret := (some .int)) (own := RX1) (by decide) rfl rfl (Nat.le_of_ble_eq_true rfl) ?_
  intro p e s m below meth c A X ls hl hW
  obtain ⟨hx, hb, -⟩ := id X.1
  have hl : lv_has ls 4 [(0, .ref a_text), (1, .int v1), (2, .int v2)] := hl
  generalize hH : s.heap = H at hW ⊢
  generalize hLo : ([] : List Loc) = locs at hW ⊢
  rw [fX1_termOr] at h
  refine lv_iload_n hx hb dX1_termOr_0 rfl (lv_at hl 1 rfl) ?_
  refine lv_if_lt (tgt := 23) hx hb dX1_termOr_1 (by decide) (fun c14 => ?_) (fun c14 => ?_)
  · have h := (if_pos c14).symm.trans h
    exact tX1_termOr_23 X v1 v2 h H locs hW ls hl
  · have h := (if_neg c14).symm.trans h
    refine lv_iload_n hx hb dX1_termOr_4 rfl (lv_at hl 1 rfl) ?_
    refine lv_bipush hx hb dX1_termOr_5 qB_16 ?_
    refine lv_icmp_ge (tgt := 23) hx hb dX1_termOr_7 (by decide) (fun c17 => ?_) (fun c17 => ?_)
    · have h := (if_pos c17).symm.trans h
      exact tX1_termOr_23 X v1 v2 h H locs hW ls hl
    · have h := (if_neg c17).symm.trans h
      refine lv_aload_n hx hb dX1_termOr_10 rfl (lv_at hl 0 rfl) ?_
      refine g_get X hW eX1_termOr_9 0 rfl rfl dX1_termOr_11 ?_
      refine lv_iload_n hx hb dX1_termOr_14 rfl (lv_at hl 1 rfl) ?_
      obtain ⟨g21, h⟩ := gd_some h
      refine g_ald X hW 1 rfl g21 dX1_termOr_15 ?_
      refine lv_if_lt (tgt := 23) hx hb dX1_termOr_16 (by decide) (fun c22 => ?_) (fun c22 => ?_)
      · have h := (if_pos c22).symm.trans h
        exact tX1_termOr_23 X v1 v2 h H locs hW ls hl
      · have h := (if_neg c22).symm.trans h
        refine lv_iconst hx hb dX1_termOr_19 qI_1 ?_
        refine lv_goto (tgt := 24) hx hb dX1_termOr_20 (by decide) ?_
        exact tX1_termOr_24 X v1 v2 (1 : Int32) h H locs hW ls hl
theorem kcX1_termOr {l : Launch} (G : Gt) (a_text a_text_a : Nat) (v1 : Int32) (v2 : Int32) (tx_clauses : Int32) (tx_fault : Int32) (tx_f : (Nat → Int32)) {r : Int32}  (h : fX1_termOr v1 v2 tx_f = some r) : CtI G l yX1_termOr wsX1_termOr rmX1_termOr [.ref a_text, .int v1, .int v2] (wX1_termOr G a_text a_text_a tx_clauses tx_fault tx_f) r (wX1_termOr G a_text a_text_a tx_clauses tx_fault tx_f) := k0X1_termOr G a_text a_text_a v1 v2 tx_clauses tx_fault tx_f h
end MX1_termOr
/-! EmptyBoxes$Table.holds -/
section MX4_holds
theorem hdX4_holds : yX4_holds.cls = RX4 ∧ yX4_holds.cls ≠ "java/lang/invoke/MethodHandle" ∧ yX4_holds.cls ≠ "java/lang/invoke/VarHandle" ∧ (parseMethodDescriptor yX4_holds.desc).map (fun d => d.parameters.length) = some 2 := by decide +kernel
abbrev wX4_holds (G : Gt) (a_tb a_tb_a : Nat) (tb_c : Int32) (tb_m : Int32) (tb_r : Int32) : va_W := [(a_tb, .inr (4, [.ref a_tb_a, .int tb_c, .int tb_m, .int tb_r]))]
abbrev rmX4_holds : Room := { frames := 0, cells := 0, slots := 0, locals := 0 }
theorem iX4_holds_X4 : ∀ w ∈ wsX40, w ∈ wsX4_holds := by decide +kernel
theorem eX4_holds_21 : Fk wsX4_holds RX4 21 4 1 := ⟨RX4, TX4, 4, rfl, iX4_holds_X4, by decide, by decide +kernel⟩
theorem eX4_holds_28 : Fk wsX4_holds RX4 28 4 3 := ⟨RX4, TX4, 4, rfl, iX4_holds_X4, by decide, by decide +kernel⟩
variable {p : Program} {l : Launch} {e : Env} {s : State} {m : MethodId} {args : Array Value} {below : List Frame} {meth : Method} {c : Code} {A : Nat → Prop} {G : Gt} {a_tb a_tb_a : Nat} {tb_c : Int32} {tb_m : Int32} {tb_r : Int32} {res : Int32}
set_option maxHeartbeats 4000000 in
set_option maxRecDepth 100000 in
theorem k0X4_holds {l : Launch} (G : Gt) (a_tb a_tb_a : Nat) (v1 : Int32) (v2 : Int32) (tb_c : Int32) (tb_m : Int32) (tb_r : Int32) {res : Int32} (h : fX4_holds v1 v2 tb_c tb_r = some res) : CtI G l yX4_holds wsX4_holds rmX4_holds [.ref a_tb, .int v1, .int v2] (wX4_holds G a_tb a_tb_a tb_c tb_m tb_r) res (wX4_holds G a_tb a_tb_a tb_c tb_m tb_r) := by
  refine CtI.mk (cc := cX4_holds) (maxL := 3) (ret := (some .boolean)) (own := RX4) (by decide) rfl rfl (Nat.le_of_ble_eq_true rfl) ?_
  intro p e s m below meth c A X ls hl hW
  obtain ⟨hx, hb, -⟩ := id X.1
  have hl : lv_has ls 3 [(0, .ref a_tb), (1, .int v1), (2, .int v2)] := hl
  generalize hH : s.heap = H at hW ⊢
  generalize hLo : ([] : List Loc) = locs at hW ⊢
  rw [fX4_holds] at h
  refine lv_iload_n hx hb dX4_holds_0 rfl (lv_at hl 1 rfl) ?_
  refine lv_if_lt (tgt := 28) hx hb dX4_holds_1 (by decide) (fun c2 => ?_) (fun c2 => ?_)
  · have h := (if_pos c2).symm.trans h
    refine lv_iconst hx hb dX4_holds_28 qI_0 ?_
    obtain rfl := Option.some.inj h
    exact g_zret X hW rfl dX4_holds_29
  · have h := (if_neg c2).symm.trans h
    refine lv_iload_n hx hb dX4_holds_4 rfl (lv_at hl 1 rfl) ?_
    refine lv_aload_n hx hb dX4_holds_5 rfl (lv_at hl 0 rfl) ?_
    refine g_get X hW eX4_holds_28 0 rfl rfl dX4_holds_6 ?_
    refine lv_icmp_ge (tgt := 28) hx hb dX4_holds_9 (by decide) (fun c8 => ?_) (fun c8 => ?_)
    · have h := (if_pos c8).symm.trans h
      refine lv_iconst hx hb dX4_holds_28 qI_0 ?_
      obtain rfl := Option.some.inj h
      exact g_zret X hW rfl dX4_holds_29
    · have h := (if_neg c8).symm.trans h
      refine lv_iload_n hx hb dX4_holds_12 rfl (lv_at hl 2 rfl) ?_
      refine lv_if_lt (tgt := 28) hx hb dX4_holds_13 (by decide) (fun c12 => ?_) (fun c12 => ?_)
      · have h := (if_pos c12).symm.trans h
        refine lv_iconst hx hb dX4_holds_28 qI_0 ?_
        obtain rfl := Option.some.inj h
        exact g_zret X hW rfl dX4_holds_29
      · have h := (if_neg c12).symm.trans h
        refine lv_iload_n hx hb dX4_holds_16 rfl (lv_at hl 2 rfl) ?_
        refine lv_aload_n hx hb dX4_holds_17 rfl (lv_at hl 0 rfl) ?_
        refine g_get X hW eX4_holds_21 0 rfl rfl dX4_holds_18 ?_
        refine lv_icmp_ge (tgt := 28) hx hb dX4_holds_21 (by decide) (fun c18 => ?_) (fun c18 => ?_)
        · have h := (if_pos c18).symm.trans h
          refine lv_iconst hx hb dX4_holds_28 qI_0 ?_
          obtain rfl := Option.some.inj h
          exact g_zret X hW rfl dX4_holds_29
        · have h := (if_neg c18).symm.trans h
          refine lv_iconst hx hb dX4_holds_24 qI_1 ?_
          refine lv_goto (tgt := 29) hx hb dX4_holds_25 (by decide) ?_
          obtain rfl := Option.some.inj h
          exact g_zret X hW rfl dX4_holds_29
theorem kcX4_holds {l : Launch} (G : Gt) (a_tb a_tb_a : Nat) (v1 : Int32) (v2 : Int32) (tb_c : Int32) (tb_m : Int32) (tb_r : Int32) {r : Int32}  (h : fX4_holds v1 v2 tb_c tb_r = some r) : CtI G l yX4_holds wsX4_holds rmX4_holds [.ref a_tb, .int v1, .int v2] (wX4_holds G a_tb a_tb_a tb_c tb_m tb_r) r (wX4_holds G a_tb a_tb_a tb_c tb_m tb_r) := k0X4_holds G a_tb a_tb_a v1 v2 tb_c tb_m tb_r h
end MX4_holds
/-! EmptyBoxes$Table.cell -/
section MX4_cell
theorem hdX4_cell : yX4_cell.cls = RX4 ∧ yX4_cell.cls ≠ "java/lang/invoke/MethodHandle" ∧ yX4_cell.cls ≠ "java/lang/invoke/VarHandle" ∧ (parseMethodDescriptor yX4_cell.desc).map (fun d => d.parameters.length) = some 2 := by decide +kernel
abbrev wX4_cell (G : Gt) (a_tb a_tb_a : Nat) (tb_c : Int32) (tb_m : Int32) (tb_r : Int32) (tb_n : Nat) (tb_f : (Nat → Int32)) : va_W := [(a_tb, .inr (4, [.ref a_tb_a, .int tb_c, .int tb_m, .int tb_r])), (a_tb_a, .inl (G.2.1, tb_n, .inl tb_f))]
abbrev rmX4_cell : Room := { frames := 1, cells := 0, slots := 0, locals := 22 }
theorem iX4_cell_X4 : ∀ w ∈ wsX40, w ∈ wsX4_cell := by decide +kernel
theorem eX4_cell_21 : Fk wsX4_cell RX4 21 4 1 := ⟨RX4, TX4, 4, rfl, iX4_cell_X4, by decide, by decide +kernel⟩
theorem eX4_cell_24 : Fk wsX4_cell RX4 24 4 0 := ⟨RX4, TX4, 4, rfl, iX4_cell_X4, by decide, by decide +kernel⟩
theorem ckX4_cell_X4_holds_31 : CkV wsX4_cell RX4 31 yX4_holds wsX4_holds cX4_holds 3 (some .boolean) 2 4 := ⟨RX4, TX4, 4, _, rfl, gX4_cell_X4_holds, rfl, hdX4_holds⟩
variable {p : Program} {l : Launch} {e : Env} {s : State} {m : MethodId} {args : Array Value} {below : List Frame} {meth : Method} {c : Code} {A : Nat → Prop} {G : Gt} {a_tb a_tb_a : Nat} {tb_c : Int32} {tb_m : Int32} {tb_r : Int32} {tb_n : Nat} {tb_f : (Nat → Int32)} {res : Int32}
set_option maxHeartbeats 4000000 in
set_option maxRecDepth 100000 in
theorem k0X4_cell {l : Launch} (G : Gt) (a_tb a_tb_a : Nat) (v1 : Int32) (v2 : Int32) (tb_c : Int32) (tb_m : Int32) (tb_r : Int32) (tb_n : Nat) (tb_f : (Nat → Int32)) {res : Int32} (h : fX4_cell v1 v2 tb_c tb_r tb_n tb_f = some res) : CtI G l yX4_cell wsX4_cell rmX4_cell [.ref a_tb, .int v1, .int v2] (wX4_cell G a_tb a_tb_a tb_c tb_m tb_r tb_n tb_f) res (wX4_cell G a_tb a_tb_a tb_c tb_m tb_r tb_n tb_f) := by
  refine CtI.mk (cc := cX4_cell) (maxL := 3) (ret := (some .int)) (own := RX4) (by decide) rfl rfl (Nat.le_of_ble_eq_true rfl) ?_
  intro p e s m below meth c A X ls hl hW
  obtain ⟨hx, hb, -⟩ := id X.1
  have hl : lv_has ls 3 [(0, .ref a_tb), (1, .int v1), (2, .int v2)] := hl
  generalize hH : s.heap = H at hW ⊢
  generalize hLo : ([] : List Loc) = locs at hW ⊢
  rw [fX4_cell] at h
  refine lv_aload_n hx hb dX4_cell_0 rfl (lv_at hl 0 rfl) ?_
  refine lv_iload_n hx hb dX4_cell_1 rfl (lv_at hl 1 rfl) ?_
  refine lv_iload_n hx hb dX4_cell_2 rfl (lv_at hl 2 rfl) ?_
  obtain ⟨r4, hq, h⟩ := bn1_some h
  refine g_cvi X hW (As := [.int v1, .int v2]) (ws' := (wX4_cell G a_tb a_tb_a tb_c tb_m tb_r tb_n tb_f)) ckX4_cell_X4_holds_31 (kcX4_holds (l := l) G a_tb a_tb_a v1 v2 tb_c tb_m tb_r hq) ⟨rfl, rfl, Nat.le_of_ble_eq_true rfl, Nat.le_of_ble_eq_true rfl⟩ [0] rfl rfl rfl rfl rfl rfl rfl hl.1 (Nat.le_of_ble_eq_true rfl) ⟨Nat.zero_le _, Nat.zero_le _⟩ dX4_cell_3 (fun H locs hW => ?_)
  refine lv_if_eq (tgt := 25) hx hb dX4_cell_6 (by decide) (fun c5 => ?_) (fun c5 => ?_)
  · have h := (if_pos c5).symm.trans h
    refine lv_bipush hx hb dX4_cell_25 qB_m3 ?_
    obtain rfl := Option.some.inj h
    exact g_iret X hW dX4_cell_27
  · have h := (if_neg c5).symm.trans h
    refine lv_aload_n hx hb dX4_cell_9 rfl (lv_at hl 0 rfl) ?_
    refine g_get X hW eX4_cell_24 0 rfl rfl dX4_cell_10 ?_
    refine lv_iload_n hx hb dX4_cell_13 rfl (lv_at hl 1 rfl) ?_
    refine lv_aload_n hx hb dX4_cell_14 rfl (lv_at hl 0 rfl) ?_
    refine g_get X hW eX4_cell_21 0 rfl rfl dX4_cell_15 ?_
    refine lv_imul hx hb dX4_cell_18 ?_
    refine lv_iload_n hx hb dX4_cell_19 rfl (lv_at hl 2 rfl) ?_
    refine lv_iadd hx hb dX4_cell_20 ?_
    obtain ⟨g16, h⟩ := gd_some h
    refine g_ald X hW 1 rfl g16 dX4_cell_21 ?_
    refine lv_goto (tgt := 27) hx hb dX4_cell_22 (by decide) ?_
    obtain rfl := Option.some.inj h
    exact g_iret X hW dX4_cell_27
theorem kcX4_cell {l : Launch} (G : Gt) (a_tb a_tb_a : Nat) (v1 : Int32) (v2 : Int32) (tb_c : Int32) (tb_m : Int32) (tb_r : Int32) (tb_n : Nat) (tb_f : (Nat → Int32)) {r : Int32}  (h : fX4_cell v1 v2 tb_c tb_r tb_n tb_f = some r) : CtI G l yX4_cell wsX4_cell rmX4_cell [.ref a_tb, .int v1, .int v2] (wX4_cell G a_tb a_tb_a tb_c tb_m tb_r tb_n tb_f) r (wX4_cell G a_tb a_tb_a tb_c tb_m tb_r tb_n tb_f) := k0X4_cell G a_tb a_tb_a v1 v2 tb_c tb_m tb_r tb_n tb_f h
end MX4_cell
/-! EmptyBoxes$Table.size -/
section MX4_size
theorem hdX4_size : yX4_size.cls = RX4 ∧ yX4_size.cls ≠ "java/lang/invoke/MethodHandle" ∧ yX4_size.cls ≠ "java/lang/invoke/VarHandle" ∧ (parseMethodDescriptor yX4_size.desc).map (fun d => d.parameters.length) = some 0 := by decide +kernel
abbrev wX4_size (G : Gt) (a_tb a_tb_a : Nat) (tb_c : Int32) (tb_m : Int32) (tb_r : Int32) : va_W := [(a_tb, .inr (4, [.ref a_tb_a, .int tb_c, .int tb_m, .int tb_r]))]
abbrev rmX4_size : Room := { frames := 0, cells := 0, slots := 0, locals := 0 }
theorem iX4_size_X4 : ∀ w ∈ wsX40, w ∈ wsX4_size := by decide +kernel
theorem eX4_size_28 : Fk wsX4_size RX4 28 4 3 := ⟨RX4, TX4, 4, rfl, iX4_size_X4, by decide, by decide +kernel⟩
variable {p : Program} {l : Launch} {e : Env} {s : State} {m : MethodId} {args : Array Value} {below : List Frame} {meth : Method} {c : Code} {A : Nat → Prop} {G : Gt} {a_tb a_tb_a : Nat} {tb_c : Int32} {tb_m : Int32} {tb_r : Int32} {res : Int32}
set_option maxHeartbeats 4000000 in
set_option maxRecDepth 100000 in
theorem k0X4_size {l : Launch} (G : Gt) (a_tb a_tb_a : Nat)  (tb_c : Int32) (tb_m : Int32) (tb_r : Int32) {res : Int32} (h : fX4_size tb_r = some res) : CtI G l yX4_size wsX4_size rmX4_size [.ref a_tb] (wX4_size G a_tb a_tb_a tb_c tb_m tb_r) res (wX4_size G a_tb a_tb_a tb_c tb_m tb_r) := by
  refine CtI.mk (cc := cX4_size) (maxL := 1) (ret := (some .int)) (own := RX4) (by decide) rfl rfl (Nat.le_of_ble_eq_true rfl) ?_
  intro p e s m below meth c A X ls hl hW
  obtain ⟨hx, hb, -⟩ := id X.1
  have hl : lv_has ls 1 [(0, .ref a_tb)] := hl
  generalize hH : s.heap = H at hW ⊢
  generalize hLo : ([] : List Loc) = locs at hW ⊢
  rw [fX4_size] at h
  refine lv_aload_n hx hb dX4_size_0 rfl (lv_at hl 0 rfl) ?_
  refine g_get X hW eX4_size_28 0 rfl rfl dX4_size_1 ?_
  obtain rfl := Option.some.inj h
  exact g_iret X hW dX4_size_4
theorem kcX4_size {l : Launch} (G : Gt) (a_tb a_tb_a : Nat)  (tb_c : Int32) (tb_m : Int32) (tb_r : Int32) {r : Int32}  (h : fX4_size tb_r = some r) : CtI G l yX4_size wsX4_size rmX4_size [.ref a_tb] (wX4_size G a_tb a_tb_a tb_c tb_m tb_r) r (wX4_size G a_tb a_tb_a tb_c tb_m tb_r) := k0X4_size G a_tb a_tb_a tb_c tb_m tb_r h
end MX4_size
/-! EmptyBoxes$Table.has -/
section MX4_has
theorem hdX4_has : yX4_has.cls = RX4 ∧ yX4_has.cls ≠ "java/lang/invoke/MethodHandle" ∧ yX4_has.cls ≠ "java/lang/invoke/VarHandle" ∧ (parseMethodDescriptor yX4_has.desc).map (fun d => d.parameters.length) = some 1 := by decide +kernel
abbrev wX4_has (G : Gt) (a_tb a_tb_a : Nat) (tb_c : Int32) (tb_m : Int32) (tb_r : Int32) : va_W := [(a_tb, .inr (4, [.ref a_tb_a, .int tb_c, .int tb_m, .int tb_r]))]
abbrev rmX4_has : Room := { frames := 0, cells := 0, slots := 0, locals := 0 }
theorem iX4_has_X4 : ∀ w ∈ wsX40, w ∈ wsX4_has := by decide +kernel
theorem eX4_has_28 : Fk wsX4_has RX4 28 4 3 := ⟨RX4, TX4, 4, rfl, iX4_has_X4, by decide, by decide +kernel⟩
variable {p : Program} {l : Launch} {e : Env} {s : State} {m : MethodId} {args : Array Value} {below : List Frame} {meth : Method} {c : Code} {A : Nat → Prop} {G : Gt} {a_tb a_tb_a : Nat} {tb_c : Int32} {tb_m : Int32} {tb_r : Int32} {res : Int32}
set_option maxHeartbeats 4000000 in
set_option maxRecDepth 100000 in
theorem k0X4_has {l : Launch} (G : Gt) (a_tb a_tb_a : Nat) (v1 : Int32) (tb_c : Int32) (tb_m : Int32) (tb_r : Int32) {res : Int32} (h : fX4_has v1 tb_r = some res) : CtI G l yX4_has wsX4_has rmX4_has [.ref a_tb, .int v1] (wX4_has G a_tb a_tb_a tb_c tb_m tb_r) res (wX4_has G a_tb a_tb_a tb_c tb_m tb_r) := by
  refine CtI.mk (cc := cX4_has) (maxL := 2) (ret := (some .boolean)) (own := RX4) (by decide) rfl rfl (Nat.le_of_ble_eq_true rfl) ?_
  intro p e s m below meth c A X ls hl hW
  obtain ⟨hx, hb, -⟩ := id X.1
  have hl : lv_has ls 2 [(0, .ref a_tb), (1, .int v1)] := hl
  generalize hH : s.heap = H at hW ⊢
  generalize hLo : ([] : List Loc) = locs at hW ⊢
  rw [fX4_has] at h
  refine lv_iload_n hx hb dX4_has_0 rfl (lv_at hl 1 rfl) ?_
  refine lv_if_lt (tgt := 16) hx hb dX4_has_1 (by decide) (fun c2 => ?_) (fun c2 => ?_)
  · have h := (if_pos c2).symm.trans h
    refine lv_iconst hx hb dX4_has_16 qI_0 ?_
    obtain rfl := Option.some.inj h
    exact g_zret X hW rfl dX4_has_17
  · have h := (if_neg c2).symm.trans h
    refine lv_iload_n hx hb dX4_has_4 rfl (lv_at hl 1 rfl) ?_
    refine lv_aload_n hx hb dX4_has_5 rfl (lv_at hl 0 rfl) ?_
    refine g_get X hW eX4_has_28 0 rfl rfl dX4_has_6 ?_
    refine lv_icmp_ge (tgt := 16) hx hb dX4_has_9 (by decide) (fun c8 => ?_) (fun c8 => ?_)
    · have h := (if_pos c8).symm.trans h
      refine lv_iconst hx hb dX4_has_16 qI_0 ?_
      obtain rfl := Option.some.inj h
      exact g_zret X hW rfl dX4_has_17
    · have h := (if_neg c8).symm.trans h
      refine lv_iconst hx hb dX4_has_12 qI_1 ?_
      refine lv_goto (tgt := 17) hx hb dX4_has_13 (by decide) ?_
      obtain rfl := Option.some.inj h
      exact g_zret X hW rfl dX4_has_17
theorem kcX4_has {l : Launch} (G : Gt) (a_tb a_tb_a : Nat) (v1 : Int32) (tb_c : Int32) (tb_m : Int32) (tb_r : Int32) {r : Int32}  (h : fX4_has v1 tb_r = some r) : CtI G l yX4_has wsX4_has rmX4_has [.ref a_tb, .int v1] (wX4_has G a_tb a_tb_a tb_c tb_m tb_r) r (wX4_has G a_tb a_tb_a tb_c tb_m tb_r) := k0X4_has G a_tb a_tb_a v1 tb_c tb_m tb_r h
end MX4_has
/-! EmptyBoxes$Table.isFull -/
section MX4_isFull
theorem hdX4_isFull : yX4_isFull.cls = RX4 ∧ yX4_isFull.cls ≠ "java/lang/invoke/MethodHandle" ∧ yX4_isFull.cls ≠ "java/lang/invoke/VarHandle" ∧ (parseMethodDescriptor yX4_isFull.desc).map (fun d => d.parameters.length) = some 0 := by decide +kernel
abbrev wX4_isFull (G : Gt) (a_tb a_tb_a : Nat) (tb_c : Int32) (tb_m : Int32) (tb_r : Int32) : va_W := [(a_tb, .inr (4, [.ref a_tb_a, .int tb_c, .int tb_m, .int tb_r]))]
abbrev rmX4_isFull : Room := { frames := 0, cells := 0, slots := 0, locals := 0 }
theorem iX4_isFull_X4 : ∀ w ∈ wsX40, w ∈ wsX4_isFull := by decide +kernel
theorem eX4_isFull_15 : Fk wsX4_isFull RX4 15 4 2 := ⟨RX4, TX4, 4, rfl, iX4_isFull_X4, by decide, by decide +kernel⟩
theorem eX4_isFull_28 : Fk wsX4_isFull RX4 28 4 3 := ⟨RX4, TX4, 4, rfl, iX4_isFull_X4, by decide, by decide +kernel⟩
variable {p : Program} {l : Launch} {e : Env} {s : State} {m : MethodId} {args : Array Value} {below : List Frame} {meth : Method} {c : Code} {A : Nat → Prop} {G : Gt} {a_tb a_tb_a : Nat} {tb_c : Int32} {tb_m : Int32} {tb_r : Int32} {res : Int32}
set_option maxHeartbeats 4000000 in
set_option maxRecDepth 100000 in
theorem k0X4_isFull {l : Launch} (G : Gt) (a_tb a_tb_a : Nat)  (tb_c : Int32) (tb_m : Int32) (tb_r : Int32) {res : Int32} (h : fX4_isFull tb_m tb_r = some res) : CtI G l yX4_isFull wsX4_isFull rmX4_isFull [.ref a_tb] (wX4_isFull G a_tb a_tb_a tb_c tb_m tb_r) res (wX4_isFull G a_tb a_tb_a tb_c tb_m tb_r) := by
  refine CtI.mk (cc := cX4_isFull) (maxL := 1) (ret := (some .boolean)) (own := RX4) (by decide) rfl rfl (Nat.le_of_ble_eq_true rfl) ?_
  intro p e s m below meth c A X ls hl hW
  obtain ⟨hx, hb, -⟩ := id X.1
  have hl : lv_has ls 1 [(0, .ref a_tb)] := hl
  generalize hH : s.heap = H at hW ⊢
  generalize hLo : ([] : List Loc) = locs at hW ⊢
  rw [fX4_isFull] at h
  refine lv_aload_n hx hb dX4_isFull_0 rfl (lv_at hl 0 rfl) ?_
  refine g_get X hW eX4_isFull_28 0 rfl rfl dX4_isFull_1 ?_
  refine lv_aload_n hx hb dX4_isFull_4 rfl (lv_at hl 0 rfl) ?_
  refine g_get X hW eX4_isFull_15 0 rfl rfl dX4_isFull_5 ?_
  refine lv_icmp_lt (tgt := 15) hx hb dX4_isFull_8 (by decide) (fun c5 => ?_) (fun c5 => ?_)
  · have h := (if_pos c5).symm.trans h
    refine lv_iconst hx hb dX4_isFull_15 qI_0 ?_
    obtain rfl := Option.some.inj h
    exact g_zret X hW rfl dX4_isFull_16
  · have h := (if_neg c5).symm.trans h
    refine lv_iconst hx hb dX4_isFull_11 qI_1 ?_
    refine lv_goto (tgt := 16) hx hb dX4_isFull_12 (by decide) ?_
    obtain rfl := Option.some.inj h
    exact g_zret X hW rfl dX4_isFull_16
theorem kcX4_isFull {l : Launch} (G : Gt) (a_tb a_tb_a : Nat)  (tb_c : Int32) (tb_m : Int32) (tb_r : Int32) {r : Int32}  (h : fX4_isFull tb_m tb_r = some r) : CtI G l yX4_isFull wsX4_isFull rmX4_isFull [.ref a_tb] (wX4_isFull G a_tb a_tb_a tb_c tb_m tb_r) r (wX4_isFull G a_tb a_tb_a tb_c tb_m tb_r) := k0X4_isFull G a_tb a_tb_a tb_c tb_m tb_r h
end MX4_isFull
/-! EmptyBoxes$Table.put -/
section MX4_put
theorem hdX4_put : yX4_put.cls = RX4 ∧ yX4_put.cls ≠ "java/lang/invoke/MethodHandle" ∧ yX4_put.cls ≠ "java/lang/invoke/VarHandle" ∧ (parseMethodDescriptor yX4_put.desc).map (fun d => d.parameters.length) = some 3 := by decide +kernel
abbrev wX4_put (G : Gt) (a_tb a_tb_a : Nat) (tb_c : Int32) (tb_m : Int32) (tb_r : Int32) (tb_n : Nat) (tb_f : (Nat → Int32)) : va_W := [(a_tb, .inr (4, [.ref a_tb_a, .int tb_c, .int tb_m, .int tb_r])), (a_tb_a, .inl (G.2.1, tb_n, .inl tb_f))]
abbrev rmX4_put : Room := { frames := 1, cells := 0, slots := 0, locals := 22 }
theorem iX4_put_X4 : ∀ w ∈ wsX40, w ∈ wsX4_put := by decide +kernel
theorem eX4_put_21 : Fk wsX4_put RX4 21 4 1 := ⟨RX4, TX4, 4, rfl, iX4_put_X4, by decide, by decide +kernel⟩
theorem eX4_put_24 : Fk wsX4_put RX4 24 4 0 := ⟨RX4, TX4, 4, rfl, iX4_put_X4, by decide, by decide +kernel⟩
theorem ckX4_put_X4_holds_31 : CkV wsX4_put RX4 31 yX4_holds wsX4_holds cX4_holds 3 (some .boolean) 2 4 := ⟨RX4, TX4, 4, _, rfl, gX4_put_X4_holds, rfl, hdX4_holds⟩
variable {p : Program} {l : Launch} {e : Env} {s : State} {m : MethodId} {args : Array Value} {below : List Frame} {meth : Method} {c : Code} {A : Nat → Prop} {G : Gt} {a_tb a_tb_a : Nat} {tb_c : Int32} {tb_m : Int32} {tb_r : Int32} {tb_n : Nat} {res : (Nat → Int32)}
set_option maxHeartbeats 4000000 in
set_option maxRecDepth 100000 in
theorem k0X4_put {l : Launch} (G : Gt) (a_tb a_tb_a : Nat) (v1 : Int32) (v2 : Int32) (v3 : Int32) (tb_c : Int32) (tb_m : Int32) (tb_r : Int32) (tb_n : Nat) (tb_f : (Nat → Int32)) {res : (Nat → Int32)} (h : fX4_put v1 v2 v3 tb_c tb_r tb_n tb_f = some res) : CtV G l yX4_put wsX4_put rmX4_put [.ref a_tb, .int v1, .int v2, .int v3] (wX4_put G a_tb a_tb_a tb_c tb_m tb_r tb_n tb_f) (wX4_put G a_tb a_tb_a tb_c tb_m tb_r tb_n res) := by
  refine CtV.mk (cc := cX4_put) (maxL := 4) (ret := none) (own := RX4) (by decide) rfl rfl (Nat.le_of_ble_eq_true rfl) ?_
  intro p e s m below meth c A X ls hl hW
  obtain ⟨hx, hb, -⟩ := id X.1
  have hl : lv_has ls 4 [(0, .ref a_tb), (1, .int v1), (2, .int v2), (3, .int v3)] := hl
  generalize hH : s.heap = H at hW ⊢
  generalize hLo : ([] : List Loc) = locs at hW ⊢
  rw [fX4_put] at h
  refine lv_aload_n hx hb dX4_put_0 rfl (lv_at hl 0 rfl) ?_
  refine lv_iload_n hx hb dX4_put_1 rfl (lv_at hl 1 rfl) ?_
  refine lv_iload_n hx hb dX4_put_2 rfl (lv_at hl 2 rfl) ?_
  obtain ⟨r4, hq, h⟩ := bn1_some h
  refine g_cvi X hW (As := [.int v1, .int v2]) (ws' := (wX4_put G a_tb a_tb_a tb_c tb_m tb_r tb_n tb_f)) ckX4_put_X4_holds_31 (kcX4_holds (l := l) G a_tb a_tb_a v1 v2 tb_c tb_m tb_r hq) ⟨rfl, rfl, Nat.le_of_ble_eq_true rfl, Nat.le_of_ble_eq_true rfl⟩ [0] rfl rfl rfl rfl rfl rfl rfl hl.1 (Nat.le_of_ble_eq_true rfl) ⟨Nat.zero_le _, Nat.zero_le _⟩ dX4_put_3 (fun H locs hW => ?_)
  refine lv_if_eq (tgt := 23) hx hb dX4_put_6 (by decide) (fun c5 => ?_) (fun c5 => ?_)
  · have h := (if_pos c5).symm.trans h
    obtain rfl := Option.some.inj h
    exact g_vret X hW dX4_put_23
  · have h := (if_neg c5).symm.trans h
    refine lv_aload_n hx hb dX4_put_9 rfl (lv_at hl 0 rfl) ?_
    refine g_get X hW eX4_put_24 0 rfl rfl dX4_put_10 ?_
    refine lv_iload_n hx hb dX4_put_13 rfl (lv_at hl 1 rfl) ?_
    refine lv_aload_n hx hb dX4_put_14 rfl (lv_at hl 0 rfl) ?_
    refine g_get X hW eX4_put_21 0 rfl rfl dX4_put_15 ?_
    refine lv_imul hx hb dX4_put_18 ?_
    refine lv_iload_n hx hb dX4_put_19 rfl (lv_at hl 2 rfl) ?_
    refine lv_iadd hx hb dX4_put_20 ?_
    refine lv_iload_n hx hb dX4_put_21 rfl (lv_at hl 3 rfl) ?_
    obtain ⟨g16, h⟩ := gd_some h
    refine g_ast X hW (ws' := (wX4_put G a_tb a_tb_a tb_c tb_m tb_r tb_n (upd tb_f ((v1 * tb_c) + v2).toNatClampNeg v3))) 1 rfl g16 rfl dX4_put_22 (fun H locs hW => ?_)
    obtain rfl := Option.some.inj h
    exact g_vret X hW dX4_put_23
theorem kcX4_put {l : Launch} (G : Gt) (a_tb a_tb_a : Nat) (v1 : Int32) (v2 : Int32) (v3 : Int32) (tb_c : Int32) (tb_m : Int32) (tb_r : Int32) (tb_n : Nat) (tb_f : (Nat → Int32))  {z_tb_f : (Nat → Int32)} (h : fX4_put v1 v2 v3 tb_c tb_r tb_n tb_f = some z_tb_f) : CtV G l yX4_put wsX4_put rmX4_put [.ref a_tb, .int v1, .int v2, .int v3] (wX4_put G a_tb a_tb_a tb_c tb_m tb_r tb_n tb_f) (wX4_put G a_tb a_tb_a tb_c tb_m tb_r tb_n z_tb_f) := k0X4_put G a_tb a_tb_a v1 v2 v3 tb_c tb_m tb_r tb_n tb_f h
end MX4_put
/-! EmptyBoxes$Table.grow -/
section MX4_grow
theorem hdX4_grow : yX4_grow.cls = RX4 ∧ yX4_grow.cls ≠ "java/lang/invoke/MethodHandle" ∧ yX4_grow.cls ≠ "java/lang/invoke/VarHandle" ∧ (parseMethodDescriptor yX4_grow.desc).map (fun d => d.parameters.length) = some 0 := by decide +kernel
abbrev wX4_grow (G : Gt) (a_tb a_tb_a : Nat) (tb_c : Int32) (tb_m : Int32) (tb_r : Int32) : va_W := [(a_tb, .inr (4, [.ref a_tb_a, .int tb_c, .int tb_m, .int tb_r]))]
abbrev rmX4_grow : Room := { frames := 1, cells := 0, slots := 0, locals := 20 }
theorem iX4_grow_X4 : ∀ w ∈ wsX40, w ∈ wsX4_grow := by decide +kernel
theorem eX4_grow_28 : Fk wsX4_grow RX4 28 4 3 := ⟨RX4, TX4, 4, rfl, iX4_grow_X4, by decide, by decide +kernel⟩
theorem pX4_grow_28 : Fp wsX4_grow RX4 28 4 3 .int := ⟨RX4, TX4, 4, tyX4, rfl, iX4_grow_X4, by decide, by decide +kernel, tyX4_ok, nmX4, rfl, by decide +kernel⟩
theorem ckX4_grow_X4_isFull_35 : CkV wsX4_grow RX4 35 yX4_isFull wsX4_isFull cX4_isFull 1 (some .boolean) 0 4 := ⟨RX4, TX4, 4, _, rfl, gX4_grow_X4_isFull, rfl, hdX4_isFull⟩
variable {p : Program} {l : Launch} {e : Env} {s : State} {m : MethodId} {args : Array Value} {below : List Frame} {meth : Method} {c : Code} {A : Nat → Prop} {G : Gt} {a_tb a_tb_a : Nat} {tb_c : Int32} {tb_m : Int32} {res : Int32 × Int32}
set_option maxHeartbeats 4000000 in
set_option maxRecDepth 100000 in
theorem k0X4_grow {l : Launch} (G : Gt) (a_tb a_tb_a : Nat)  (tb_c : Int32) (tb_m : Int32) (tb_r : Int32) {res : Int32 × Int32} (h : fX4_grow tb_m tb_r = some res) : CtI G l yX4_grow wsX4_grow rmX4_grow [.ref a_tb] (wX4_grow G a_tb a_tb_a tb_c tb_m tb_r) res.1 (wX4_grow G a_tb a_tb_a tb_c tb_m res.2) := by
  refine CtI.mk (cc := cX4_grow) (maxL := 1) (ret := (some .int)) (own := RX4) (by decide) rfl rfl (Nat.le_of_ble_eq_true rfl) ?_
  intro p e s m below meth c A X ls hl hW
  obtain ⟨hx, hb, -⟩ := id X.1
  have hl : lv_has ls 1 [(0, .ref a_tb)] := hl
  generalize hH : s.heap = H at hW ⊢
  generalize hLo : ([] : List Loc) = locs at hW ⊢
  rw [fX4_grow] at h
  refine lv_aload_n hx hb dX4_grow_0 rfl (lv_at hl 0 rfl) ?_
  obtain ⟨r2, hq, h⟩ := bn1_some h
  refine g_cvi X hW (As := []) (ws' := (wX4_grow G a_tb a_tb_a tb_c tb_m tb_r)) ckX4_grow_X4_isFull_35 (kcX4_isFull (l := l) G a_tb a_tb_a tb_c tb_m tb_r hq) ⟨rfl, rfl, Nat.le_of_ble_eq_true rfl, Nat.le_of_ble_eq_true rfl⟩ [0] rfl rfl rfl rfl rfl rfl rfl hl.1 (Nat.le_of_ble_eq_true rfl) ⟨Nat.zero_le _, Nat.zero_le _⟩ dX4_grow_1 (fun H locs hW => ?_)
  refine lv_if_eq (tgt := 10) hx hb dX4_grow_4 (by decide) (fun c3 => ?_) (fun c3 => ?_)
  · have h := (if_pos c3).symm.trans h
    refine lv_aload_n hx hb dX4_grow_10 rfl (lv_at hl 0 rfl) ?_
    refine lv_dup hx hb dX4_grow_11 rfl ?_
    refine g_get X hW eX4_grow_28 0 rfl rfl dX4_grow_12 ?_
    refine lv_iconst hx hb dX4_grow_15 qI_1 ?_
    refine lv_iadd hx hb dX4_grow_16 ?_
    refine g_put X hW (ws' := (wX4_grow G a_tb a_tb_a tb_c tb_m (tb_r + (1 : Int32)))) pX4_grow_28 0 rfl (Nat.le_of_ble_eq_true rfl) rfl rfl rfl dX4_grow_17 (fun H locs hW => ?_)
    refine lv_aload_n hx hb dX4_grow_20 rfl (lv_at hl 0 rfl) ?_
    refine g_get X hW eX4_grow_28 0 rfl rfl dX4_grow_21 ?_
    refine lv_iconst hx hb dX4_grow_24 qI_1 ?_
    refine lv_isub hx hb dX4_grow_25 ?_
    obtain rfl := Option.some.inj h
    exact g_iret X hW dX4_grow_26
  · have h := (if_neg c3).symm.trans h
    refine lv_bipush hx hb dX4_grow_7 qB_m3 ?_
    obtain rfl := Option.some.inj h
    exact g_iret X hW dX4_grow_9
theorem kcX4_grow {l : Launch} (G : Gt) (a_tb a_tb_a : Nat)  (tb_c : Int32) (tb_m : Int32) (tb_r : Int32) {r : Int32} {z_tb_r : Int32} (h : fX4_grow tb_m tb_r = some (r, z_tb_r)) : CtI G l yX4_grow wsX4_grow rmX4_grow [.ref a_tb] (wX4_grow G a_tb a_tb_a tb_c tb_m tb_r) r (wX4_grow G a_tb a_tb_a tb_c tb_m z_tb_r) := k0X4_grow G a_tb a_tb_a tb_c tb_m tb_r h
end MX4_grow
/-! EmptyBoxes$Table.growToMost -/
section MX4_growToMost
theorem hdX4_growToMost : yX4_growToMost.cls = RX4 ∧ yX4_growToMost.cls ≠ "java/lang/invoke/MethodHandle" ∧ yX4_growToMost.cls ≠ "java/lang/invoke/VarHandle" ∧ (parseMethodDescriptor yX4_growToMost.desc).map (fun d => d.parameters.length) = some 0 := by decide +kernel
abbrev wX4_growToMost (G : Gt) (a_tb a_tb_a : Nat) (tb_c : Int32) (tb_m : Int32) (tb_r : Int32) : va_W := [(a_tb, .inr (4, [.ref a_tb_a, .int tb_c, .int tb_m, .int tb_r]))]
abbrev rmX4_growToMost : Room := { frames := 0, cells := 0, slots := 0, locals := 0 }
theorem iX4_growToMost_X4 : ∀ w ∈ wsX40, w ∈ wsX4_growToMost := by decide +kernel
theorem eX4_growToMost_15 : Fk wsX4_growToMost RX4 15 4 2 := ⟨RX4, TX4, 4, rfl, iX4_growToMost_X4, by decide, by decide +kernel⟩
theorem pX4_growToMost_28 : Fp wsX4_growToMost RX4 28 4 3 .int := ⟨RX4, TX4, 4, tyX4, rfl, iX4_growToMost_X4, by decide, by decide +kernel, tyX4_ok, nmX4, rfl, by decide +kernel⟩
variable {p : Program} {l : Launch} {e : Env} {s : State} {m : MethodId} {args : Array Value} {below : List Frame} {meth : Method} {c : Code} {A : Nat → Prop} {G : Gt} {a_tb a_tb_a : Nat} {tb_c : Int32} {tb_m : Int32} {res : Int32}
set_option maxHeartbeats 4000000 in
set_option maxRecDepth 100000 in
theorem k0X4_growToMost {l : Launch} (G : Gt) (a_tb a_tb_a : Nat)  (tb_c : Int32) (tb_m : Int32) (tb_r : Int32) {res : Int32} (h : fX4_growToMost tb_m tb_r = some res) : CtV G l yX4_growToMost wsX4_growToMost rmX4_growToMost [.ref a_tb] (wX4_growToMost G a_tb a_tb_a tb_c tb_m tb_r) (wX4_growToMost G a_tb a_tb_a tb_c tb_m res) := by
  refine CtV.mk (cc := cX4_growToMost) (maxL := 1) (ret := none) (own := RX4) (by decide) rfl rfl (Nat.le_of_ble_eq_true rfl) ?_
  intro p e s m below meth c A X ls hl hW
  obtain ⟨hx, hb, -⟩ := id X.1
  have hl : lv_has ls 1 [(0, .ref a_tb)] := hl
  generalize hH : s.heap = H at hW ⊢
  generalize hLo : ([] : List Loc) = locs at hW ⊢
  rw [fX4_growToMost] at h
  refine lv_aload_n hx hb dX4_growToMost_0 rfl (lv_at hl 0 rfl) ?_
  refine lv_aload_n hx hb dX4_growToMost_1 rfl (lv_at hl 0 rfl) ?_
  refine g_get X hW eX4_growToMost_15 0 rfl rfl dX4_growToMost_2 ?_
  refine g_put X hW (ws' := (wX4_growToMost G a_tb a_tb_a tb_c tb_m tb_m)) pX4_growToMost_28 0 rfl (Nat.le_of_ble_eq_true rfl) rfl rfl rfl dX4_growToMost_5 (fun H locs hW => ?_)
  obtain rfl := Option.some.inj h
  exact g_vret X hW dX4_growToMost_8
theorem kcX4_growToMost {l : Launch} (G : Gt) (a_tb a_tb_a : Nat)  (tb_c : Int32) (tb_m : Int32) (tb_r : Int32)  {z_tb_r : Int32} (h : fX4_growToMost tb_m tb_r = some z_tb_r) : CtV G l yX4_growToMost wsX4_growToMost rmX4_growToMost [.ref a_tb] (wX4_growToMost G a_tb a_tb_a tb_c tb_m tb_r) (wX4_growToMost G a_tb a_tb_a tb_c tb_m z_tb_r) := k0X4_growToMost G a_tb a_tb_a tb_c tb_m tb_r h
end MX4_growToMost
/-! EmptyBoxes$Table.empty -/
section MX4_empty
theorem hdX4_empty : yX4_empty.cls = RX4 ∧ yX4_empty.cls ≠ "java/lang/invoke/MethodHandle" ∧ yX4_empty.cls ≠ "java/lang/invoke/VarHandle" ∧ (parseMethodDescriptor yX4_empty.desc).map (fun d => d.parameters.length) = some 0 := by decide +kernel
abbrev wX4_empty (G : Gt) (a_tb a_tb_a : Nat) (tb_c : Int32) (tb_m : Int32) (tb_r : Int32) : va_W := [(a_tb, .inr (4, [.ref a_tb_a, .int tb_c, .int tb_m, .int tb_r]))]
abbrev rmX4_empty : Room := { frames := 0, cells := 0, slots := 0, locals := 0 }
theorem iX4_empty_X4 : ∀ w ∈ wsX40, w ∈ wsX4_empty := by decide +kernel
theorem pX4_empty_28 : Fp wsX4_empty RX4 28 4 3 .int := ⟨RX4, TX4, 4, tyX4, rfl, iX4_empty_X4, by decide, by decide +kernel, tyX4_ok, nmX4, rfl, by decide +kernel⟩
variable {p : Program} {l : Launch} {e : Env} {s : State} {m : MethodId} {args : Array Value} {below : List Frame} {meth : Method} {c : Code} {A : Nat → Prop} {G : Gt} {a_tb a_tb_a : Nat} {tb_c : Int32} {tb_m : Int32} {res : Int32}
set_option maxHeartbeats 4000000 in
set_option maxRecDepth 100000 in
theorem k0X4_empty {l : Launch} (G : Gt) (a_tb a_tb_a : Nat)  (tb_c : Int32) (tb_m : Int32) (tb_r : Int32) {res : Int32} (h : fX4_empty tb_r = some res) : CtV G l yX4_empty wsX4_empty rmX4_empty [.ref a_tb] (wX4_empty G a_tb a_tb_a tb_c tb_m tb_r) (wX4_empty G a_tb a_tb_a tb_c tb_m res) := by
  refine CtV.mk (cc := cX4_empty) (maxL := 1) (ret := none) (own := RX4) (by decide) rfl rfl (Nat.le_of_ble_eq_true rfl) ?_
  intro p e s m below meth c A X ls hl hW
  obtain ⟨hx, hb, -⟩ := id X.1
  have hl : lv_has ls 1 [(0, .ref a_tb)] := hl
  generalize hH : s.heap = H at hW ⊢
  generalize hLo : ([] : List Loc) = locs at hW ⊢
  rw [fX4_empty] at h
  refine lv_aload_n hx hb dX4_empty_0 rfl (lv_at hl 0 rfl) ?_
  refine lv_iconst hx hb dX4_empty_1 qI_0 ?_
  refine g_put X hW (ws' := (wX4_empty G a_tb a_tb_a tb_c tb_m (0 : Int32))) pX4_empty_28 0 rfl (Nat.le_of_ble_eq_true rfl) rfl rfl rfl dX4_empty_2 (fun H locs hW => ?_)
  obtain rfl := Option.some.inj h
  exact g_vret X hW dX4_empty_5
theorem kcX4_empty {l : Launch} (G : Gt) (a_tb a_tb_a : Nat)  (tb_c : Int32) (tb_m : Int32) (tb_r : Int32)  {z_tb_r : Int32} (h : fX4_empty tb_r = some z_tb_r) : CtV G l yX4_empty wsX4_empty rmX4_empty [.ref a_tb] (wX4_empty G a_tb a_tb_a tb_c tb_m tb_r) (wX4_empty G a_tb a_tb_a tb_c tb_m z_tb_r) := k0X4_empty G a_tb a_tb_a tb_c tb_m tb_r h
end MX4_empty
/-! EmptyBoxes$Tape.size -/
section MX5_size
theorem hdX5_size : yX5_size.cls = RX5 ∧ yX5_size.cls ≠ "java/lang/invoke/MethodHandle" ∧ yX5_size.cls ≠ "java/lang/invoke/VarHandle" ∧ (parseMethodDescriptor yX5_size.desc).map (fun d => d.parameters.length) = some 0 := by decide +kernel
abbrev wX5_size (G : Gt) (a_tape a_tape_a : Nat) (tp_many : Int32) (tp_first : Int32) (tp_behind : Int32) : va_W := [(a_tape, .inr (5, [.ref a_tape_a, .int tp_many, .int tp_first, .int tp_behind]))]
abbrev rmX5_size : Room := { frames := 0, cells := 0, slots := 0, locals := 0 }
theorem iX5_size_X5 : ∀ w ∈ wsX50, w ∈ wsX5_size := by decide +kernel
theorem eX5_size_15 : Fk wsX5_size RX5 15 5 1 := ⟨RX5, TX5, 4, rfl, iX5_size_X5, by decide, by decide +kernel⟩
variable {p : Program} {l : Launch} {e : Env} {s : State} {m : MethodId} {args : Array Value} {below : List Frame} {meth : Method} {c : Code} {A : Nat → Prop} {G : Gt} {a_tape a_tape_a : Nat} {tp_many : Int32} {tp_first : Int32} {tp_behind : Int32} {res : Int32}
set_option maxHeartbeats 4000000 in
set_option maxRecDepth 100000 in
theorem k0X5_size {l : Launch} (G : Gt) (a_tape a_tape_a : Nat)  (tp_many : Int32) (tp_first : Int32) (tp_behind : Int32) {res : Int32} (h : fX5_size tp_many = some res) : CtI G l yX5_size wsX5_size rmX5_size [.ref a_tape] (wX5_size G a_tape a_tape_a tp_many tp_first tp_behind) res (wX5_size G a_tape a_tape_a tp_many tp_first tp_behind) := by
  refine CtI.mk (cc := cX5_size) (maxL := 1) (ret := (some .int)) (own := RX5) (by decide) rfl rfl (Nat.le_of_ble_eq_true rfl) ?_
  intro p e s m below meth c A X ls hl hW
  obtain ⟨hx, hb, -⟩ := id X.1
  have hl : lv_has ls 1 [(0, .ref a_tape)] := hl
  generalize hH : s.heap = H at hW ⊢
  generalize hLo : ([] : List Loc) = locs at hW ⊢
  rw [fX5_size] at h
  refine lv_aload_n hx hb dX5_size_0 rfl (lv_at hl 0 rfl) ?_
  refine g_get X hW eX5_size_15 0 rfl rfl dX5_size_1 ?_
  obtain rfl := Option.some.inj h
  exact g_iret X hW dX5_size_4
theorem kcX5_size {l : Launch} (G : Gt) (a_tape a_tape_a : Nat)  (tp_many : Int32) (tp_first : Int32) (tp_behind : Int32) {r : Int32}  (h : fX5_size tp_many = some r) : CtI G l yX5_size wsX5_size rmX5_size [.ref a_tape] (wX5_size G a_tape a_tape_a tp_many tp_first tp_behind) r (wX5_size G a_tape a_tape_a tp_many tp_first tp_behind) := k0X5_size G a_tape a_tape_a tp_many tp_first tp_behind h
end MX5_size
/-! EmptyBoxes$Tape.takeByte -/
section MX5_takeByte
theorem hdX5_takeByte : yX5_takeByte.cls = RX5 ∧ yX5_takeByte.cls ≠ "java/lang/invoke/MethodHandle" ∧ yX5_takeByte.cls ≠ "java/lang/invoke/VarHandle" ∧ (parseMethodDescriptor yX5_takeByte.desc).map (fun d => d.parameters.length) = some 1 := by decide +kernel
abbrev wX5_takeByte (G : Gt) (a_tape a_tape_a : Nat) (tp_many : Int32) (tp_first : Int32) (tp_behind : Int32) (tp_f : (Nat → Int32)) : va_W := [(a_tape, .inr (5, [.ref a_tape_a, .int tp_many, .int tp_first, .int tp_behind])), (a_tape_a, .inl (G.2.1, 120, .inl tp_f))]
abbrev rmX5_takeByte : Room := { frames := 0, cells := 0, slots := 0, locals := 0 }
theorem iX5_takeByte_X5 : ∀ w ∈ wsX50, w ∈ wsX5_takeByte := by decide +kernel
theorem eX5_takeByte_15 : Fk wsX5_takeByte RX5 15 5 1 := ⟨RX5, TX5, 4, rfl, iX5_takeByte_X5, by decide, by decide +kernel⟩
theorem eX5_takeByte_9 : Fk wsX5_takeByte RX5 9 5 0 := ⟨RX5, TX5, 4, rfl, iX5_takeByte_X5, by decide, by decide +kernel⟩
theorem pX5_takeByte_15 : Fp wsX5_takeByte RX5 15 5 1 .int := ⟨RX5, TX5, 4, tyX5, rfl, iX5_takeByte_X5, by decide, by decide +kernel, tyX5_ok, nmX5, rfl, by decide +kernel⟩
variable {p : Program} {l : Launch} {e : Env} {s : State} {m : MethodId} {args : Array Value} {below : List Frame} {meth : Method} {c : Code} {A : Nat → Prop} {G : Gt} {a_tape a_tape_a : Nat} {tp_first : Int32} {tp_behind : Int32} {res : Int32 × (Nat → Int32)}
set_option maxHeartbeats 4000000 in
set_option maxRecDepth 100000 in
theorem k0X5_takeByte {l : Launch} (G : Gt) (a_tape a_tape_a : Nat) (v1 : Int32) (tp_many : Int32) (tp_first : Int32) (tp_behind : Int32) (tp_f : (Nat → Int32)) {res : Int32 × (Nat → Int32)} (h : fX5_takeByte v1 tp_many tp_f = some res) : CtV G l yX5_takeByte wsX5_takeByte rmX5_takeByte [.ref a_tape, .int v1] (wX5_takeByte G a_tape a_tape_a tp_many tp_first tp_behind tp_f) (wX5_takeByte G a_tape a_tape_a res.1 tp_first tp_behind res.2) := by
  refine CtV.mk (cc := cX5_takeByte) (maxL := 2) (ret := none) (own := RX5) (by decide) rfl rfl (Nat.le_of_ble_eq_true rfl) ?_
  intro p e s m below meth c A X ls hl hW
  obtain ⟨hx, hb, -⟩ := id X.1
  have hl : lv_has ls 2 [(0, .ref a_tape), (1, .int v1)] := hl
  generalize hH : s.heap = H at hW ⊢
  generalize hLo : ([] : List Loc) = locs at hW ⊢
  rw [fX5_takeByte] at h
  refine lv_aload_n hx hb dX5_takeByte_0 rfl (lv_at hl 0 rfl) ?_
  refine g_get X hW eX5_takeByte_15 0 rfl rfl dX5_takeByte_1 ?_
  refine lv_bipush hx hb dX5_takeByte_4 qB_120 ?_
  refine lv_icmp_ge (tgt := 29) hx hb dX5_takeByte_6 (by decide) (fun c4 => ?_) (fun c4 => ?_)
  · have h := (if_pos c4).symm.trans h
    obtain rfl := Option.some.inj h
    exact g_vret X hW dX5_takeByte_29
  · have h := (if_neg c4).symm.trans h
    refine lv_aload_n hx hb dX5_takeByte_9 rfl (lv_at hl 0 rfl) ?_
    refine g_get X hW eX5_takeByte_9 0 rfl rfl dX5_takeByte_10 ?_
    refine lv_aload_n hx hb dX5_takeByte_13 rfl (lv_at hl 0 rfl) ?_
    refine g_get X hW eX5_takeByte_15 0 rfl rfl dX5_takeByte_14 ?_
    refine lv_iload_n hx hb dX5_takeByte_17 rfl (lv_at hl 1 rfl) ?_
    obtain ⟨g11, h⟩ := gd_some h
    refine g_ast X hW (ws' := (wX5_takeByte G a_tape a_tape_a tp_many tp_first tp_behind (upd tp_f tp_many.toNatClampNeg v1))) 1 rfl g11 rfl dX5_takeByte_18 (fun H locs hW => ?_)
    refine lv_aload_n hx hb dX5_takeByte_19 rfl (lv_at hl 0 rfl) ?_
    refine lv_dup hx hb dX5_takeByte_20 rfl ?_
    refine g_get X hW eX5_takeByte_15 0 rfl rfl dX5_takeByte_21 ?_
    refine lv_iconst hx hb dX5_takeByte_24 qI_1 ?_
    refine lv_iadd hx hb dX5_takeByte_25 ?_
    refine g_put X hW (ws' := (wX5_takeByte G a_tape a_tape_a (tp_many + (1 : Int32)) tp_first tp_behind (upd tp_f tp_many.toNatClampNeg v1))) pX5_takeByte_15 0 rfl (Nat.le_of_ble_eq_true rfl) rfl rfl rfl dX5_takeByte_26 (fun H locs hW => ?_)
    obtain rfl := Option.some.inj h
    exact g_vret X hW dX5_takeByte_29
theorem kcX5_takeByte {l : Launch} (G : Gt) (a_tape a_tape_a : Nat) (v1 : Int32) (tp_many : Int32) (tp_first : Int32) (tp_behind : Int32) (tp_f : (Nat → Int32))  {z_tp_many : Int32} {z_tp_f : (Nat → Int32)} (h : fX5_takeByte v1 tp_many tp_f = some (z_tp_many, z_tp_f)) : CtV G l yX5_takeByte wsX5_takeByte rmX5_takeByte [.ref a_tape, .int v1] (wX5_takeByte G a_tape a_tape_a tp_many tp_first tp_behind tp_f) (wX5_takeByte G a_tape a_tape_a z_tp_many tp_first tp_behind z_tp_f) := k0X5_takeByte G a_tape a_tape_a v1 tp_many tp_first tp_behind tp_f h
end MX5_takeByte
/-! EmptyBoxes$Tape.empty -/
section MX5_empty
theorem hdX5_empty : yX5_empty.cls = RX5 ∧ yX5_empty.cls ≠ "java/lang/invoke/MethodHandle" ∧ yX5_empty.cls ≠ "java/lang/invoke/VarHandle" ∧ (parseMethodDescriptor yX5_empty.desc).map (fun d => d.parameters.length) = some 0 := by decide +kernel
abbrev wX5_empty (G : Gt) (a_tape a_tape_a : Nat) (tp_many : Int32) (tp_first : Int32) (tp_behind : Int32) : va_W := [(a_tape, .inr (5, [.ref a_tape_a, .int tp_many, .int tp_first, .int tp_behind]))]
abbrev rmX5_empty : Room := { frames := 0, cells := 0, slots := 0, locals := 0 }
theorem iX5_empty_X5 : ∀ w ∈ wsX50, w ∈ wsX5_empty := by decide +kernel
theorem pX5_empty_15 : Fp wsX5_empty RX5 15 5 1 .int := ⟨RX5, TX5, 4, tyX5, rfl, iX5_empty_X5, by decide, by decide +kernel, tyX5_ok, nmX5, rfl, by decide +kernel⟩
variable {p : Program} {l : Launch} {e : Env} {s : State} {m : MethodId} {args : Array Value} {below : List Frame} {meth : Method} {c : Code} {A : Nat → Prop} {G : Gt} {a_tape a_tape_a : Nat} {tp_first : Int32} {tp_behind : Int32} {res : Int32}
set_option maxHeartbeats 4000000 in
set_option maxRecDepth 100000 in
theorem k0X5_empty {l : Launch} (G : Gt) (a_tape a_tape_a : Nat)  (tp_many : Int32) (tp_first : Int32) (tp_behind : Int32) {res : Int32} (h : fX5_empty tp_many = some res) : CtV G l yX5_empty wsX5_empty rmX5_empty [.ref a_tape] (wX5_empty G a_tape a_tape_a tp_many tp_first tp_behind) (wX5_empty G a_tape a_tape_a res tp_first tp_behind) := by
  refine CtV.mk (cc := cX5_empty) (maxL := 1) (ret := none) (own := RX5) (by decide) rfl rfl (Nat.le_of_ble_eq_true rfl) ?_
  intro p e s m below meth c A X ls hl hW
  obtain ⟨hx, hb, -⟩ := id X.1
  have hl : lv_has ls 1 [(0, .ref a_tape)] := hl
  generalize hH : s.heap = H at hW ⊢
  generalize hLo : ([] : List Loc) = locs at hW ⊢
  rw [fX5_empty] at h
  refine lv_aload_n hx hb dX5_empty_0 rfl (lv_at hl 0 rfl) ?_
  refine lv_iconst hx hb dX5_empty_1 qI_0 ?_
  refine g_put X hW (ws' := (wX5_empty G a_tape a_tape_a (0 : Int32) tp_first tp_behind)) pX5_empty_15 0 rfl (Nat.le_of_ble_eq_true rfl) rfl rfl rfl dX5_empty_2 (fun H locs hW => ?_)
  obtain rfl := Option.some.inj h
  exact g_vret X hW dX5_empty_5
theorem kcX5_empty {l : Launch} (G : Gt) (a_tape a_tape_a : Nat)  (tp_many : Int32) (tp_first : Int32) (tp_behind : Int32)  {z_tp_many : Int32} (h : fX5_empty tp_many = some z_tp_many) : CtV G l yX5_empty wsX5_empty rmX5_empty [.ref a_tape] (wX5_empty G a_tape a_tape_a tp_many tp_first tp_behind) (wX5_empty G a_tape a_tape_a z_tp_many tp_first tp_behind) := k0X5_empty G a_tape a_tape_a tp_many tp_first tp_behind h
end MX5_empty
