set_option maxHeartbeats 16000000 in
set_option maxRecDepth 100000 in
theorem law_days {p : Program} {l : Launch} {e : Env} {s : State} {m : MethodId} {args : Array Value} {below : List Frame} {meth : Method} {c : Code} {G : Gt} {a : Nat → Nat} {b L : Nat} {xs : Nat → Int32} {Q : State → Prop} (X : Bx p s m args meth c code 4 lw_tbl RL ret) (hX : va_X b L xs s s.heap) (hbl : b < s.heap.size) (Inv : (Nat → Int32) → (Nat → Nat → Int32) → (Nat → Int32) → (Nat → Nat → Int32) → Prop) (hop : Op_days Inv) (E : Nat → Int32) (F : Nat → Nat → Int32) (M : Nat → Int32) (N : Nat → Nat → Int32) (hI : Inv E F M N) (x3 : Int32) (h_1 : vp_in (x3 + (1 : Int32)) L) (h_2 : vp_in (x3 + (2 : Int32)) L) (h_3 : vp_in (x3 + (3 : Int32)) L) (h_4 : vp_in (x3 + (4 : Int32)) L) (h_5 : vp_in (x3 + (5 : Int32)) L) (h_6 : vp_in (x3 + (6 : Int32)) L) (H : Heap) (locs : List Loc) (hW : Wo G (fun q : Nat => s.heap.size ≤ q) s (lawW G a E F M N) H locs) (ls : Array Slot) (hl : lv_has ls 4 [(0, .ref b), (1, .ref (a 0)), (2, .ref (a 56)), (3, .int x3)]) (Hk : ∀ (E : Nat → Int32) (F : Nat → Nat → Int32) (M : Nat → Int32) (N : Nat → Nat → Int32), Inv E F M N → ∀ (H : Heap) (locs : List Loc), Wo G (fun q : Nat => s.heap.size ≤ q) s (lawW G a E F M N) H locs → W p l e room_1 s m args below meth c H locs 600000 7302250 Q (F0 m 1333 ls [])) : W p l e room_1 s m args below meth c H locs 600000 7302250 Q (F0 m 180 ls []) := by
  obtain ⟨hx, hb, -⟩ := id X.1
  have hbA : ¬ (fun q : Nat => s.heap.size ≤ q) b := Nat.not_le.mpr hbl
  refine lv_aload_n hx hb dL_law_180 rfl (lv_at hl 1 rfl) ?_
  refine lv_aload_n hx hb dL_law_181 rfl (lv_at hl 0 rfl) ?_
  refine lv_iload_n hx hb dL_law_182 rfl (lv_at hl 3 rfl) ?_
  refine lv_iconst (v := (1 : Int32)) hx hb dL_law_183 (by decide) ?_
  refine lv_iadd hx hb dL_law_184 ?_
  refine va_sld hx hb hX hbl hbA hW.2.2.2.1 h_1 dL_law_185 ?_
  obtain ⟨r, z_today, yz_m_numbers, hq, hq2, hI⟩ := hop E F M N (xs (x3 + (1 : Int32)).toNatClampNeg) hI
  refine g_cvi X hW (As := [.int (xs (x3 + (1 : Int32)).toNatClampNeg)]) (ws' := lawW G a (va_up E 2 z_today) F M N) ckL_X6_days (kcX6_days (l := l) G (a 0) (a 1) (a 20) (a 39) (a 41) (a 43) (a 52) (a 2) (a 4) (a 6) (a 8) (a 10) (a 12) (a 14) (a 16) (a 18) (xs (x3 + (1 : Int32)).toNatClampNeg) (E 0) (E 1) (E 2) (E 3) (E 4) (E 5) hq) ⟨rfl, rfl, Nat.le_of_ble_eq_true rfl, Nat.le_of_ble_eq_true rfl⟩ [0, 1] rfl rfl rfl rfl rfl rfl rfl hl.1 (Nat.le_of_ble_eq_true rfl) ⟨Nat.le_of_ble_eq_true rfl, Nat.le_of_ble_eq_true rfl⟩ dL_law_186 (fun H locs hW => ?_)
  refine lv_aload_n hx hb dL_law_189 rfl (lv_at hl 2 rfl) ?_
  refine lv_aload_n hx hb dL_law_190 rfl (lv_at hl 0 rfl) ?_
  refine lv_iload_n hx hb dL_law_191 rfl (lv_at hl 3 rfl) ?_
  refine lv_iconst (v := (1 : Int32)) hx hb dL_law_192 (by decide) ?_
  refine lv_iadd hx hb dL_law_193 ?_
  refine va_sld hx hb hX hbl hbA hW.2.2.2.1 h_1 dL_law_194 ?_
  refine g_cvi X hW (As := [.int (xs (x3 + (1 : Int32)).toNatClampNeg)]) (ws' := lawW G a (va_up E 2 z_today) F M (va_up N 0 yz_m_numbers)) ckL_X7_days (kcX7_days (l := l) G (a 56) (a 57) (a 58) (a 59) (a 60) (a 61) (a 62) (a 63) (a 64) (a 65) (a 66) (a 67) (a 68) (a 69) (a 70) (a 71) (a 72) (a 73) (a 74) (xs (x3 + (1 : Int32)).toNatClampNeg) (M 0) (M 1) (M 2) (M 3) (M 4) (M 5) (M 6) (M 7) (M 8) (M 9) (N 0) hq2) ⟨rfl, rfl, Nat.le_of_ble_eq_true rfl, Nat.le_of_ble_eq_true rfl⟩ [56, 57] rfl rfl rfl rfl rfl rfl rfl hl.1 (Nat.le_of_ble_eq_true rfl) ⟨Nat.le_of_ble_eq_true rfl, Nat.le_of_ble_eq_true rfl⟩ dL_law_195 (fun H locs hW => ?_)
  refine lv_icmp_eq (tgt := 1333) hx hb dL_law_198 (by decide) (fun _ => ?_) (fun c => absurd rfl c)
  exact Hk _ _ _ _ hI H locs hW
set_option maxHeartbeats 16000000 in
set_option maxRecDepth 100000 in
theorem law_box {p : Program} {l : Launch} {e : Env} {s : State} {m : MethodId} {args : Array Value} {below : List Frame} {meth : Method} {c : Code} {G : Gt} {a : Nat → Nat} {b L : Nat} {xs : Nat → Int32} {Q : State → Prop} (X : Bx p s m args meth c code 4 lw_tbl RL ret) (hX : va_X b L xs s s.heap) (hbl : b < s.heap.size) (Inv : (Nat → Int32) → (Nat → Nat → Int32) → (Nat → Int32) → (Nat → Nat → Int32) → Prop) (hop : Op_box Inv) (E : Nat → Int32) (F : Nat → Nat → Int32) (M : Nat → Int32) (N : Nat → Nat → Int32) (hI : Inv E F M N) (x3 : Int32) (h_1 : vp_in (x3 + (1 : Int32)) L) (h_2 : vp_in (x3 + (2 : Int32)) L) (h_3 : vp_in (x3 + (3 : Int32)) L) (h_4 : vp_in (x3 + (4 : Int32)) L) (h_5 : vp_in (x3 + (5 : Int32)) L) (h_6 : vp_in (x3 + (6 : Int32)) L) (H : Heap) (locs : List Loc) (hW : Wo G (fun q : Nat => s.heap.size ≤ q) s (lawW G a E F M N) H locs) (ls : Array Slot) (hl : lv_has ls 4 [(0, .ref b), (1, .ref (a 0)), (2, .ref (a 56)), (3, .int x3)]) (Hk : ∀ (E : Nat → Int32) (F : Nat → Nat → Int32) (M : Nat → Int32) (N : Nat → Nat → Int32), Inv E F M N → ∀ (H : Heap) (locs : List Loc), Wo G (fun q : Nat => s.heap.size ≤ q) s (lawW G a E F M N) H locs → W p l e room_1 s m args below meth c H locs 600000 7302250 Q (F0 m 1333 ls [])) : W p l e room_1 s m args below meth c H locs 600000 7302250 Q (F0 m 203 ls []) := by
  obtain ⟨hx, hb, -⟩ := id X.1
  have hbA : ¬ (fun q : Nat => s.heap.size ≤ q) b := Nat.not_le.mpr hbl
  refine lv_aload_n hx hb dL_law_203 rfl (lv_at hl 1 rfl) ?_
  refine lv_aload_n hx hb dL_law_204 rfl (lv_at hl 0 rfl) ?_
  refine lv_iload_n hx hb dL_law_205 rfl (lv_at hl 3 rfl) ?_
  refine lv_iconst (v := (1 : Int32)) hx hb dL_law_206 (by decide) ?_
  refine lv_iadd hx hb dL_law_207 ?_
  refine va_sld hx hb hX hbl hbA hW.2.2.2.1 h_1 dL_law_208 ?_
  refine lv_aload_n hx hb dL_law_209 rfl (lv_at hl 0 rfl) ?_
  refine lv_iload_n hx hb dL_law_210 rfl (lv_at hl 3 rfl) ?_
  refine lv_iconst (v := (2 : Int32)) hx hb dL_law_211 (by decide) ?_
  refine lv_iadd hx hb dL_law_212 ?_
  refine va_sld hx hb hX hbl hbA hW.2.2.2.1 h_2 dL_law_213 ?_
  refine lv_aload_n hx hb dL_law_214 rfl (lv_at hl 0 rfl) ?_
  refine lv_iload_n hx hb dL_law_215 rfl (lv_at hl 3 rfl) ?_
  refine lv_iconst (v := (3 : Int32)) hx hb dL_law_216 (by decide) ?_
  refine lv_iadd hx hb dL_law_217 ?_
  refine va_sld hx hb hX hbl hbA hW.2.2.2.1 h_3 dL_law_218 ?_
  refine lv_aload_n hx hb dL_law_219 rfl (lv_at hl 0 rfl) ?_
  refine lv_iload_n hx hb dL_law_220 rfl (lv_at hl 3 rfl) ?_
  refine lv_iconst (v := (4 : Int32)) hx hb dL_law_221 (by decide) ?_
  refine lv_iadd hx hb dL_law_222 ?_
  refine va_sld hx hb hX hbl hbA hW.2.2.2.1 h_4 dL_law_223 ?_
  obtain ⟨r, z_boxes_r, z_boxes_f, yz_m_numbers, yz_m_boxes, hq, hq2, hI⟩ := hop E F M N (xs (x3 + (1 : Int32)).toNatClampNeg) (xs (x3 + (2 : Int32)).toNatClampNeg) (xs (x3 + (3 : Int32)).toNatClampNeg) (xs (x3 + (4 : Int32)).toNatClampNeg) hI
  refine g_cvi X hW (As := [.int (xs (x3 + (1 : Int32)).toNatClampNeg), .int (xs (x3 + (2 : Int32)).toNatClampNeg), .int (xs (x3 + (3 : Int32)).toNatClampNeg), .int (xs (x3 + (4 : Int32)).toNatClampNeg)]) (ws' := lawW G a (va_up E 6 z_boxes_r) (va_up F 0 z_boxes_f) M N) ckL_X6_box (kcX6_box (l := l) G (a 0) (a 1) (a 2) (a 3) (a 16) (a 17) (a 20) (a 39) (a 41) (a 43) (a 52) (a 4) (a 6) (a 8) (a 10) (a 12) (a 14) (a 18) (xs (x3 + (1 : Int32)).toNatClampNeg) (xs (x3 + (2 : Int32)).toNatClampNeg) (xs (x3 + (3 : Int32)).toNatClampNeg) (xs (x3 + (4 : Int32)).toNatClampNeg) (E 0) (E 1) (E 2) (E 3) (E 4) (E 5) (E 6) (F 0) (E 13) (F 7) hq) ⟨rfl, rfl, Nat.le_of_ble_eq_true rfl, Nat.le_of_ble_eq_true rfl⟩ [0, 1, 2, 3, 16, 17] rfl rfl rfl rfl rfl rfl rfl hl.1 (Nat.le_of_ble_eq_true rfl) ⟨Nat.le_of_ble_eq_true rfl, Nat.le_of_ble_eq_true rfl⟩ dL_law_224 (fun H locs hW => ?_)
  refine lv_aload_n hx hb dL_law_227 rfl (lv_at hl 2 rfl) ?_
  refine lv_aload_n hx hb dL_law_228 rfl (lv_at hl 0 rfl) ?_
  refine lv_iload_n hx hb dL_law_229 rfl (lv_at hl 3 rfl) ?_
  refine lv_iconst (v := (1 : Int32)) hx hb dL_law_230 (by decide) ?_
  refine lv_iadd hx hb dL_law_231 ?_
  refine va_sld hx hb hX hbl hbA hW.2.2.2.1 h_1 dL_law_232 ?_
  refine lv_aload_n hx hb dL_law_233 rfl (lv_at hl 0 rfl) ?_
  refine lv_iload_n hx hb dL_law_234 rfl (lv_at hl 3 rfl) ?_
  refine lv_iconst (v := (2 : Int32)) hx hb dL_law_235 (by decide) ?_
  refine lv_iadd hx hb dL_law_236 ?_
  refine va_sld hx hb hX hbl hbA hW.2.2.2.1 h_2 dL_law_237 ?_
  refine lv_aload_n hx hb dL_law_238 rfl (lv_at hl 0 rfl) ?_
  refine lv_iload_n hx hb dL_law_239 rfl (lv_at hl 3 rfl) ?_
  refine lv_iconst (v := (3 : Int32)) hx hb dL_law_240 (by decide) ?_
  refine lv_iadd hx hb dL_law_241 ?_
  refine va_sld hx hb hX hbl hbA hW.2.2.2.1 h_3 dL_law_242 ?_
  refine lv_aload_n hx hb dL_law_243 rfl (lv_at hl 0 rfl) ?_
  refine lv_iload_n hx hb dL_law_244 rfl (lv_at hl 3 rfl) ?_
  refine lv_iconst (v := (4 : Int32)) hx hb dL_law_245 (by decide) ?_
  refine lv_iadd hx hb dL_law_246 ?_
  refine va_sld hx hb hX hbl hbA hW.2.2.2.1 h_4 dL_law_247 ?_
  refine g_cvi X hW (As := [.int (xs (x3 + (1 : Int32)).toNatClampNeg), .int (xs (x3 + (2 : Int32)).toNatClampNeg), .int (xs (x3 + (3 : Int32)).toNatClampNeg), .int (xs (x3 + (4 : Int32)).toNatClampNeg)]) (ws' := lawW G a (va_up E 6 z_boxes_r) (va_up F 0 z_boxes_f) M (va_up (va_up N 0 yz_m_numbers) 1 yz_m_boxes)) ckL_X7_box (kcX7_box (l := l) G (a 56) (a 57) (a 58) (a 64) (a 59) (a 60) (a 61) (a 62) (a 63) (a 65) (a 66) (a 67) (a 68) (a 69) (a 70) (a 71) (a 72) (a 73) (a 74) (xs (x3 + (1 : Int32)).toNatClampNeg) (xs (x3 + (2 : Int32)).toNatClampNeg) (xs (x3 + (3 : Int32)).toNatClampNeg) (xs (x3 + (4 : Int32)).toNatClampNeg) (M 0) (M 1) (M 2) (M 3) (M 4) (M 5) (M 6) (M 7) (M 8) (M 9) (N 0) (N 1) (N 7) hq2) ⟨rfl, rfl, Nat.le_of_ble_eq_true rfl, Nat.le_of_ble_eq_true rfl⟩ [56, 57, 58, 64] rfl rfl rfl rfl rfl rfl rfl hl.1 (Nat.le_of_ble_eq_true rfl) ⟨Nat.le_of_ble_eq_true rfl, Nat.le_of_ble_eq_true rfl⟩ dL_law_248 (fun H locs hW => ?_)
  refine lv_icmp_eq (tgt := 1333) hx hb dL_law_251 (by decide) (fun _ => ?_) (fun c => absurd rfl c)
  exact Hk _ _ _ _ hI H locs hW
set_option maxHeartbeats 16000000 in
set_option maxRecDepth 100000 in
theorem law_check {p : Program} {l : Launch} {e : Env} {s : State} {m : MethodId} {args : Array Value} {below : List Frame} {meth : Method} {c : Code} {G : Gt} {a : Nat → Nat} {b L : Nat} {xs : Nat → Int32} {Q : State → Prop} (X : Bx p s m args meth c code 4 lw_tbl RL ret) (hX : va_X b L xs s s.heap) (hbl : b < s.heap.size) (Inv : (Nat → Int32) → (Nat → Nat → Int32) → (Nat → Int32) → (Nat → Nat → Int32) → Prop) (hop : Op_check Inv) (E : Nat → Int32) (F : Nat → Nat → Int32) (M : Nat → Int32) (N : Nat → Nat → Int32) (hI : Inv E F M N) (x3 : Int32) (h_1 : vp_in (x3 + (1 : Int32)) L) (h_2 : vp_in (x3 + (2 : Int32)) L) (h_3 : vp_in (x3 + (3 : Int32)) L) (h_4 : vp_in (x3 + (4 : Int32)) L) (h_5 : vp_in (x3 + (5 : Int32)) L) (h_6 : vp_in (x3 + (6 : Int32)) L) (H : Heap) (locs : List Loc) (hW : Wo G (fun q : Nat => s.heap.size ≤ q) s (lawW G a E F M N) H locs) (ls : Array Slot) (hl : lv_has ls 4 [(0, .ref b), (1, .ref (a 0)), (2, .ref (a 56)), (3, .int x3)]) (Hk : ∀ (E : Nat → Int32) (F : Nat → Nat → Int32) (M : Nat → Int32) (N : Nat → Nat → Int32), Inv E F M N → ∀ (H : Heap) (locs : List Loc), Wo G (fun q : Nat => s.heap.size ≤ q) s (lawW G a E F M N) H locs → W p l e room_1 s m args below meth c H locs 600000 7302250 Q (F0 m 1333 ls [])) : W p l e room_1 s m args below meth c H locs 600000 7302250 Q (F0 m 256 ls []) := by
  obtain ⟨hx, hb, -⟩ := id X.1
  have hbA : ¬ (fun q : Nat => s.heap.size ≤ q) b := Nat.not_le.mpr hbl
  refine lv_aload_n hx hb dL_law_256 rfl (lv_at hl 1 rfl) ?_
  refine lv_aload_n hx hb dL_law_257 rfl (lv_at hl 0 rfl) ?_
  refine lv_iload_n hx hb dL_law_258 rfl (lv_at hl 3 rfl) ?_
  refine lv_iconst (v := (1 : Int32)) hx hb dL_law_259 (by decide) ?_
  refine lv_iadd hx hb dL_law_260 ?_
  refine va_sld hx hb hX hbl hbA hW.2.2.2.1 h_1 dL_law_261 ?_
  obtain ⟨r, hq, hq2, hI⟩ := hop E F M N (xs (x3 + (1 : Int32)).toNatClampNeg) hI
  refine g_cvi X hW (As := [.int (xs (x3 + (1 : Int32)).toNatClampNeg)]) (ws' := lawW G a E F M N) ckL_X6_check (kcX6_check (l := l) G (a 0) (a 1) (a 20) (a 39) (a 41) (a 43) (a 52) (xs (x3 + (1 : Int32)).toNatClampNeg) (E 0) (E 1) hq) ⟨rfl, rfl, Nat.le_of_ble_eq_true rfl, Nat.le_of_ble_eq_true rfl⟩ [0] rfl rfl rfl rfl rfl rfl rfl hl.1 (Nat.le_of_ble_eq_true rfl) ⟨Nat.le_of_ble_eq_true rfl, Nat.le_of_ble_eq_true rfl⟩ dL_law_262 (fun H locs hW => ?_)
  refine lv_aload_n hx hb dL_law_265 rfl (lv_at hl 2 rfl) ?_
  refine lv_aload_n hx hb dL_law_266 rfl (lv_at hl 0 rfl) ?_
  refine lv_iload_n hx hb dL_law_267 rfl (lv_at hl 3 rfl) ?_
  refine lv_iconst (v := (1 : Int32)) hx hb dL_law_268 (by decide) ?_
  refine lv_iadd hx hb dL_law_269 ?_
  refine va_sld hx hb hX hbl hbA hW.2.2.2.1 h_1 dL_law_270 ?_
  refine g_cvi X hW (As := [.int (xs (x3 + (1 : Int32)).toNatClampNeg)]) (ws' := lawW G a E F M N) ckL_X7_check (kcX7_check (l := l) G (a 56) (a 57) (a 58) (a 59) (a 60) (a 61) (a 62) (a 63) (a 64) (a 65) (a 66) (a 67) (a 68) (a 69) (a 70) (a 71) (a 72) (a 73) (a 74) (xs (x3 + (1 : Int32)).toNatClampNeg) (M 0) (M 1) (M 2) (M 3) (M 4) (M 5) (M 6) (M 7) (M 8) (M 9) hq2) ⟨rfl, rfl, Nat.le_of_ble_eq_true rfl, Nat.le_of_ble_eq_true rfl⟩ [56] rfl rfl rfl rfl rfl rfl rfl hl.1 (Nat.le_of_ble_eq_true rfl) ⟨Nat.le_of_ble_eq_true rfl, Nat.le_of_ble_eq_true rfl⟩ dL_law_271 (fun H locs hW => ?_)
  refine lv_icmp_eq (tgt := 1333) hx hb dL_law_274 (by decide) (fun _ => ?_) (fun c => absurd rfl c)
  exact Hk _ _ _ _ hI H locs hW
set_option maxHeartbeats 16000000 in
set_option maxRecDepth 100000 in
theorem law_find {p : Program} {l : Launch} {e : Env} {s : State} {m : MethodId} {args : Array Value} {below : List Frame} {meth : Method} {c : Code} {G : Gt} {a : Nat → Nat} {b L : Nat} {xs : Nat → Int32} {Q : State → Prop} (X : Bx p s m args meth c code 4 lw_tbl RL ret) (hX : va_X b L xs s s.heap) (hbl : b < s.heap.size) (Inv : (Nat → Int32) → (Nat → Nat → Int32) → (Nat → Int32) → (Nat → Nat → Int32) → Prop) (hop : Op_find Inv) (E : Nat → Int32) (F : Nat → Nat → Int32) (M : Nat → Int32) (N : Nat → Nat → Int32) (hI : Inv E F M N) (x3 : Int32) (h_1 : vp_in (x3 + (1 : Int32)) L) (h_2 : vp_in (x3 + (2 : Int32)) L) (h_3 : vp_in (x3 + (3 : Int32)) L) (h_4 : vp_in (x3 + (4 : Int32)) L) (h_5 : vp_in (x3 + (5 : Int32)) L) (h_6 : vp_in (x3 + (6 : Int32)) L) (H : Heap) (locs : List Loc) (hW : Wo G (fun q : Nat => s.heap.size ≤ q) s (lawW G a E F M N) H locs) (ls : Array Slot) (hl : lv_has ls 4 [(0, .ref b), (1, .ref (a 0)), (2, .ref (a 56)), (3, .int x3)]) (Hk : ∀ (E : Nat → Int32) (F : Nat → Nat → Int32) (M : Nat → Int32) (N : Nat → Nat → Int32), Inv E F M N → ∀ (H : Heap) (locs : List Loc), Wo G (fun q : Nat => s.heap.size ≤ q) s (lawW G a E F M N) H locs → W p l e room_1 s m args below meth c H locs 600000 7302250 Q (F0 m 1333 ls [])) : W p l e room_1 s m args below meth c H locs 600000 7302250 Q (F0 m 279 ls []) := by
  obtain ⟨hx, hb, -⟩ := id X.1
  have hbA : ¬ (fun q : Nat => s.heap.size ≤ q) b := Nat.not_le.mpr hbl
  refine lv_aload_n hx hb dL_law_279 rfl (lv_at hl 1 rfl) ?_
  refine lv_aload_n hx hb dL_law_280 rfl (lv_at hl 0 rfl) ?_
  refine lv_iload_n hx hb dL_law_281 rfl (lv_at hl 3 rfl) ?_
  refine lv_iconst (v := (1 : Int32)) hx hb dL_law_282 (by decide) ?_
  refine lv_iadd hx hb dL_law_283 ?_
  refine va_sld hx hb hX hbl hbA hW.2.2.2.1 h_1 dL_law_284 ?_
  obtain ⟨r, hq, hq2, hI⟩ := hop E F M N (xs (x3 + (1 : Int32)).toNatClampNeg) hI
  refine g_cvi X hW (As := [.int (xs (x3 + (1 : Int32)).toNatClampNeg)]) (ws' := lawW G a E F M N) ckL_X6_find (kcX6_find (l := l) G (a 0) (a 1) (a 2) (a 3) (a 20) (a 39) (a 41) (a 43) (a 52) (a 4) (a 6) (a 8) (a 10) (a 12) (a 14) (a 16) (a 18) (xs (x3 + (1 : Int32)).toNatClampNeg) (E 0) (E 1) (E 2) (E 3) (E 4) (E 5) (E 6) (F 0) hq) ⟨rfl, rfl, Nat.le_of_ble_eq_true rfl, Nat.le_of_ble_eq_true rfl⟩ [0, 1, 2, 3] rfl rfl rfl rfl rfl rfl rfl hl.1 (Nat.le_of_ble_eq_true rfl) ⟨Nat.le_of_ble_eq_true rfl, Nat.le_of_ble_eq_true rfl⟩ dL_law_285 (fun H locs hW => ?_)
  refine lv_aload_n hx hb dL_law_288 rfl (lv_at hl 2 rfl) ?_
  refine lv_aload_n hx hb dL_law_289 rfl (lv_at hl 0 rfl) ?_
  refine lv_iload_n hx hb dL_law_290 rfl (lv_at hl 3 rfl) ?_
  refine lv_iconst (v := (1 : Int32)) hx hb dL_law_291 (by decide) ?_
  refine lv_iadd hx hb dL_law_292 ?_
  refine va_sld hx hb hX hbl hbA hW.2.2.2.1 h_1 dL_law_293 ?_
  refine g_cvi X hW (As := [.int (xs (x3 + (1 : Int32)).toNatClampNeg)]) (ws' := lawW G a E F M N) ckL_X7_find (kcX7_find (l := l) G (a 56) (a 57) (a 58) (a 59) (a 60) (a 61) (a 62) (a 63) (a 64) (a 65) (a 66) (a 67) (a 68) (a 69) (a 70) (a 71) (a 72) (a 73) (a 74) (xs (x3 + (1 : Int32)).toNatClampNeg) (M 0) (M 1) (M 2) (M 3) (M 4) (M 5) (M 6) (M 7) (M 8) (M 9) (N 0) (N 1) hq2) ⟨rfl, rfl, Nat.le_of_ble_eq_true rfl, Nat.le_of_ble_eq_true rfl⟩ [56, 57, 58] rfl rfl rfl rfl rfl rfl rfl hl.1 (Nat.le_of_ble_eq_true rfl) ⟨Nat.le_of_ble_eq_true rfl, Nat.le_of_ble_eq_true rfl⟩ dL_law_294 (fun H locs hW => ?_)
  refine lv_icmp_eq (tgt := 1333) hx hb dL_law_297 (by decide) (fun _ => ?_) (fun c => absurd rfl c)
  exact Hk _ _ _ _ hI H locs hW
set_option maxHeartbeats 16000000 in
set_option maxRecDepth 100000 in
theorem law_of {p : Program} {l : Launch} {e : Env} {s : State} {m : MethodId} {args : Array Value} {below : List Frame} {meth : Method} {c : Code} {G : Gt} {a : Nat → Nat} {b L : Nat} {xs : Nat → Int32} {Q : State → Prop} (X : Bx p s m args meth c code 4 lw_tbl RL ret) (hX : va_X b L xs s s.heap) (hbl : b < s.heap.size) (Inv : (Nat → Int32) → (Nat → Nat → Int32) → (Nat → Int32) → (Nat → Nat → Int32) → Prop) (hop : Op_of Inv) (E : Nat → Int32) (F : Nat → Nat → Int32) (M : Nat → Int32) (N : Nat → Nat → Int32) (hI : Inv E F M N) (x3 : Int32) (h_1 : vp_in (x3 + (1 : Int32)) L) (h_2 : vp_in (x3 + (2 : Int32)) L) (h_3 : vp_in (x3 + (3 : Int32)) L) (h_4 : vp_in (x3 + (4 : Int32)) L) (h_5 : vp_in (x3 + (5 : Int32)) L) (h_6 : vp_in (x3 + (6 : Int32)) L) (H : Heap) (locs : List Loc) (hW : Wo G (fun q : Nat => s.heap.size ≤ q) s (lawW G a E F M N) H locs) (ls : Array Slot) (hl : lv_has ls 4 [(0, .ref b), (1, .ref (a 0)), (2, .ref (a 56)), (3, .int x3)]) (Hk : ∀ (E : Nat → Int32) (F : Nat → Nat → Int32) (M : Nat → Int32) (N : Nat → Nat → Int32), Inv E F M N → ∀ (H : Heap) (locs : List Loc), Wo G (fun q : Nat => s.heap.size ≤ q) s (lawW G a E F M N) H locs → W p l e room_1 s m args below meth c H locs 600000 7302250 Q (F0 m 1333 ls [])) : W p l e room_1 s m args below meth c H locs 600000 7302250 Q (F0 m 302 ls []) := by
  obtain ⟨hx, hb, -⟩ := id X.1
  have hbA : ¬ (fun q : Nat => s.heap.size ≤ q) b := Nat.not_le.mpr hbl
  refine lv_aload_n hx hb dL_law_302 rfl (lv_at hl 1 rfl) ?_
  refine lv_aload_n hx hb dL_law_303 rfl (lv_at hl 0 rfl) ?_
  refine lv_iload_n hx hb dL_law_304 rfl (lv_at hl 3 rfl) ?_
  refine lv_iconst (v := (1 : Int32)) hx hb dL_law_305 (by decide) ?_
  refine lv_iadd hx hb dL_law_306 ?_
  refine va_sld hx hb hX hbl hbA hW.2.2.2.1 h_1 dL_law_307 ?_
  refine lv_aload_n hx hb dL_law_308 rfl (lv_at hl 0 rfl) ?_
  refine lv_iload_n hx hb dL_law_309 rfl (lv_at hl 3 rfl) ?_
  refine lv_iconst (v := (2 : Int32)) hx hb dL_law_310 (by decide) ?_
  refine lv_iadd hx hb dL_law_311 ?_
  refine va_sld hx hb hX hbl hbA hW.2.2.2.1 h_2 dL_law_312 ?_
  obtain ⟨r, hq, hq2, hI⟩ := hop E F M N (xs (x3 + (1 : Int32)).toNatClampNeg) (xs (x3 + (2 : Int32)).toNatClampNeg) hI
  refine g_cvi X hW (As := [.int (xs (x3 + (1 : Int32)).toNatClampNeg), .int (xs (x3 + (2 : Int32)).toNatClampNeg)]) (ws' := lawW G a E F M N) ckL_X6_of (kcX6_of (l := l) G (a 0) (a 1) (a 2) (a 3) (a 20) (a 39) (a 41) (a 43) (a 52) (a 4) (a 6) (a 8) (a 10) (a 12) (a 14) (a 16) (a 18) (xs (x3 + (1 : Int32)).toNatClampNeg) (xs (x3 + (2 : Int32)).toNatClampNeg) (E 0) (E 1) (E 2) (E 3) (E 4) (E 5) (E 6) (F 0) hq) ⟨rfl, rfl, Nat.le_of_ble_eq_true rfl, Nat.le_of_ble_eq_true rfl⟩ [0, 1, 2, 3] rfl rfl rfl rfl rfl rfl rfl hl.1 (Nat.le_of_ble_eq_true rfl) ⟨Nat.le_of_ble_eq_true rfl, Nat.le_of_ble_eq_true rfl⟩ dL_law_313 (fun H locs hW => ?_)
  refine lv_aload_n hx hb dL_law_316 rfl (lv_at hl 2 rfl) ?_
  refine lv_aload_n hx hb dL_law_317 rfl (lv_at hl 0 rfl) ?_
  refine lv_iload_n hx hb dL_law_318 rfl (lv_at hl 3 rfl) ?_
  refine lv_iconst (v := (1 : Int32)) hx hb dL_law_319 (by decide) ?_
  refine lv_iadd hx hb dL_law_320 ?_
  refine va_sld hx hb hX hbl hbA hW.2.2.2.1 h_1 dL_law_321 ?_
  refine lv_aload_n hx hb dL_law_322 rfl (lv_at hl 0 rfl) ?_
  refine lv_iload_n hx hb dL_law_323 rfl (lv_at hl 3 rfl) ?_
  refine lv_iconst (v := (2 : Int32)) hx hb dL_law_324 (by decide) ?_
  refine lv_iadd hx hb dL_law_325 ?_
  refine va_sld hx hb hX hbl hbA hW.2.2.2.1 h_2 dL_law_326 ?_
  refine g_cvi X hW (As := [.int (xs (x3 + (1 : Int32)).toNatClampNeg), .int (xs (x3 + (2 : Int32)).toNatClampNeg)]) (ws' := lawW G a E F M N) ckL_X7_of (kcX7_of (l := l) G (a 56) (a 57) (a 58) (a 59) (a 60) (a 61) (a 62) (a 63) (a 64) (a 65) (a 66) (a 67) (a 68) (a 69) (a 70) (a 71) (a 72) (a 73) (a 74) (xs (x3 + (1 : Int32)).toNatClampNeg) (xs (x3 + (2 : Int32)).toNatClampNeg) (M 0) (M 1) (M 2) (M 3) (M 4) (M 5) (M 6) (M 7) (M 8) (M 9) (N 0) (N 1) hq2) ⟨rfl, rfl, Nat.le_of_ble_eq_true rfl, Nat.le_of_ble_eq_true rfl⟩ [56, 57, 58] rfl rfl rfl rfl rfl rfl rfl hl.1 (Nat.le_of_ble_eq_true rfl) ⟨Nat.le_of_ble_eq_true rfl, Nat.le_of_ble_eq_true rfl⟩ dL_law_327 (fun H locs hW => ?_)
  refine lv_icmp_eq (tgt := 1333) hx hb dL_law_330 (by decide) (fun _ => ?_) (fun c => absurd rfl c)
  exact Hk _ _ _ _ hI H locs hW
set_option maxHeartbeats 16000000 in
set_option maxRecDepth 100000 in
theorem law_word {p : Program} {l : Launch} {e : Env} {s : State} {m : MethodId} {args : Array Value} {below : List Frame} {meth : Method} {c : Code} {G : Gt} {a : Nat → Nat} {b L : Nat} {xs : Nat → Int32} {Q : State → Prop} (X : Bx p s m args meth c code 4 lw_tbl RL ret) (hX : va_X b L xs s s.heap) (hbl : b < s.heap.size) (Inv : (Nat → Int32) → (Nat → Nat → Int32) → (Nat → Int32) → (Nat → Nat → Int32) → Prop) (hop : Op_word Inv) (E : Nat → Int32) (F : Nat → Nat → Int32) (M : Nat → Int32) (N : Nat → Nat → Int32) (hI : Inv E F M N) (x3 : Int32) (h_1 : vp_in (x3 + (1 : Int32)) L) (h_2 : vp_in (x3 + (2 : Int32)) L) (h_3 : vp_in (x3 + (3 : Int32)) L) (h_4 : vp_in (x3 + (4 : Int32)) L) (h_5 : vp_in (x3 + (5 : Int32)) L) (h_6 : vp_in (x3 + (6 : Int32)) L) (H : Heap) (locs : List Loc) (hW : Wo G (fun q : Nat => s.heap.size ≤ q) s (lawW G a E F M N) H locs) (ls : Array Slot) (hl : lv_has ls 4 [(0, .ref b), (1, .ref (a 0)), (2, .ref (a 56)), (3, .int x3)]) (Hk : ∀ (E : Nat → Int32) (F : Nat → Nat → Int32) (M : Nat → Int32) (N : Nat → Nat → Int32), Inv E F M N → ∀ (H : Heap) (locs : List Loc), Wo G (fun q : Nat => s.heap.size ≤ q) s (lawW G a E F M N) H locs → W p l e room_1 s m args below meth c H locs 600000 7302250 Q (F0 m 1333 ls [])) : W p l e room_1 s m args below meth c H locs 600000 7302250 Q (F0 m 335 ls []) := by
  obtain ⟨hx, hb, -⟩ := id X.1
  have hbA : ¬ (fun q : Nat => s.heap.size ≤ q) b := Nat.not_le.mpr hbl
  refine lv_aload_n hx hb dL_law_335 rfl (lv_at hl 1 rfl) ?_
  refine lv_aload_n hx hb dL_law_336 rfl (lv_at hl 0 rfl) ?_
  refine lv_iload_n hx hb dL_law_337 rfl (lv_at hl 3 rfl) ?_
  refine lv_iconst (v := (1 : Int32)) hx hb dL_law_338 (by decide) ?_
  refine lv_iadd hx hb dL_law_339 ?_
  refine va_sld hx hb hX hbl hbA hW.2.2.2.1 h_1 dL_law_340 ?_
  refine lv_aload_n hx hb dL_law_341 rfl (lv_at hl 0 rfl) ?_
  refine lv_iload_n hx hb dL_law_342 rfl (lv_at hl 3 rfl) ?_
  refine lv_iconst (v := (2 : Int32)) hx hb dL_law_343 (by decide) ?_
  refine lv_iadd hx hb dL_law_344 ?_
  refine va_sld hx hb hX hbl hbA hW.2.2.2.1 h_2 dL_law_345 ?_
  refine lv_aload_n hx hb dL_law_346 rfl (lv_at hl 0 rfl) ?_
  refine lv_iload_n hx hb dL_law_347 rfl (lv_at hl 3 rfl) ?_
  refine lv_iconst (v := (3 : Int32)) hx hb dL_law_348 (by decide) ?_
  refine lv_iadd hx hb dL_law_349 ?_
  refine va_sld hx hb hX hbl hbA hW.2.2.2.1 h_3 dL_law_350 ?_
  refine lv_aload_n hx hb dL_law_351 rfl (lv_at hl 0 rfl) ?_
  refine lv_iload_n hx hb dL_law_352 rfl (lv_at hl 3 rfl) ?_
  refine lv_iconst (v := (4 : Int32)) hx hb dL_law_353 (by decide) ?_
  refine lv_iadd hx hb dL_law_354 ?_
  refine va_sld hx hb hX hbl hbA hW.2.2.2.1 h_4 dL_law_355 ?_
  obtain ⟨r, z_words_r, z_words_f, yz_m_numbers, yz_m_words, hq, hq2, hI⟩ := hop E F M N (xs (x3 + (1 : Int32)).toNatClampNeg) (xs (x3 + (2 : Int32)).toNatClampNeg) (xs (x3 + (3 : Int32)).toNatClampNeg) (xs (x3 + (4 : Int32)).toNatClampNeg) hI
  refine g_cvi X hW (As := [.int (xs (x3 + (1 : Int32)).toNatClampNeg), .int (xs (x3 + (2 : Int32)).toNatClampNeg), .int (xs (x3 + (3 : Int32)).toNatClampNeg), .int (xs (x3 + (4 : Int32)).toNatClampNeg)]) (ws' := lawW G a (va_up E 7 z_words_r) (va_up F 1 z_words_f) M N) ckL_X6_word (kcX6_word (l := l) G (a 0) (a 1) (a 2) (a 3) (a 4) (a 5) (a 20) (a 39) (a 41) (a 43) (a 52) (a 6) (a 8) (a 10) (a 12) (a 14) (a 16) (a 18) (xs (x3 + (1 : Int32)).toNatClampNeg) (xs (x3 + (2 : Int32)).toNatClampNeg) (xs (x3 + (3 : Int32)).toNatClampNeg) (xs (x3 + (4 : Int32)).toNatClampNeg) (E 0) (E 1) (E 2) (E 3) (E 4) (E 5) (E 6) (F 0) (E 7) (F 1) hq) ⟨rfl, rfl, Nat.le_of_ble_eq_true rfl, Nat.le_of_ble_eq_true rfl⟩ [0, 1, 2, 3, 4, 5] rfl rfl rfl rfl rfl rfl rfl hl.1 (Nat.le_of_ble_eq_true rfl) ⟨Nat.le_of_ble_eq_true rfl, Nat.le_of_ble_eq_true rfl⟩ dL_law_356 (fun H locs hW => ?_)
  refine lv_aload_n hx hb dL_law_359 rfl (lv_at hl 2 rfl) ?_
  refine lv_aload_n hx hb dL_law_360 rfl (lv_at hl 0 rfl) ?_
  refine lv_iload_n hx hb dL_law_361 rfl (lv_at hl 3 rfl) ?_
  refine lv_iconst (v := (1 : Int32)) hx hb dL_law_362 (by decide) ?_
  refine lv_iadd hx hb dL_law_363 ?_
  refine va_sld hx hb hX hbl hbA hW.2.2.2.1 h_1 dL_law_364 ?_
  refine lv_aload_n hx hb dL_law_365 rfl (lv_at hl 0 rfl) ?_
  refine lv_iload_n hx hb dL_law_366 rfl (lv_at hl 3 rfl) ?_
  refine lv_iconst (v := (2 : Int32)) hx hb dL_law_367 (by decide) ?_
  refine lv_iadd hx hb dL_law_368 ?_
  refine va_sld hx hb hX hbl hbA hW.2.2.2.1 h_2 dL_law_369 ?_
  refine lv_aload_n hx hb dL_law_370 rfl (lv_at hl 0 rfl) ?_
  refine lv_iload_n hx hb dL_law_371 rfl (lv_at hl 3 rfl) ?_
  refine lv_iconst (v := (3 : Int32)) hx hb dL_law_372 (by decide) ?_
  refine lv_iadd hx hb dL_law_373 ?_
  refine va_sld hx hb hX hbl hbA hW.2.2.2.1 h_3 dL_law_374 ?_
  refine lv_aload_n hx hb dL_law_375 rfl (lv_at hl 0 rfl) ?_
  refine lv_iload_n hx hb dL_law_376 rfl (lv_at hl 3 rfl) ?_
  refine lv_iconst (v := (4 : Int32)) hx hb dL_law_377 (by decide) ?_
  refine lv_iadd hx hb dL_law_378 ?_
  refine va_sld hx hb hX hbl hbA hW.2.2.2.1 h_4 dL_law_379 ?_
  refine g_cvi X hW (As := [.int (xs (x3 + (1 : Int32)).toNatClampNeg), .int (xs (x3 + (2 : Int32)).toNatClampNeg), .int (xs (x3 + (3 : Int32)).toNatClampNeg), .int (xs (x3 + (4 : Int32)).toNatClampNeg)]) (ws' := lawW G a (va_up E 7 z_words_r) (va_up F 1 z_words_f) M (va_up (va_up N 0 yz_m_numbers) 2 yz_m_words)) ckL_X7_word (kcX7_word (l := l) G (a 56) (a 57) (a 58) (a 59) (a 60) (a 61) (a 62) (a 63) (a 64) (a 65) (a 66) (a 67) (a 68) (a 69) (a 70) (a 71) (a 72) (a 73) (a 74) (xs (x3 + (1 : Int32)).toNatClampNeg) (xs (x3 + (2 : Int32)).toNatClampNeg) (xs (x3 + (3 : Int32)).toNatClampNeg) (xs (x3 + (4 : Int32)).toNatClampNeg) (M 0) (M 1) (M 2) (M 3) (M 4) (M 5) (M 6) (M 7) (M 8) (M 9) (N 0) (N 1) (N 2) hq2) ⟨rfl, rfl, Nat.le_of_ble_eq_true rfl, Nat.le_of_ble_eq_true rfl⟩ [56, 57, 58, 59] rfl rfl rfl rfl rfl rfl rfl hl.1 (Nat.le_of_ble_eq_true rfl) ⟨Nat.le_of_ble_eq_true rfl, Nat.le_of_ble_eq_true rfl⟩ dL_law_380 (fun H locs hW => ?_)
  refine lv_icmp_eq (tgt := 1333) hx hb dL_law_383 (by decide) (fun _ => ?_) (fun c => absurd rfl c)
  exact Hk _ _ _ _ hI H locs hW
set_option maxHeartbeats 16000000 in
set_option maxRecDepth 100000 in
theorem law_where {p : Program} {l : Launch} {e : Env} {s : State} {m : MethodId} {args : Array Value} {below : List Frame} {meth : Method} {c : Code} {G : Gt} {a : Nat → Nat} {b L : Nat} {xs : Nat → Int32} {Q : State → Prop} (X : Bx p s m args meth c code 4 lw_tbl RL ret) (hX : va_X b L xs s s.heap) (hbl : b < s.heap.size) (Inv : (Nat → Int32) → (Nat → Nat → Int32) → (Nat → Int32) → (Nat → Nat → Int32) → Prop) (hop : Op_where Inv) (E : Nat → Int32) (F : Nat → Nat → Int32) (M : Nat → Int32) (N : Nat → Nat → Int32) (hI : Inv E F M N) (x3 : Int32) (h_1 : vp_in (x3 + (1 : Int32)) L) (h_2 : vp_in (x3 + (2 : Int32)) L) (h_3 : vp_in (x3 + (3 : Int32)) L) (h_4 : vp_in (x3 + (4 : Int32)) L) (h_5 : vp_in (x3 + (5 : Int32)) L) (h_6 : vp_in (x3 + (6 : Int32)) L) (H : Heap) (locs : List Loc) (hW : Wo G (fun q : Nat => s.heap.size ≤ q) s (lawW G a E F M N) H locs) (ls : Array Slot) (hl : lv_has ls 4 [(0, .ref b), (1, .ref (a 0)), (2, .ref (a 56)), (3, .int x3)]) (Hk : ∀ (E : Nat → Int32) (F : Nat → Nat → Int32) (M : Nat → Int32) (N : Nat → Nat → Int32), Inv E F M N → ∀ (H : Heap) (locs : List Loc), Wo G (fun q : Nat => s.heap.size ≤ q) s (lawW G a E F M N) H locs → W p l e room_1 s m args below meth c H locs 600000 7302250 Q (F0 m 1333 ls [])) : W p l e room_1 s m args below meth c H locs 600000 7302250 Q (F0 m 388 ls []) := by
  obtain ⟨hx, hb, -⟩ := id X.1
  have hbA : ¬ (fun q : Nat => s.heap.size ≤ q) b := Nat.not_le.mpr hbl
  refine lv_aload_n hx hb dL_law_388 rfl (lv_at hl 1 rfl) ?_
  refine lv_aload_n hx hb dL_law_389 rfl (lv_at hl 0 rfl) ?_
  refine lv_iload_n hx hb dL_law_390 rfl (lv_at hl 3 rfl) ?_
  refine lv_iconst (v := (1 : Int32)) hx hb dL_law_391 (by decide) ?_
  refine lv_iadd hx hb dL_law_392 ?_
  refine va_sld hx hb hX hbl hbA hW.2.2.2.1 h_1 dL_law_393 ?_
  refine lv_aload_n hx hb dL_law_394 rfl (lv_at hl 0 rfl) ?_
  refine lv_iload_n hx hb dL_law_395 rfl (lv_at hl 3 rfl) ?_
  refine lv_iconst (v := (2 : Int32)) hx hb dL_law_396 (by decide) ?_
  refine lv_iadd hx hb dL_law_397 ?_
  refine va_sld hx hb hX hbl hbA hW.2.2.2.1 h_2 dL_law_398 ?_
  refine lv_aload_n hx hb dL_law_399 rfl (lv_at hl 0 rfl) ?_
  refine lv_iload_n hx hb dL_law_400 rfl (lv_at hl 3 rfl) ?_
  refine lv_iconst (v := (3 : Int32)) hx hb dL_law_401 (by decide) ?_
  refine lv_iadd hx hb dL_law_402 ?_
  refine va_sld hx hb hX hbl hbA hW.2.2.2.1 h_3 dL_law_403 ?_
  obtain ⟨r, hq, hq2, hI⟩ := hop E F M N (xs (x3 + (1 : Int32)).toNatClampNeg) (xs (x3 + (2 : Int32)).toNatClampNeg) (xs (x3 + (3 : Int32)).toNatClampNeg) hI
  refine g_cvi X hW (As := [.int (xs (x3 + (1 : Int32)).toNatClampNeg), .int (xs (x3 + (2 : Int32)).toNatClampNeg), .int (xs (x3 + (3 : Int32)).toNatClampNeg)]) (ws' := lawW G a E F M N) ckL_X6_where (kcX6_where (l := l) G (a 0) (a 1) (a 2) (a 4) (a 5) (a 20) (a 39) (a 41) (a 43) (a 52) (a 6) (a 8) (a 10) (a 12) (a 14) (a 16) (a 18) (a 3) (xs (x3 + (1 : Int32)).toNatClampNeg) (xs (x3 + (2 : Int32)).toNatClampNeg) (xs (x3 + (3 : Int32)).toNatClampNeg) (E 0) (E 1) (E 2) (E 3) (E 4) (E 5) (E 6) (E 7) (F 1) hq) ⟨rfl, rfl, Nat.le_of_ble_eq_true rfl, Nat.le_of_ble_eq_true rfl⟩ [0, 1, 2, 4, 5] rfl rfl rfl rfl rfl rfl rfl hl.1 (Nat.le_of_ble_eq_true rfl) ⟨Nat.le_of_ble_eq_true rfl, Nat.le_of_ble_eq_true rfl⟩ dL_law_404 (fun H locs hW => ?_)
  refine lv_aload_n hx hb dL_law_407 rfl (lv_at hl 2 rfl) ?_
  refine lv_aload_n hx hb dL_law_408 rfl (lv_at hl 0 rfl) ?_
  refine lv_iload_n hx hb dL_law_409 rfl (lv_at hl 3 rfl) ?_
  refine lv_iconst (v := (1 : Int32)) hx hb dL_law_410 (by decide) ?_
  refine lv_iadd hx hb dL_law_411 ?_
  refine va_sld hx hb hX hbl hbA hW.2.2.2.1 h_1 dL_law_412 ?_
  refine lv_aload_n hx hb dL_law_413 rfl (lv_at hl 0 rfl) ?_
  refine lv_iload_n hx hb dL_law_414 rfl (lv_at hl 3 rfl) ?_
  refine lv_iconst (v := (2 : Int32)) hx hb dL_law_415 (by decide) ?_
  refine lv_iadd hx hb dL_law_416 ?_
  refine va_sld hx hb hX hbl hbA hW.2.2.2.1 h_2 dL_law_417 ?_
  refine lv_aload_n hx hb dL_law_418 rfl (lv_at hl 0 rfl) ?_
  refine lv_iload_n hx hb dL_law_419 rfl (lv_at hl 3 rfl) ?_
  refine lv_iconst (v := (3 : Int32)) hx hb dL_law_420 (by decide) ?_
  refine lv_iadd hx hb dL_law_421 ?_
  refine va_sld hx hb hX hbl hbA hW.2.2.2.1 h_3 dL_law_422 ?_
  refine g_cvi X hW (As := [.int (xs (x3 + (1 : Int32)).toNatClampNeg), .int (xs (x3 + (2 : Int32)).toNatClampNeg), .int (xs (x3 + (3 : Int32)).toNatClampNeg)]) (ws' := lawW G a E F M N) ckL_X7_where (kcX7_where (l := l) G (a 56) (a 57) (a 59) (a 58) (a 60) (a 61) (a 62) (a 63) (a 64) (a 65) (a 66) (a 67) (a 68) (a 69) (a 70) (a 71) (a 72) (a 73) (a 74) (xs (x3 + (1 : Int32)).toNatClampNeg) (xs (x3 + (2 : Int32)).toNatClampNeg) (xs (x3 + (3 : Int32)).toNatClampNeg) (M 0) (M 1) (M 2) (M 3) (M 4) (M 5) (M 6) (M 7) (M 8) (M 9) (N 0) (N 2) hq2) ⟨rfl, rfl, Nat.le_of_ble_eq_true rfl, Nat.le_of_ble_eq_true rfl⟩ [56, 57, 59] rfl rfl rfl rfl rfl rfl rfl hl.1 (Nat.le_of_ble_eq_true rfl) ⟨Nat.le_of_ble_eq_true rfl, Nat.le_of_ble_eq_true rfl⟩ dL_law_423 (fun H locs hW => ?_)
  refine lv_icmp_eq (tgt := 1333) hx hb dL_law_426 (by decide) (fun _ => ?_) (fun c => absurd rfl c)
  exact Hk _ _ _ _ hI H locs hW
set_option maxHeartbeats 16000000 in
set_option maxRecDepth 100000 in
theorem law_since {p : Program} {l : Launch} {e : Env} {s : State} {m : MethodId} {args : Array Value} {below : List Frame} {meth : Method} {c : Code} {G : Gt} {a : Nat → Nat} {b L : Nat} {xs : Nat → Int32} {Q : State → Prop} (X : Bx p s m args meth c code 4 lw_tbl RL ret) (hX : va_X b L xs s s.heap) (hbl : b < s.heap.size) (Inv : (Nat → Int32) → (Nat → Nat → Int32) → (Nat → Int32) → (Nat → Nat → Int32) → Prop) (hop : Op_since Inv) (E : Nat → Int32) (F : Nat → Nat → Int32) (M : Nat → Int32) (N : Nat → Nat → Int32) (hI : Inv E F M N) (x3 : Int32) (h_1 : vp_in (x3 + (1 : Int32)) L) (h_2 : vp_in (x3 + (2 : Int32)) L) (h_3 : vp_in (x3 + (3 : Int32)) L) (h_4 : vp_in (x3 + (4 : Int32)) L) (h_5 : vp_in (x3 + (5 : Int32)) L) (h_6 : vp_in (x3 + (6 : Int32)) L) (H : Heap) (locs : List Loc) (hW : Wo G (fun q : Nat => s.heap.size ≤ q) s (lawW G a E F M N) H locs) (ls : Array Slot) (hl : lv_has ls 4 [(0, .ref b), (1, .ref (a 0)), (2, .ref (a 56)), (3, .int x3)]) (Hk : ∀ (E : Nat → Int32) (F : Nat → Nat → Int32) (M : Nat → Int32) (N : Nat → Nat → Int32), Inv E F M N → ∀ (H : Heap) (locs : List Loc), Wo G (fun q : Nat => s.heap.size ≤ q) s (lawW G a E F M N) H locs → W p l e room_1 s m args below meth c H locs 600000 7302250 Q (F0 m 1333 ls [])) : W p l e room_1 s m args below meth c H locs 600000 7302250 Q (F0 m 431 ls []) := by
  obtain ⟨hx, hb, -⟩ := id X.1
  have hbA : ¬ (fun q : Nat => s.heap.size ≤ q) b := Nat.not_le.mpr hbl
  refine lv_aload_n hx hb dL_law_431 rfl (lv_at hl 1 rfl) ?_
  refine lv_aload_n hx hb dL_law_432 rfl (lv_at hl 0 rfl) ?_
  refine lv_iload_n hx hb dL_law_433 rfl (lv_at hl 3 rfl) ?_
  refine lv_iconst (v := (1 : Int32)) hx hb dL_law_434 (by decide) ?_
  refine lv_iadd hx hb dL_law_435 ?_
  refine va_sld hx hb hX hbl hbA hW.2.2.2.1 h_1 dL_law_436 ?_
  refine lv_aload_n hx hb dL_law_437 rfl (lv_at hl 0 rfl) ?_
  refine lv_iload_n hx hb dL_law_438 rfl (lv_at hl 3 rfl) ?_
  refine lv_iconst (v := (2 : Int32)) hx hb dL_law_439 (by decide) ?_
  refine lv_iadd hx hb dL_law_440 ?_
  refine va_sld hx hb hX hbl hbA hW.2.2.2.1 h_2 dL_law_441 ?_
  refine lv_aload_n hx hb dL_law_442 rfl (lv_at hl 0 rfl) ?_
  refine lv_iload_n hx hb dL_law_443 rfl (lv_at hl 3 rfl) ?_
  refine lv_iconst (v := (3 : Int32)) hx hb dL_law_444 (by decide) ?_
  refine lv_iadd hx hb dL_law_445 ?_
  refine va_sld hx hb hX hbl hbA hW.2.2.2.1 h_3 dL_law_446 ?_
  obtain ⟨r, hq, hq2, hI⟩ := hop E F M N (xs (x3 + (1 : Int32)).toNatClampNeg) (xs (x3 + (2 : Int32)).toNatClampNeg) (xs (x3 + (3 : Int32)).toNatClampNeg) hI
  refine g_cvi X hW (As := [.int (xs (x3 + (1 : Int32)).toNatClampNeg), .int (xs (x3 + (2 : Int32)).toNatClampNeg), .int (xs (x3 + (3 : Int32)).toNatClampNeg)]) (ws' := lawW G a E F M N) ckL_X6_since (kcX6_since (l := l) G (a 0) (a 1) (a 2) (a 4) (a 5) (a 20) (a 39) (a 41) (a 43) (a 52) (a 6) (a 8) (a 10) (a 12) (a 14) (a 16) (a 18) (a 3) (xs (x3 + (1 : Int32)).toNatClampNeg) (xs (x3 + (2 : Int32)).toNatClampNeg) (xs (x3 + (3 : Int32)).toNatClampNeg) (E 0) (E 1) (E 2) (E 3) (E 4) (E 5) (E 6) (E 7) (F 1) hq) ⟨rfl, rfl, Nat.le_of_ble_eq_true rfl, Nat.le_of_ble_eq_true rfl⟩ [0, 1, 2, 4, 5] rfl rfl rfl rfl rfl rfl rfl hl.1 (Nat.le_of_ble_eq_true rfl) ⟨Nat.le_of_ble_eq_true rfl, Nat.le_of_ble_eq_true rfl⟩ dL_law_447 (fun H locs hW => ?_)
  refine lv_aload_n hx hb dL_law_450 rfl (lv_at hl 2 rfl) ?_
  refine lv_aload_n hx hb dL_law_451 rfl (lv_at hl 0 rfl) ?_
  refine lv_iload_n hx hb dL_law_452 rfl (lv_at hl 3 rfl) ?_
  refine lv_iconst (v := (1 : Int32)) hx hb dL_law_453 (by decide) ?_
  refine lv_iadd hx hb dL_law_454 ?_
  refine va_sld hx hb hX hbl hbA hW.2.2.2.1 h_1 dL_law_455 ?_
  refine lv_aload_n hx hb dL_law_456 rfl (lv_at hl 0 rfl) ?_
  refine lv_iload_n hx hb dL_law_457 rfl (lv_at hl 3 rfl) ?_
  refine lv_iconst (v := (2 : Int32)) hx hb dL_law_458 (by decide) ?_
  refine lv_iadd hx hb dL_law_459 ?_
  refine va_sld hx hb hX hbl hbA hW.2.2.2.1 h_2 dL_law_460 ?_
  refine lv_aload_n hx hb dL_law_461 rfl (lv_at hl 0 rfl) ?_
  refine lv_iload_n hx hb dL_law_462 rfl (lv_at hl 3 rfl) ?_
  refine lv_iconst (v := (3 : Int32)) hx hb dL_law_463 (by decide) ?_
  refine lv_iadd hx hb dL_law_464 ?_
  refine va_sld hx hb hX hbl hbA hW.2.2.2.1 h_3 dL_law_465 ?_
  refine g_cvi X hW (As := [.int (xs (x3 + (1 : Int32)).toNatClampNeg), .int (xs (x3 + (2 : Int32)).toNatClampNeg), .int (xs (x3 + (3 : Int32)).toNatClampNeg)]) (ws' := lawW G a E F M N) ckL_X7_since (kcX7_since (l := l) G (a 56) (a 57) (a 59) (a 58) (a 60) (a 61) (a 62) (a 63) (a 64) (a 65) (a 66) (a 67) (a 68) (a 69) (a 70) (a 71) (a 72) (a 73) (a 74) (xs (x3 + (1 : Int32)).toNatClampNeg) (xs (x3 + (2 : Int32)).toNatClampNeg) (xs (x3 + (3 : Int32)).toNatClampNeg) (M 0) (M 1) (M 2) (M 3) (M 4) (M 5) (M 6) (M 7) (M 8) (M 9) (N 0) (N 2) hq2) ⟨rfl, rfl, Nat.le_of_ble_eq_true rfl, Nat.le_of_ble_eq_true rfl⟩ [56, 57, 59] rfl rfl rfl rfl rfl rfl rfl hl.1 (Nat.le_of_ble_eq_true rfl) ⟨Nat.le_of_ble_eq_true rfl, Nat.le_of_ble_eq_true rfl⟩ dL_law_466 (fun H locs hW => ?_)
  refine lv_icmp_eq (tgt := 1333) hx hb dL_law_469 (by decide) (fun _ => ?_) (fun c => absurd rfl c)
  exact Hk _ _ _ _ hI H locs hW
set_option maxHeartbeats 16000000 in
set_option maxRecDepth 100000 in
theorem law_quarrels {p : Program} {l : Launch} {e : Env} {s : State} {m : MethodId} {args : Array Value} {below : List Frame} {meth : Method} {c : Code} {G : Gt} {a : Nat → Nat} {b L : Nat} {xs : Nat → Int32} {Q : State → Prop} (X : Bx p s m args meth c code 4 lw_tbl RL ret) (hX : va_X b L xs s s.heap) (hbl : b < s.heap.size) (Inv : (Nat → Int32) → (Nat → Nat → Int32) → (Nat → Int32) → (Nat → Nat → Int32) → Prop) (hop : Op_quarrels Inv) (E : Nat → Int32) (F : Nat → Nat → Int32) (M : Nat → Int32) (N : Nat → Nat → Int32) (hI : Inv E F M N) (x3 : Int32) (h_1 : vp_in (x3 + (1 : Int32)) L) (h_2 : vp_in (x3 + (2 : Int32)) L) (h_3 : vp_in (x3 + (3 : Int32)) L) (h_4 : vp_in (x3 + (4 : Int32)) L) (h_5 : vp_in (x3 + (5 : Int32)) L) (h_6 : vp_in (x3 + (6 : Int32)) L) (H : Heap) (locs : List Loc) (hW : Wo G (fun q : Nat => s.heap.size ≤ q) s (lawW G a E F M N) H locs) (ls : Array Slot) (hl : lv_has ls 4 [(0, .ref b), (1, .ref (a 0)), (2, .ref (a 56)), (3, .int x3)]) (Hk : ∀ (E : Nat → Int32) (F : Nat → Nat → Int32) (M : Nat → Int32) (N : Nat → Nat → Int32), Inv E F M N → ∀ (H : Heap) (locs : List Loc), Wo G (fun q : Nat => s.heap.size ≤ q) s (lawW G a E F M N) H locs → W p l e room_1 s m args below meth c H locs 600000 7302250 Q (F0 m 1333 ls [])) : W p l e room_1 s m args below meth c H locs 600000 7302250 Q (F0 m 474 ls []) := by
  obtain ⟨hx, hb, -⟩ := id X.1
  have hbA : ¬ (fun q : Nat => s.heap.size ≤ q) b := Nat.not_le.mpr hbl
  refine lv_aload_n hx hb dL_law_474 rfl (lv_at hl 1 rfl) ?_
  refine lv_aload_n hx hb dL_law_475 rfl (lv_at hl 0 rfl) ?_
  refine lv_iload_n hx hb dL_law_476 rfl (lv_at hl 3 rfl) ?_
  refine lv_iconst (v := (1 : Int32)) hx hb dL_law_477 (by decide) ?_
  refine lv_iadd hx hb dL_law_478 ?_
  refine va_sld hx hb hX hbl hbA hW.2.2.2.1 h_1 dL_law_479 ?_
  refine lv_aload_n hx hb dL_law_480 rfl (lv_at hl 0 rfl) ?_
  refine lv_iload_n hx hb dL_law_481 rfl (lv_at hl 3 rfl) ?_
  refine lv_iconst (v := (2 : Int32)) hx hb dL_law_482 (by decide) ?_
  refine lv_iadd hx hb dL_law_483 ?_
  refine va_sld hx hb hX hbl hbA hW.2.2.2.1 h_2 dL_law_484 ?_
  obtain ⟨r, hq, hq2, hI⟩ := hop E F M N (xs (x3 + (1 : Int32)).toNatClampNeg) (xs (x3 + (2 : Int32)).toNatClampNeg) hI
  refine g_cvi X hW (As := [.int (xs (x3 + (1 : Int32)).toNatClampNeg), .int (xs (x3 + (2 : Int32)).toNatClampNeg)]) (ws' := lawW G a E F M N) ckL_X6_quarrels (kcX6_quarrels (l := l) G (a 0) (a 1) (a 2) (a 4) (a 5) (a 20) (a 39) (a 41) (a 43) (a 52) (a 6) (a 8) (a 10) (a 12) (a 14) (a 16) (a 18) (a 3) (xs (x3 + (1 : Int32)).toNatClampNeg) (xs (x3 + (2 : Int32)).toNatClampNeg) (E 0) (E 1) (E 2) (E 3) (E 4) (E 5) (E 6) (E 7) (F 1) hq) ⟨rfl, rfl, Nat.le_of_ble_eq_true rfl, Nat.le_of_ble_eq_true rfl⟩ [0, 1, 2, 4, 5] rfl rfl rfl rfl rfl rfl rfl hl.1 (Nat.le_of_ble_eq_true rfl) ⟨Nat.le_of_ble_eq_true rfl, Nat.le_of_ble_eq_true rfl⟩ dL_law_485 (fun H locs hW => ?_)
  refine lv_aload_n hx hb dL_law_488 rfl (lv_at hl 2 rfl) ?_
  refine lv_aload_n hx hb dL_law_489 rfl (lv_at hl 0 rfl) ?_
  refine lv_iload_n hx hb dL_law_490 rfl (lv_at hl 3 rfl) ?_
  refine lv_iconst (v := (1 : Int32)) hx hb dL_law_491 (by decide) ?_
  refine lv_iadd hx hb dL_law_492 ?_
  refine va_sld hx hb hX hbl hbA hW.2.2.2.1 h_1 dL_law_493 ?_
  refine lv_aload_n hx hb dL_law_494 rfl (lv_at hl 0 rfl) ?_
  refine lv_iload_n hx hb dL_law_495 rfl (lv_at hl 3 rfl) ?_
  refine lv_iconst (v := (2 : Int32)) hx hb dL_law_496 (by decide) ?_
  refine lv_iadd hx hb dL_law_497 ?_
  refine va_sld hx hb hX hbl hbA hW.2.2.2.1 h_2 dL_law_498 ?_
  refine g_cvi X hW (As := [.int (xs (x3 + (1 : Int32)).toNatClampNeg), .int (xs (x3 + (2 : Int32)).toNatClampNeg)]) (ws' := lawW G a E F M N) ckL_X7_quarrels (kcX7_quarrels (l := l) G (a 56) (a 57) (a 59) (a 58) (a 60) (a 61) (a 62) (a 63) (a 64) (a 65) (a 66) (a 67) (a 68) (a 69) (a 70) (a 71) (a 72) (a 73) (a 74) (xs (x3 + (1 : Int32)).toNatClampNeg) (xs (x3 + (2 : Int32)).toNatClampNeg) (M 0) (M 1) (M 2) (M 3) (M 4) (M 5) (M 6) (M 7) (M 8) (M 9) (N 0) (N 2) hq2) ⟨rfl, rfl, Nat.le_of_ble_eq_true rfl, Nat.le_of_ble_eq_true rfl⟩ [56, 57, 59] rfl rfl rfl rfl rfl rfl rfl hl.1 (Nat.le_of_ble_eq_true rfl) ⟨Nat.le_of_ble_eq_true rfl, Nat.le_of_ble_eq_true rfl⟩ dL_law_499 (fun H locs hW => ?_)
  refine lv_icmp_eq (tgt := 1333) hx hb dL_law_502 (by decide) (fun _ => ?_) (fun c => absurd rfl c)
  exact Hk _ _ _ _ hI H locs hW
set_option maxHeartbeats 16000000 in
set_option maxRecDepth 100000 in
theorem law_count {p : Program} {l : Launch} {e : Env} {s : State} {m : MethodId} {args : Array Value} {below : List Frame} {meth : Method} {c : Code} {G : Gt} {a : Nat → Nat} {b L : Nat} {xs : Nat → Int32} {Q : State → Prop} (X : Bx p s m args meth c code 4 lw_tbl RL ret) (hX : va_X b L xs s s.heap) (hbl : b < s.heap.size) (Inv : (Nat → Int32) → (Nat → Nat → Int32) → (Nat → Int32) → (Nat → Nat → Int32) → Prop) (hop : Op_count Inv) (E : Nat → Int32) (F : Nat → Nat → Int32) (M : Nat → Int32) (N : Nat → Nat → Int32) (hI : Inv E F M N) (x3 : Int32) (h_1 : vp_in (x3 + (1 : Int32)) L) (h_2 : vp_in (x3 + (2 : Int32)) L) (h_3 : vp_in (x3 + (3 : Int32)) L) (h_4 : vp_in (x3 + (4 : Int32)) L) (h_5 : vp_in (x3 + (5 : Int32)) L) (h_6 : vp_in (x3 + (6 : Int32)) L) (H : Heap) (locs : List Loc) (hW : Wo G (fun q : Nat => s.heap.size ≤ q) s (lawW G a E F M N) H locs) (ls : Array Slot) (hl : lv_has ls 4 [(0, .ref b), (1, .ref (a 0)), (2, .ref (a 56)), (3, .int x3)]) (Hk : ∀ (E : Nat → Int32) (F : Nat → Nat → Int32) (M : Nat → Int32) (N : Nat → Nat → Int32), Inv E F M N → ∀ (H : Heap) (locs : List Loc), Wo G (fun q : Nat => s.heap.size ≤ q) s (lawW G a E F M N) H locs → W p l e room_1 s m args below meth c H locs 600000 7302250 Q (F0 m 1333 ls [])) : W p l e room_1 s m args below meth c H locs 600000 7302250 Q (F0 m 507 ls []) := by
  obtain ⟨hx, hb, -⟩ := id X.1
  have hbA : ¬ (fun q : Nat => s.heap.size ≤ q) b := Nat.not_le.mpr hbl
  refine lv_aload_n hx hb dL_law_507 rfl (lv_at hl 1 rfl) ?_
  refine lv_aload_n hx hb dL_law_508 rfl (lv_at hl 0 rfl) ?_
  refine lv_iload_n hx hb dL_law_509 rfl (lv_at hl 3 rfl) ?_
  refine lv_iconst (v := (1 : Int32)) hx hb dL_law_510 (by decide) ?_
  refine lv_iadd hx hb dL_law_511 ?_
  refine va_sld hx hb hX hbl hbA hW.2.2.2.1 h_1 dL_law_512 ?_
  obtain ⟨r, hq, hq2, hI⟩ := hop E F M N (xs (x3 + (1 : Int32)).toNatClampNeg) hI
  refine g_cvi X hW (As := [.int (xs (x3 + (1 : Int32)).toNatClampNeg)]) (ws' := lawW G a E F M N) ckL_X6_count (kcX6_count (l := l) G (a 0) (a 1) (a 2) (a 3) (a 4) (a 5) (a 20) (a 39) (a 41) (a 43) (a 52) (a 6) (a 8) (a 10) (a 12) (a 14) (a 16) (a 18) (xs (x3 + (1 : Int32)).toNatClampNeg) (E 0) (E 1) (E 2) (E 3) (E 4) (E 5) (E 6) (F 0) (E 7) (F 1) hq) ⟨rfl, rfl, Nat.le_of_ble_eq_true rfl, Nat.le_of_ble_eq_true rfl⟩ [0, 1, 2, 3, 4, 5] rfl rfl rfl rfl rfl rfl rfl hl.1 (Nat.le_of_ble_eq_true rfl) ⟨Nat.le_of_ble_eq_true rfl, Nat.le_of_ble_eq_true rfl⟩ dL_law_513 (fun H locs hW => ?_)
  refine lv_aload_n hx hb dL_law_516 rfl (lv_at hl 2 rfl) ?_
  refine lv_aload_n hx hb dL_law_517 rfl (lv_at hl 0 rfl) ?_
  refine lv_iload_n hx hb dL_law_518 rfl (lv_at hl 3 rfl) ?_
  refine lv_iconst (v := (1 : Int32)) hx hb dL_law_519 (by decide) ?_
  refine lv_iadd hx hb dL_law_520 ?_
  refine va_sld hx hb hX hbl hbA hW.2.2.2.1 h_1 dL_law_521 ?_
  refine g_cvi X hW (As := [.int (xs (x3 + (1 : Int32)).toNatClampNeg)]) (ws' := lawW G a E F M N) ckL_X7_count (kcX7_count (l := l) G (a 56) (a 57) (a 58) (a 59) (a 60) (a 61) (a 62) (a 63) (a 64) (a 65) (a 66) (a 67) (a 68) (a 69) (a 70) (a 71) (a 72) (a 73) (a 74) (xs (x3 + (1 : Int32)).toNatClampNeg) (M 0) (M 1) (M 2) (M 3) (M 4) (M 5) (M 6) (M 7) (M 8) (M 9) (N 0) (N 1) (N 2) hq2) ⟨rfl, rfl, Nat.le_of_ble_eq_true rfl, Nat.le_of_ble_eq_true rfl⟩ [56, 57, 58, 59] rfl rfl rfl rfl rfl rfl rfl hl.1 (Nat.le_of_ble_eq_true rfl) ⟨Nat.le_of_ble_eq_true rfl, Nat.le_of_ble_eq_true rfl⟩ dL_law_522 (fun H locs hW => ?_)
  refine lv_icmp_eq (tgt := 1333) hx hb dL_law_525 (by decide) (fun _ => ?_) (fun c => absurd rfl c)
  exact Hk _ _ _ _ hI H locs hW
set_option maxHeartbeats 16000000 in
set_option maxRecDepth 100000 in
theorem law_week {p : Program} {l : Launch} {e : Env} {s : State} {m : MethodId} {args : Array Value} {below : List Frame} {meth : Method} {c : Code} {G : Gt} {a : Nat → Nat} {b L : Nat} {xs : Nat → Int32} {Q : State → Prop} (X : Bx p s m args meth c code 4 lw_tbl RL ret) (hX : va_X b L xs s s.heap) (hbl : b < s.heap.size) (Inv : (Nat → Int32) → (Nat → Nat → Int32) → (Nat → Int32) → (Nat → Nat → Int32) → Prop) (hop : Op_week Inv) (E : Nat → Int32) (F : Nat → Nat → Int32) (M : Nat → Int32) (N : Nat → Nat → Int32) (hI : Inv E F M N) (x3 : Int32) (h_1 : vp_in (x3 + (1 : Int32)) L) (h_2 : vp_in (x3 + (2 : Int32)) L) (h_3 : vp_in (x3 + (3 : Int32)) L) (h_4 : vp_in (x3 + (4 : Int32)) L) (h_5 : vp_in (x3 + (5 : Int32)) L) (h_6 : vp_in (x3 + (6 : Int32)) L) (H : Heap) (locs : List Loc) (hW : Wo G (fun q : Nat => s.heap.size ≤ q) s (lawW G a E F M N) H locs) (ls : Array Slot) (hl : lv_has ls 4 [(0, .ref b), (1, .ref (a 0)), (2, .ref (a 56)), (3, .int x3)]) (Hk : ∀ (E : Nat → Int32) (F : Nat → Nat → Int32) (M : Nat → Int32) (N : Nat → Nat → Int32), Inv E F M N → ∀ (H : Heap) (locs : List Loc), Wo G (fun q : Nat => s.heap.size ≤ q) s (lawW G a E F M N) H locs → W p l e room_1 s m args below meth c H locs 600000 7302250 Q (F0 m 1333 ls [])) : W p l e room_1 s m args below meth c H locs 600000 7302250 Q (F0 m 530 ls []) := by
  obtain ⟨hx, hb, -⟩ := id X.1
  have hbA : ¬ (fun q : Nat => s.heap.size ≤ q) b := Nat.not_le.mpr hbl
  refine lv_aload_n hx hb dL_law_530 rfl (lv_at hl 1 rfl) ?_
  refine lv_aload_n hx hb dL_law_531 rfl (lv_at hl 0 rfl) ?_
  refine lv_iload_n hx hb dL_law_532 rfl (lv_at hl 3 rfl) ?_
  refine lv_iconst (v := (1 : Int32)) hx hb dL_law_533 (by decide) ?_
  refine lv_iadd hx hb dL_law_534 ?_
  refine va_sld hx hb hX hbl hbA hW.2.2.2.1 h_1 dL_law_535 ?_
  refine lv_aload_n hx hb dL_law_536 rfl (lv_at hl 0 rfl) ?_
  refine lv_iload_n hx hb dL_law_537 rfl (lv_at hl 3 rfl) ?_
  refine lv_iconst (v := (2 : Int32)) hx hb dL_law_538 (by decide) ?_
  refine lv_iadd hx hb dL_law_539 ?_
  refine va_sld hx hb hX hbl hbA hW.2.2.2.1 h_2 dL_law_540 ?_
  refine lv_aload_n hx hb dL_law_541 rfl (lv_at hl 0 rfl) ?_
  refine lv_iload_n hx hb dL_law_542 rfl (lv_at hl 3 rfl) ?_
  refine lv_iconst (v := (3 : Int32)) hx hb dL_law_543 (by decide) ?_
  refine lv_iadd hx hb dL_law_544 ?_
  refine va_sld hx hb hX hbl hbA hW.2.2.2.1 h_3 dL_law_545 ?_
  refine lv_aload_n hx hb dL_law_546 rfl (lv_at hl 0 rfl) ?_
  refine lv_iload_n hx hb dL_law_547 rfl (lv_at hl 3 rfl) ?_
  refine lv_iconst (v := (4 : Int32)) hx hb dL_law_548 (by decide) ?_
  refine lv_iadd hx hb dL_law_549 ?_
  refine va_sld hx hb hX hbl hbA hW.2.2.2.1 h_4 dL_law_550 ?_
  obtain ⟨r, z_planStands, z_weeks_f, yz_m_weeks, hq, hq2, hI⟩ := hop E F M N (xs (x3 + (1 : Int32)).toNatClampNeg) (xs (x3 + (2 : Int32)).toNatClampNeg) (xs (x3 + (3 : Int32)).toNatClampNeg) (xs (x3 + (4 : Int32)).toNatClampNeg) hI
  refine g_cvi X hW (As := [.int (xs (x3 + (1 : Int32)).toNatClampNeg), .int (xs (x3 + (2 : Int32)).toNatClampNeg), .int (xs (x3 + (3 : Int32)).toNatClampNeg), .int (xs (x3 + (4 : Int32)).toNatClampNeg)]) (ws' := lawW G a (va_up E 1 z_planStands) (va_up F 2 z_weeks_f) M N) ckL_X6_week (kcX6_week (l := l) G (a 0) (a 1) (a 6) (a 7) (a 20) (a 39) (a 41) (a 43) (a 52) (a 2) (a 4) (a 8) (a 10) (a 12) (a 14) (a 16) (a 18) (xs (x3 + (1 : Int32)).toNatClampNeg) (xs (x3 + (2 : Int32)).toNatClampNeg) (xs (x3 + (3 : Int32)).toNatClampNeg) (xs (x3 + (4 : Int32)).toNatClampNeg) (E 0) (E 1) (E 2) (E 3) (E 4) (E 5) (E 8) (F 2) hq) ⟨rfl, rfl, Nat.le_of_ble_eq_true rfl, Nat.le_of_ble_eq_true rfl⟩ [0, 1, 6, 7] rfl rfl rfl rfl rfl rfl rfl hl.1 (Nat.le_of_ble_eq_true rfl) ⟨Nat.le_of_ble_eq_true rfl, Nat.le_of_ble_eq_true rfl⟩ dL_law_551 (fun H locs hW => ?_)
  refine lv_aload_n hx hb dL_law_554 rfl (lv_at hl 2 rfl) ?_
  refine lv_aload_n hx hb dL_law_555 rfl (lv_at hl 0 rfl) ?_
  refine lv_iload_n hx hb dL_law_556 rfl (lv_at hl 3 rfl) ?_
  refine lv_iconst (v := (1 : Int32)) hx hb dL_law_557 (by decide) ?_
  refine lv_iadd hx hb dL_law_558 ?_
  refine va_sld hx hb hX hbl hbA hW.2.2.2.1 h_1 dL_law_559 ?_
  refine lv_aload_n hx hb dL_law_560 rfl (lv_at hl 0 rfl) ?_
  refine lv_iload_n hx hb dL_law_561 rfl (lv_at hl 3 rfl) ?_
  refine lv_iconst (v := (2 : Int32)) hx hb dL_law_562 (by decide) ?_
  refine lv_iadd hx hb dL_law_563 ?_
  refine va_sld hx hb hX hbl hbA hW.2.2.2.1 h_2 dL_law_564 ?_
  refine lv_aload_n hx hb dL_law_565 rfl (lv_at hl 0 rfl) ?_
  refine lv_iload_n hx hb dL_law_566 rfl (lv_at hl 3 rfl) ?_
  refine lv_iconst (v := (3 : Int32)) hx hb dL_law_567 (by decide) ?_
  refine lv_iadd hx hb dL_law_568 ?_
  refine va_sld hx hb hX hbl hbA hW.2.2.2.1 h_3 dL_law_569 ?_
  refine lv_aload_n hx hb dL_law_570 rfl (lv_at hl 0 rfl) ?_
  refine lv_iload_n hx hb dL_law_571 rfl (lv_at hl 3 rfl) ?_
  refine lv_iconst (v := (4 : Int32)) hx hb dL_law_572 (by decide) ?_
  refine lv_iadd hx hb dL_law_573 ?_
  refine va_sld hx hb hX hbl hbA hW.2.2.2.1 h_4 dL_law_574 ?_
  refine g_cvi X hW (As := [.int (xs (x3 + (1 : Int32)).toNatClampNeg), .int (xs (x3 + (2 : Int32)).toNatClampNeg), .int (xs (x3 + (3 : Int32)).toNatClampNeg), .int (xs (x3 + (4 : Int32)).toNatClampNeg)]) (ws' := lawW G a (va_up E 1 z_planStands) (va_up F 2 z_weeks_f) M (va_up N 3 yz_m_weeks)) ckL_X7_week (kcX7_week (l := l) G (a 56) (a 60) (a 57) (a 58) (a 59) (a 61) (a 62) (a 63) (a 64) (a 65) (a 66) (a 67) (a 68) (a 69) (a 70) (a 71) (a 72) (a 73) (a 74) (xs (x3 + (1 : Int32)).toNatClampNeg) (xs (x3 + (2 : Int32)).toNatClampNeg) (xs (x3 + (3 : Int32)).toNatClampNeg) (xs (x3 + (4 : Int32)).toNatClampNeg) (M 0) (M 1) (M 2) (M 3) (M 4) (M 5) (M 6) (M 7) (M 8) (M 9) (N 3) hq2) ⟨rfl, rfl, Nat.le_of_ble_eq_true rfl, Nat.le_of_ble_eq_true rfl⟩ [56, 60] rfl rfl rfl rfl rfl rfl rfl hl.1 (Nat.le_of_ble_eq_true rfl) ⟨Nat.le_of_ble_eq_true rfl, Nat.le_of_ble_eq_true rfl⟩ dL_law_575 (fun H locs hW => ?_)
  refine lv_icmp_eq (tgt := 1333) hx hb dL_law_578 (by decide) (fun _ => ?_) (fun c => absurd rfl c)
  exact Hk _ _ _ _ hI H locs hW
set_option maxHeartbeats 16000000 in
set_option maxRecDepth 100000 in
theorem law_route {p : Program} {l : Launch} {e : Env} {s : State} {m : MethodId} {args : Array Value} {below : List Frame} {meth : Method} {c : Code} {G : Gt} {a : Nat → Nat} {b L : Nat} {xs : Nat → Int32} {Q : State → Prop} (X : Bx p s m args meth c code 4 lw_tbl RL ret) (hX : va_X b L xs s s.heap) (hbl : b < s.heap.size) (Inv : (Nat → Int32) → (Nat → Nat → Int32) → (Nat → Int32) → (Nat → Nat → Int32) → Prop) (hop : Op_route Inv) (E : Nat → Int32) (F : Nat → Nat → Int32) (M : Nat → Int32) (N : Nat → Nat → Int32) (hI : Inv E F M N) (x3 : Int32) (h_1 : vp_in (x3 + (1 : Int32)) L) (h_2 : vp_in (x3 + (2 : Int32)) L) (h_3 : vp_in (x3 + (3 : Int32)) L) (h_4 : vp_in (x3 + (4 : Int32)) L) (h_5 : vp_in (x3 + (5 : Int32)) L) (h_6 : vp_in (x3 + (6 : Int32)) L) (H : Heap) (locs : List Loc) (hW : Wo G (fun q : Nat => s.heap.size ≤ q) s (lawW G a E F M N) H locs) (ls : Array Slot) (hl : lv_has ls 4 [(0, .ref b), (1, .ref (a 0)), (2, .ref (a 56)), (3, .int x3)]) (Hk : ∀ (E : Nat → Int32) (F : Nat → Nat → Int32) (M : Nat → Int32) (N : Nat → Nat → Int32), Inv E F M N → ∀ (H : Heap) (locs : List Loc), Wo G (fun q : Nat => s.heap.size ≤ q) s (lawW G a E F M N) H locs → W p l e room_1 s m args below meth c H locs 600000 7302250 Q (F0 m 1333 ls [])) : W p l e room_1 s m args below meth c H locs 600000 7302250 Q (F0 m 583 ls []) := by
  obtain ⟨hx, hb, -⟩ := id X.1
  have hbA : ¬ (fun q : Nat => s.heap.size ≤ q) b := Nat.not_le.mpr hbl
  refine lv_aload_n hx hb dL_law_583 rfl (lv_at hl 1 rfl) ?_
  refine lv_aload_n hx hb dL_law_584 rfl (lv_at hl 0 rfl) ?_
  refine lv_iload_n hx hb dL_law_585 rfl (lv_at hl 3 rfl) ?_
  refine lv_iconst (v := (1 : Int32)) hx hb dL_law_586 (by decide) ?_
  refine lv_iadd hx hb dL_law_587 ?_
  refine va_sld hx hb hX hbl hbA hW.2.2.2.1 h_1 dL_law_588 ?_
  refine lv_aload_n hx hb dL_law_589 rfl (lv_at hl 0 rfl) ?_
  refine lv_iload_n hx hb dL_law_590 rfl (lv_at hl 3 rfl) ?_
  refine lv_iconst (v := (2 : Int32)) hx hb dL_law_591 (by decide) ?_
  refine lv_iadd hx hb dL_law_592 ?_
  refine va_sld hx hb hX hbl hbA hW.2.2.2.1 h_2 dL_law_593 ?_
  refine lv_aload_n hx hb dL_law_594 rfl (lv_at hl 0 rfl) ?_
  refine lv_iload_n hx hb dL_law_595 rfl (lv_at hl 3 rfl) ?_
  refine lv_iconst (v := (3 : Int32)) hx hb dL_law_596 (by decide) ?_
  refine lv_iadd hx hb dL_law_597 ?_
  refine va_sld hx hb hX hbl hbA hW.2.2.2.1 h_3 dL_law_598 ?_
  refine lv_aload_n hx hb dL_law_599 rfl (lv_at hl 0 rfl) ?_
  refine lv_iload_n hx hb dL_law_600 rfl (lv_at hl 3 rfl) ?_
  refine lv_iconst (v := (4 : Int32)) hx hb dL_law_601 (by decide) ?_
  refine lv_iadd hx hb dL_law_602 ?_
  refine va_sld hx hb hX hbl hbA hW.2.2.2.1 h_4 dL_law_603 ?_
  obtain ⟨r, z_planStands, z_routes_r, z_routes_f, yz_m_numbers, yz_m_routes, hq, hq2, hI⟩ := hop E F M N (xs (x3 + (1 : Int32)).toNatClampNeg) (xs (x3 + (2 : Int32)).toNatClampNeg) (xs (x3 + (3 : Int32)).toNatClampNeg) (xs (x3 + (4 : Int32)).toNatClampNeg) hI
  refine g_cvi X hW (As := [.int (xs (x3 + (1 : Int32)).toNatClampNeg), .int (xs (x3 + (2 : Int32)).toNatClampNeg), .int (xs (x3 + (3 : Int32)).toNatClampNeg), .int (xs (x3 + (4 : Int32)).toNatClampNeg)]) (ws' := lawW G a (va_up (va_up E 1 z_planStands) 9 z_routes_r) (va_up F 3 z_routes_f) M N) ckL_X6_route (kcX6_route (l := l) G (a 0) (a 1) (a 8) (a 9) (a 20) (a 39) (a 41) (a 43) (a 52) (a 2) (a 4) (a 6) (a 10) (a 12) (a 14) (a 16) (a 18) (xs (x3 + (1 : Int32)).toNatClampNeg) (xs (x3 + (2 : Int32)).toNatClampNeg) (xs (x3 + (3 : Int32)).toNatClampNeg) (xs (x3 + (4 : Int32)).toNatClampNeg) (E 0) (E 1) (E 2) (E 3) (E 4) (E 5) (E 9) (F 3) hq) ⟨rfl, rfl, Nat.le_of_ble_eq_true rfl, Nat.le_of_ble_eq_true rfl⟩ [0, 1, 8, 9] rfl rfl rfl rfl rfl rfl rfl hl.1 (Nat.le_of_ble_eq_true rfl) ⟨Nat.le_of_ble_eq_true rfl, Nat.le_of_ble_eq_true rfl⟩ dL_law_604 (fun H locs hW => ?_)
  refine lv_aload_n hx hb dL_law_607 rfl (lv_at hl 2 rfl) ?_
  refine lv_aload_n hx hb dL_law_608 rfl (lv_at hl 0 rfl) ?_
  refine lv_iload_n hx hb dL_law_609 rfl (lv_at hl 3 rfl) ?_
  refine lv_iconst (v := (1 : Int32)) hx hb dL_law_610 (by decide) ?_
  refine lv_iadd hx hb dL_law_611 ?_
  refine va_sld hx hb hX hbl hbA hW.2.2.2.1 h_1 dL_law_612 ?_
  refine lv_aload_n hx hb dL_law_613 rfl (lv_at hl 0 rfl) ?_
  refine lv_iload_n hx hb dL_law_614 rfl (lv_at hl 3 rfl) ?_
  refine lv_iconst (v := (2 : Int32)) hx hb dL_law_615 (by decide) ?_
  refine lv_iadd hx hb dL_law_616 ?_
  refine va_sld hx hb hX hbl hbA hW.2.2.2.1 h_2 dL_law_617 ?_
  refine lv_aload_n hx hb dL_law_618 rfl (lv_at hl 0 rfl) ?_
  refine lv_iload_n hx hb dL_law_619 rfl (lv_at hl 3 rfl) ?_
  refine lv_iconst (v := (3 : Int32)) hx hb dL_law_620 (by decide) ?_
  refine lv_iadd hx hb dL_law_621 ?_
  refine va_sld hx hb hX hbl hbA hW.2.2.2.1 h_3 dL_law_622 ?_
  refine lv_aload_n hx hb dL_law_623 rfl (lv_at hl 0 rfl) ?_
  refine lv_iload_n hx hb dL_law_624 rfl (lv_at hl 3 rfl) ?_
  refine lv_iconst (v := (4 : Int32)) hx hb dL_law_625 (by decide) ?_
  refine lv_iadd hx hb dL_law_626 ?_
  refine va_sld hx hb hX hbl hbA hW.2.2.2.1 h_4 dL_law_627 ?_
  refine g_cvi X hW (As := [.int (xs (x3 + (1 : Int32)).toNatClampNeg), .int (xs (x3 + (2 : Int32)).toNatClampNeg), .int (xs (x3 + (3 : Int32)).toNatClampNeg), .int (xs (x3 + (4 : Int32)).toNatClampNeg)]) (ws' := lawW G a (va_up (va_up E 1 z_planStands) 9 z_routes_r) (va_up F 3 z_routes_f) M (va_up (va_up N 0 yz_m_numbers) 4 yz_m_routes)) ckL_X7_route (kcX7_route (l := l) G (a 56) (a 57) (a 61) (a 58) (a 59) (a 60) (a 62) (a 63) (a 64) (a 65) (a 66) (a 67) (a 68) (a 69) (a 70) (a 71) (a 72) (a 73) (a 74) (xs (x3 + (1 : Int32)).toNatClampNeg) (xs (x3 + (2 : Int32)).toNatClampNeg) (xs (x3 + (3 : Int32)).toNatClampNeg) (xs (x3 + (4 : Int32)).toNatClampNeg) (M 0) (M 1) (M 2) (M 3) (M 4) (M 5) (M 6) (M 7) (M 8) (M 9) (N 0) (N 4) hq2) ⟨rfl, rfl, Nat.le_of_ble_eq_true rfl, Nat.le_of_ble_eq_true rfl⟩ [56, 57, 61] rfl rfl rfl rfl rfl rfl rfl hl.1 (Nat.le_of_ble_eq_true rfl) ⟨Nat.le_of_ble_eq_true rfl, Nat.le_of_ble_eq_true rfl⟩ dL_law_628 (fun H locs hW => ?_)
  refine lv_icmp_eq (tgt := 1333) hx hb dL_law_631 (by decide) (fun _ => ?_) (fun c => absurd rfl c)
  exact Hk _ _ _ _ hI H locs hW
set_option maxHeartbeats 16000000 in
set_option maxRecDepth 100000 in
theorem law_lack {p : Program} {l : Launch} {e : Env} {s : State} {m : MethodId} {args : Array Value} {below : List Frame} {meth : Method} {c : Code} {G : Gt} {a : Nat → Nat} {b L : Nat} {xs : Nat → Int32} {Q : State → Prop} (X : Bx p s m args meth c code 4 lw_tbl RL ret) (hX : va_X b L xs s s.heap) (hbl : b < s.heap.size) (Inv : (Nat → Int32) → (Nat → Nat → Int32) → (Nat → Int32) → (Nat → Nat → Int32) → Prop) (hop : Op_lack Inv) (E : Nat → Int32) (F : Nat → Nat → Int32) (M : Nat → Int32) (N : Nat → Nat → Int32) (hI : Inv E F M N) (x3 : Int32) (h_1 : vp_in (x3 + (1 : Int32)) L) (h_2 : vp_in (x3 + (2 : Int32)) L) (h_3 : vp_in (x3 + (3 : Int32)) L) (h_4 : vp_in (x3 + (4 : Int32)) L) (h_5 : vp_in (x3 + (5 : Int32)) L) (h_6 : vp_in (x3 + (6 : Int32)) L) (H : Heap) (locs : List Loc) (hW : Wo G (fun q : Nat => s.heap.size ≤ q) s (lawW G a E F M N) H locs) (ls : Array Slot) (hl : lv_has ls 4 [(0, .ref b), (1, .ref (a 0)), (2, .ref (a 56)), (3, .int x3)]) (Hk : ∀ (E : Nat → Int32) (F : Nat → Nat → Int32) (M : Nat → Int32) (N : Nat → Nat → Int32), Inv E F M N → ∀ (H : Heap) (locs : List Loc), Wo G (fun q : Nat => s.heap.size ≤ q) s (lawW G a E F M N) H locs → W p l e room_1 s m args below meth c H locs 600000 7302250 Q (F0 m 1333 ls [])) : W p l e room_1 s m args below meth c H locs 600000 7302250 Q (F0 m 636 ls []) := by
  obtain ⟨hx, hb, -⟩ := id X.1
  have hbA : ¬ (fun q : Nat => s.heap.size ≤ q) b := Nat.not_le.mpr hbl
  refine lv_aload_n hx hb dL_law_636 rfl (lv_at hl 1 rfl) ?_
  refine lv_aload_n hx hb dL_law_637 rfl (lv_at hl 0 rfl) ?_
  refine lv_iload_n hx hb dL_law_638 rfl (lv_at hl 3 rfl) ?_
  refine lv_iconst (v := (1 : Int32)) hx hb dL_law_639 (by decide) ?_
  refine lv_iadd hx hb dL_law_640 ?_
  refine va_sld hx hb hX hbl hbA hW.2.2.2.1 h_1 dL_law_641 ?_
  obtain ⟨r, z_planStands, z_lack, yz_m_numbers, hq, hq2, hI⟩ := hop E F M N (xs (x3 + (1 : Int32)).toNatClampNeg) hI
  refine g_cvi X hW (As := [.int (xs (x3 + (1 : Int32)).toNatClampNeg)]) (ws' := lawW G a (va_up (va_up E 1 z_planStands) 3 z_lack) F M N) ckL_X6_lack (kcX6_lack (l := l) G (a 0) (a 1) (a 20) (a 39) (a 41) (a 43) (a 52) (a 2) (a 4) (a 6) (a 8) (a 10) (a 12) (a 14) (a 16) (a 18) (xs (x3 + (1 : Int32)).toNatClampNeg) (E 0) (E 1) (E 2) (E 3) (E 4) (E 5) hq) ⟨rfl, rfl, Nat.le_of_ble_eq_true rfl, Nat.le_of_ble_eq_true rfl⟩ [0, 1] rfl rfl rfl rfl rfl rfl rfl hl.1 (Nat.le_of_ble_eq_true rfl) ⟨Nat.le_of_ble_eq_true rfl, Nat.le_of_ble_eq_true rfl⟩ dL_law_642 (fun H locs hW => ?_)
  refine lv_aload_n hx hb dL_law_645 rfl (lv_at hl 2 rfl) ?_
  refine lv_aload_n hx hb dL_law_646 rfl (lv_at hl 0 rfl) ?_
  refine lv_iload_n hx hb dL_law_647 rfl (lv_at hl 3 rfl) ?_
  refine lv_iconst (v := (1 : Int32)) hx hb dL_law_648 (by decide) ?_
  refine lv_iadd hx hb dL_law_649 ?_
  refine va_sld hx hb hX hbl hbA hW.2.2.2.1 h_1 dL_law_650 ?_
  refine g_cvi X hW (As := [.int (xs (x3 + (1 : Int32)).toNatClampNeg)]) (ws' := lawW G a (va_up (va_up E 1 z_planStands) 3 z_lack) F M (va_up N 0 yz_m_numbers)) ckL_X7_lack (kcX7_lack (l := l) G (a 56) (a 57) (a 58) (a 59) (a 60) (a 61) (a 62) (a 63) (a 64) (a 65) (a 66) (a 67) (a 68) (a 69) (a 70) (a 71) (a 72) (a 73) (a 74) (xs (x3 + (1 : Int32)).toNatClampNeg) (M 0) (M 1) (M 2) (M 3) (M 4) (M 5) (M 6) (M 7) (M 8) (M 9) (N 0) hq2) ⟨rfl, rfl, Nat.le_of_ble_eq_true rfl, Nat.le_of_ble_eq_true rfl⟩ [56, 57] rfl rfl rfl rfl rfl rfl rfl hl.1 (Nat.le_of_ble_eq_true rfl) ⟨Nat.le_of_ble_eq_true rfl, Nat.le_of_ble_eq_true rfl⟩ dL_law_651 (fun H locs hW => ?_)
  refine lv_icmp_eq (tgt := 1333) hx hb dL_law_654 (by decide) (fun _ => ?_) (fun c => absurd rfl c)
  exact Hk _ _ _ _ hI H locs hW
set_option maxHeartbeats 16000000 in
set_option maxRecDepth 100000 in
theorem law_least {p : Program} {l : Launch} {e : Env} {s : State} {m : MethodId} {args : Array Value} {below : List Frame} {meth : Method} {c : Code} {G : Gt} {a : Nat → Nat} {b L : Nat} {xs : Nat → Int32} {Q : State → Prop} (X : Bx p s m args meth c code 4 lw_tbl RL ret) (hX : va_X b L xs s s.heap) (hbl : b < s.heap.size) (Inv : (Nat → Int32) → (Nat → Nat → Int32) → (Nat → Int32) → (Nat → Nat → Int32) → Prop) (hop : Op_least Inv) (E : Nat → Int32) (F : Nat → Nat → Int32) (M : Nat → Int32) (N : Nat → Nat → Int32) (hI : Inv E F M N) (x3 : Int32) (h_1 : vp_in (x3 + (1 : Int32)) L) (h_2 : vp_in (x3 + (2 : Int32)) L) (h_3 : vp_in (x3 + (3 : Int32)) L) (h_4 : vp_in (x3 + (4 : Int32)) L) (h_5 : vp_in (x3 + (5 : Int32)) L) (h_6 : vp_in (x3 + (6 : Int32)) L) (H : Heap) (locs : List Loc) (hW : Wo G (fun q : Nat => s.heap.size ≤ q) s (lawW G a E F M N) H locs) (ls : Array Slot) (hl : lv_has ls 4 [(0, .ref b), (1, .ref (a 0)), (2, .ref (a 56)), (3, .int x3)]) (Hk : ∀ (E : Nat → Int32) (F : Nat → Nat → Int32) (M : Nat → Int32) (N : Nat → Nat → Int32), Inv E F M N → ∀ (H : Heap) (locs : List Loc), Wo G (fun q : Nat => s.heap.size ≤ q) s (lawW G a E F M N) H locs → W p l e room_1 s m args below meth c H locs 600000 7302250 Q (F0 m 1333 ls [])) : W p l e room_1 s m args below meth c H locs 600000 7302250 Q (F0 m 659 ls []) := by
  obtain ⟨hx, hb, -⟩ := id X.1
  have hbA : ¬ (fun q : Nat => s.heap.size ≤ q) b := Nat.not_le.mpr hbl
  refine lv_aload_n hx hb dL_law_659 rfl (lv_at hl 1 rfl) ?_
  obtain ⟨r, z_planStands, z_pl_arcs, z_pl_lack, z_pl_least, z_pl_start, z_pl_end, z_pl_cost, z_pl_room, z_pl_idle, z_pl_unmet, z_pl_gain, z_pl_way, yz_m_arcs, yz_m_arcFrom, yz_m_arcTo, yz_m_arcRoom, yz_m_arcCost, yz_m_far, yz_m_by, hq, hq2, hI⟩ := hop E F M N  hI
  refine g_cvi X hW (As := []) (ws' := lawW G a (va_up (va_up (va_up (va_up E 1 z_planStands) 33 z_pl_arcs) 34 z_pl_lack) 35 z_pl_least) (va_up (va_up (va_up (va_up (va_up (va_up (va_up (va_up F 20 z_pl_start) 21 z_pl_end) 22 z_pl_cost) 23 z_pl_room) 24 z_pl_idle) 25 z_pl_unmet) 26 z_pl_gain) 27 z_pl_way) M N) ckL_X6_least (kcX6_least (l := l) G (a 0) (a 1) (a 6) (a 7) (a 8) (a 9) (a 43) (a 44) (a 45) (a 46) (a 47) (a 48) (a 49) (a 50) (a 51) (a 20) (a 39) (a 41) (a 52) (a 2) (a 4) (a 10) (a 12) (a 14) (a 16) (a 18) (E 0) (E 1) (E 2) (E 3) (E 4) (E 5) (E 8) (F 2) (E 9) (F 3) (E 33) (E 34) (E 35) (F 20) (F 21) (F 22) (F 23) (F 24) (F 25) (F 26) (F 27) hq) ⟨rfl, rfl, Nat.le_of_ble_eq_true rfl, Nat.le_of_ble_eq_true rfl⟩ [0, 1, 6, 7, 8, 9, 43, 44, 45, 46, 47, 48, 49, 50, 51] rfl rfl rfl rfl rfl rfl rfl hl.1 (Nat.le_of_ble_eq_true rfl) ⟨Nat.le_of_ble_eq_true rfl, Nat.le_of_ble_eq_true rfl⟩ dL_law_660 (fun H locs hW => ?_)
  refine lv_aload_n hx hb dL_law_663 rfl (lv_at hl 2 rfl) ?_
  refine g_cvi X hW (As := []) (ws' := lawW G a (va_up (va_up (va_up (va_up E 1 z_planStands) 33 z_pl_arcs) 34 z_pl_lack) 35 z_pl_least) (va_up (va_up (va_up (va_up (va_up (va_up (va_up (va_up F 20 z_pl_start) 21 z_pl_end) 22 z_pl_cost) 23 z_pl_room) 24 z_pl_idle) 25 z_pl_unmet) 26 z_pl_gain) 27 z_pl_way) (va_up M 0 yz_m_arcs) (va_up (va_up (va_up (va_up (va_up (va_up N 9 yz_m_arcFrom) 10 yz_m_arcTo) 11 yz_m_arcRoom) 12 yz_m_arcCost) 13 yz_m_far) 14 yz_m_by)) ckL_X7_least (kcX7_least (l := l) G (a 56) (a 57) (a 60) (a 61) (a 66) (a 67) (a 68) (a 69) (a 70) (a 71) (a 58) (a 59) (a 62) (a 63) (a 64) (a 65) (a 72) (a 73) (a 74) (M 0) (M 1) (M 2) (M 3) (M 4) (M 5) (M 6) (M 7) (M 8) (M 9) (N 0) (N 3) (N 4) (N 9) (N 10) (N 11) (N 12) (N 13) (N 14) hq2) ⟨rfl, rfl, Nat.le_of_ble_eq_true rfl, Nat.le_of_ble_eq_true rfl⟩ [56, 57, 60, 61, 66, 67, 68, 69, 70, 71] rfl rfl rfl rfl rfl rfl rfl hl.1 (Nat.le_of_ble_eq_true rfl) ⟨Nat.le_of_ble_eq_true rfl, Nat.le_of_ble_eq_true rfl⟩ dL_law_664 (fun H locs hW => ?_)
  refine lv_icmp_eq (tgt := 1333) hx hb dL_law_667 (by decide) (fun _ => ?_) (fun c => absurd rfl c)
  exact Hk _ _ _ _ hI H locs hW
set_option maxHeartbeats 16000000 in
set_option maxRecDepth 100000 in
theorem law_worth {p : Program} {l : Launch} {e : Env} {s : State} {m : MethodId} {args : Array Value} {below : List Frame} {meth : Method} {c : Code} {G : Gt} {a : Nat → Nat} {b L : Nat} {xs : Nat → Int32} {Q : State → Prop} (X : Bx p s m args meth c code 4 lw_tbl RL ret) (hX : va_X b L xs s s.heap) (hbl : b < s.heap.size) (Inv : (Nat → Int32) → (Nat → Nat → Int32) → (Nat → Int32) → (Nat → Nat → Int32) → Prop) (hop : Op_worth Inv) (E : Nat → Int32) (F : Nat → Nat → Int32) (M : Nat → Int32) (N : Nat → Nat → Int32) (hI : Inv E F M N) (x3 : Int32) (h_1 : vp_in (x3 + (1 : Int32)) L) (h_2 : vp_in (x3 + (2 : Int32)) L) (h_3 : vp_in (x3 + (3 : Int32)) L) (h_4 : vp_in (x3 + (4 : Int32)) L) (h_5 : vp_in (x3 + (5 : Int32)) L) (h_6 : vp_in (x3 + (6 : Int32)) L) (H : Heap) (locs : List Loc) (hW : Wo G (fun q : Nat => s.heap.size ≤ q) s (lawW G a E F M N) H locs) (ls : Array Slot) (hl : lv_has ls 4 [(0, .ref b), (1, .ref (a 0)), (2, .ref (a 56)), (3, .int x3)]) (Hk : ∀ (E : Nat → Int32) (F : Nat → Nat → Int32) (M : Nat → Int32) (N : Nat → Nat → Int32), Inv E F M N → ∀ (H : Heap) (locs : List Loc), Wo G (fun q : Nat => s.heap.size ≤ q) s (lawW G a E F M N) H locs → W p l e room_1 s m args below meth c H locs 600000 7302250 Q (F0 m 1333 ls [])) : W p l e room_1 s m args below meth c H locs 600000 7302250 Q (F0 m 672 ls []) := by
  obtain ⟨hx, hb, -⟩ := id X.1
  have hbA : ¬ (fun q : Nat => s.heap.size ≤ q) b := Nat.not_le.mpr hbl
  refine lv_aload_n hx hb dL_law_672 rfl (lv_at hl 1 rfl) ?_
  refine lv_aload_n hx hb dL_law_673 rfl (lv_at hl 0 rfl) ?_
  refine lv_iload_n hx hb dL_law_674 rfl (lv_at hl 3 rfl) ?_
  refine lv_iconst (v := (1 : Int32)) hx hb dL_law_675 (by decide) ?_
  refine lv_iadd hx hb dL_law_676 ?_
  refine va_sld hx hb hX hbl hbA hW.2.2.2.1 h_1 dL_law_677 ?_
  refine lv_aload_n hx hb dL_law_678 rfl (lv_at hl 0 rfl) ?_
  refine lv_iload_n hx hb dL_law_679 rfl (lv_at hl 3 rfl) ?_
  refine lv_iconst (v := (2 : Int32)) hx hb dL_law_680 (by decide) ?_
  refine lv_iadd hx hb dL_law_681 ?_
  refine va_sld hx hb hX hbl hbA hW.2.2.2.1 h_2 dL_law_682 ?_
  obtain ⟨r, z_planStands, z_pl_arcs, z_pl_lack, z_pl_least, z_pl_start, z_pl_end, z_pl_cost, z_pl_room, z_pl_idle, z_pl_unmet, z_pl_gain, z_pl_way, yz_m_arcs, yz_m_arcFrom, yz_m_arcTo, yz_m_arcRoom, yz_m_arcCost, yz_m_far, yz_m_by, hq, hq2, hI⟩ := hop E F M N (xs (x3 + (1 : Int32)).toNatClampNeg) (xs (x3 + (2 : Int32)).toNatClampNeg) hI
  refine g_cvi X hW (As := [.int (xs (x3 + (1 : Int32)).toNatClampNeg), .int (xs (x3 + (2 : Int32)).toNatClampNeg)]) (ws' := lawW G a (va_up (va_up (va_up (va_up E 1 z_planStands) 33 z_pl_arcs) 34 z_pl_lack) 35 z_pl_least) (va_up (va_up (va_up (va_up (va_up (va_up (va_up (va_up F 20 z_pl_start) 21 z_pl_end) 22 z_pl_cost) 23 z_pl_room) 24 z_pl_idle) 25 z_pl_unmet) 26 z_pl_gain) 27 z_pl_way) M N) ckL_X6_worth (kcX6_worth (l := l) G (a 0) (a 1) (a 6) (a 7) (a 8) (a 9) (a 43) (a 44) (a 45) (a 46) (a 47) (a 48) (a 49) (a 50) (a 51) (a 20) (a 39) (a 41) (a 52) (a 2) (a 4) (a 10) (a 12) (a 14) (a 16) (a 18) (xs (x3 + (1 : Int32)).toNatClampNeg) (xs (x3 + (2 : Int32)).toNatClampNeg) (E 0) (E 1) (E 2) (E 3) (E 4) (E 5) (E 8) (F 2) (E 9) (F 3) (E 33) (E 34) (E 35) (F 20) (F 21) (F 22) (F 23) (F 24) (F 25) (F 26) (F 27) hq) ⟨rfl, rfl, Nat.le_of_ble_eq_true rfl, Nat.le_of_ble_eq_true rfl⟩ [0, 1, 6, 7, 8, 9, 43, 44, 45, 46, 47, 48, 49, 50, 51] rfl rfl rfl rfl rfl rfl rfl hl.1 (Nat.le_of_ble_eq_true rfl) ⟨Nat.le_of_ble_eq_true rfl, Nat.le_of_ble_eq_true rfl⟩ dL_law_683 (fun H locs hW => ?_)
  refine lv_aload_n hx hb dL_law_686 rfl (lv_at hl 2 rfl) ?_
  refine lv_aload_n hx hb dL_law_687 rfl (lv_at hl 0 rfl) ?_
  refine lv_iload_n hx hb dL_law_688 rfl (lv_at hl 3 rfl) ?_
  refine lv_iconst (v := (1 : Int32)) hx hb dL_law_689 (by decide) ?_
  refine lv_iadd hx hb dL_law_690 ?_
  refine va_sld hx hb hX hbl hbA hW.2.2.2.1 h_1 dL_law_691 ?_
  refine lv_aload_n hx hb dL_law_692 rfl (lv_at hl 0 rfl) ?_
  refine lv_iload_n hx hb dL_law_693 rfl (lv_at hl 3 rfl) ?_
  refine lv_iconst (v := (2 : Int32)) hx hb dL_law_694 (by decide) ?_
  refine lv_iadd hx hb dL_law_695 ?_
  refine va_sld hx hb hX hbl hbA hW.2.2.2.1 h_2 dL_law_696 ?_
  refine g_cvi X hW (As := [.int (xs (x3 + (1 : Int32)).toNatClampNeg), .int (xs (x3 + (2 : Int32)).toNatClampNeg)]) (ws' := lawW G a (va_up (va_up (va_up (va_up E 1 z_planStands) 33 z_pl_arcs) 34 z_pl_lack) 35 z_pl_least) (va_up (va_up (va_up (va_up (va_up (va_up (va_up (va_up F 20 z_pl_start) 21 z_pl_end) 22 z_pl_cost) 23 z_pl_room) 24 z_pl_idle) 25 z_pl_unmet) 26 z_pl_gain) 27 z_pl_way) (va_up M 0 yz_m_arcs) (va_up (va_up (va_up (va_up (va_up (va_up N 9 yz_m_arcFrom) 10 yz_m_arcTo) 11 yz_m_arcRoom) 12 yz_m_arcCost) 13 yz_m_far) 14 yz_m_by)) ckL_X7_worth (kcX7_worth (l := l) G (a 56) (a 57) (a 60) (a 61) (a 66) (a 67) (a 68) (a 69) (a 70) (a 71) (a 58) (a 59) (a 62) (a 63) (a 64) (a 65) (a 72) (a 73) (a 74) (xs (x3 + (1 : Int32)).toNatClampNeg) (xs (x3 + (2 : Int32)).toNatClampNeg) (M 0) (M 1) (M 2) (M 3) (M 4) (M 5) (M 6) (M 7) (M 8) (M 9) (N 0) (N 3) (N 4) (N 9) (N 10) (N 11) (N 12) (N 13) (N 14) hq2) ⟨rfl, rfl, Nat.le_of_ble_eq_true rfl, Nat.le_of_ble_eq_true rfl⟩ [56, 57, 60, 61, 66, 67, 68, 69, 70, 71] rfl rfl rfl rfl rfl rfl rfl hl.1 (Nat.le_of_ble_eq_true rfl) ⟨Nat.le_of_ble_eq_true rfl, Nat.le_of_ble_eq_true rfl⟩ dL_law_697 (fun H locs hW => ?_)
  refine lv_icmp_eq (tgt := 1333) hx hb dL_law_700 (by decide) (fun _ => ?_) (fun c => absurd rfl c)
  exact Hk _ _ _ _ hI H locs hW
set_option maxHeartbeats 16000000 in
set_option maxRecDepth 100000 in
theorem law_turn {p : Program} {l : Launch} {e : Env} {s : State} {m : MethodId} {args : Array Value} {below : List Frame} {meth : Method} {c : Code} {G : Gt} {a : Nat → Nat} {b L : Nat} {xs : Nat → Int32} {Q : State → Prop} (X : Bx p s m args meth c code 4 lw_tbl RL ret) (hX : va_X b L xs s s.heap) (hbl : b < s.heap.size) (Inv : (Nat → Int32) → (Nat → Nat → Int32) → (Nat → Int32) → (Nat → Nat → Int32) → Prop) (hop : Op_turn Inv) (E : Nat → Int32) (F : Nat → Nat → Int32) (M : Nat → Int32) (N : Nat → Nat → Int32) (hI : Inv E F M N) (x3 : Int32) (h_1 : vp_in (x3 + (1 : Int32)) L) (h_2 : vp_in (x3 + (2 : Int32)) L) (h_3 : vp_in (x3 + (3 : Int32)) L) (h_4 : vp_in (x3 + (4 : Int32)) L) (h_5 : vp_in (x3 + (5 : Int32)) L) (h_6 : vp_in (x3 + (6 : Int32)) L) (H : Heap) (locs : List Loc) (hW : Wo G (fun q : Nat => s.heap.size ≤ q) s (lawW G a E F M N) H locs) (ls : Array Slot) (hl : lv_has ls 4 [(0, .ref b), (1, .ref (a 0)), (2, .ref (a 56)), (3, .int x3)]) (Hk : ∀ (E : Nat → Int32) (F : Nat → Nat → Int32) (M : Nat → Int32) (N : Nat → Nat → Int32), Inv E F M N → ∀ (H : Heap) (locs : List Loc), Wo G (fun q : Nat => s.heap.size ≤ q) s (lawW G a E F M N) H locs → W p l e room_1 s m args below meth c H locs 600000 7302250 Q (F0 m 1333 ls [])) : W p l e room_1 s m args below meth c H locs 600000 7302250 Q (F0 m 705 ls []) := by
  obtain ⟨hx, hb, -⟩ := id X.1
  have hbA : ¬ (fun q : Nat => s.heap.size ≤ q) b := Nat.not_le.mpr hbl
  refine lv_aload_n hx hb dL_law_705 rfl (lv_at hl 1 rfl) ?_
  refine lv_aload_n hx hb dL_law_706 rfl (lv_at hl 0 rfl) ?_
  refine lv_iload_n hx hb dL_law_707 rfl (lv_at hl 3 rfl) ?_
  refine lv_iconst (v := (1 : Int32)) hx hb dL_law_708 (by decide) ?_
  refine lv_iadd hx hb dL_law_709 ?_
  refine va_sld hx hb hX hbl hbA hW.2.2.2.1 h_1 dL_law_710 ?_
  refine lv_if_eq (tgt := 718) hx hb dL_law_711 (by decide) (fun c0 => ?_) (fun c0 => ?_)
  · refine lv_iconst (v := (0 : Int32)) hx hb dL_law_718 (by decide) ?_
    refine lv_aload_n hx hb dL_law_719 rfl (lv_at hl 0 rfl) ?_
    refine lv_iload_n hx hb dL_law_720 rfl (lv_at hl 3 rfl) ?_
    refine lv_iconst (v := (2 : Int32)) hx hb dL_law_721 (by decide) ?_
    refine lv_iadd hx hb dL_law_722 ?_
    refine va_sld hx hb hX hbl hbA hW.2.2.2.1 h_2 dL_law_723 ?_
    refine lv_aload_n hx hb dL_law_724 rfl (lv_at hl 0 rfl) ?_
    refine lv_iload_n hx hb dL_law_725 rfl (lv_at hl 3 rfl) ?_
    refine lv_iconst (v := (3 : Int32)) hx hb dL_law_726 (by decide) ?_
    refine lv_iadd hx hb dL_law_727 ?_
    refine va_sld hx hb hX hbl hbA hW.2.2.2.1 h_3 dL_law_728 ?_
    refine lv_aload_n hx hb dL_law_729 rfl (lv_at hl 0 rfl) ?_
    refine lv_iload_n hx hb dL_law_730 rfl (lv_at hl 3 rfl) ?_
    refine lv_iconst (v := (4 : Int32)) hx hb dL_law_731 (by decide) ?_
    refine lv_iadd hx hb dL_law_732 ?_
    refine va_sld hx hb hX hbl hbA hW.2.2.2.1 h_4 dL_law_733 ?_
    refine lv_aload_n hx hb dL_law_734 rfl (lv_at hl 0 rfl) ?_
    refine lv_iload_n hx hb dL_law_735 rfl (lv_at hl 3 rfl) ?_
    refine lv_iconst (v := (5 : Int32)) hx hb dL_law_736 (by decide) ?_
    refine lv_iadd hx hb dL_law_737 ?_
    refine va_sld hx hb hX hbl hbA hW.2.2.2.1 h_5 dL_law_738 ?_
    refine lv_aload_n hx hb dL_law_739 rfl (lv_at hl 0 rfl) ?_
    refine lv_iload_n hx hb dL_law_740 rfl (lv_at hl 3 rfl) ?_
    refine lv_bipush (v := (6 : Int32)) hx hb dL_law_741 (by decide) ?_
    refine lv_iadd hx hb dL_law_743 ?_
    refine va_sld hx hb hX hbl hbA hW.2.2.2.1 h_6 dL_law_744 ?_
    obtain ⟨r, z_offers_r, z_offers_f, z_wants_r, z_wants_f, yz_m_numbers, yz_m_turns, hq, hq2, hI⟩ := hop E F M N (0 : Int32) (xs (x3 + (2 : Int32)).toNatClampNeg) (xs (x3 + (3 : Int32)).toNatClampNeg) (xs (x3 + (4 : Int32)).toNatClampNeg) (xs (x3 + (5 : Int32)).toNatClampNeg) (xs (x3 + (6 : Int32)).toNatClampNeg) (Or.inl rfl) hI
    refine g_cvi X hW (As := [.int (0 : Int32), .int (xs (x3 + (2 : Int32)).toNatClampNeg), .int (xs (x3 + (3 : Int32)).toNatClampNeg), .int (xs (x3 + (4 : Int32)).toNatClampNeg), .int (xs (x3 + (5 : Int32)).toNatClampNeg), .int (xs (x3 + (6 : Int32)).toNatClampNeg)]) (ws' := lawW G a (va_up (va_up E 10 z_offers_r) 11 z_wants_r) (va_up (va_up F 4 z_offers_f) 5 z_wants_f) M N) ckL_X6_turn (kcX6_turn (l := l) G (a 0) (a 1) (a 10) (a 11) (a 12) (a 13) (a 20) (a 39) (a 41) (a 43) (a 52) (a 2) (a 4) (a 6) (a 8) (a 14) (a 16) (a 18) (0 : Int32) (xs (x3 + (2 : Int32)).toNatClampNeg) (xs (x3 + (3 : Int32)).toNatClampNeg) (xs (x3 + (4 : Int32)).toNatClampNeg) (xs (x3 + (5 : Int32)).toNatClampNeg) (xs (x3 + (6 : Int32)).toNatClampNeg) (E 0) (E 1) (E 2) (E 3) (E 4) (E 5) (E 10) (F 4) (E 11) (F 5) hq) ⟨rfl, rfl, Nat.le_of_ble_eq_true rfl, Nat.le_of_ble_eq_true rfl⟩ [0, 1, 10, 11, 12, 13] rfl rfl rfl rfl rfl rfl rfl hl.1 (Nat.le_of_ble_eq_true rfl) ⟨Nat.le_of_ble_eq_true rfl, Nat.le_of_ble_eq_true rfl⟩ dL_law_745 (fun H locs hW => ?_)
    refine lv_aload_n hx hb dL_law_748 rfl (lv_at hl 2 rfl) ?_
    refine lv_aload_n hx hb dL_law_749 rfl (lv_at hl 0 rfl) ?_
    refine lv_iload_n hx hb dL_law_750 rfl (lv_at hl 3 rfl) ?_
    refine lv_iconst (v := (1 : Int32)) hx hb dL_law_751 (by decide) ?_
    refine lv_iadd hx hb dL_law_752 ?_
    refine va_sld hx hb hX hbl hbA hW.2.2.2.1 h_1 dL_law_753 ?_
    refine lv_if_eq (tgt := 761) hx hb dL_law_754 (by decide) (fun _ => ?_) (fun c => absurd c0 c)
    refine lv_iconst (v := (0 : Int32)) hx hb dL_law_761 (by decide) ?_
    refine lv_aload_n hx hb dL_law_762 rfl (lv_at hl 0 rfl) ?_
    refine lv_iload_n hx hb dL_law_763 rfl (lv_at hl 3 rfl) ?_
    refine lv_iconst (v := (2 : Int32)) hx hb dL_law_764 (by decide) ?_
    refine lv_iadd hx hb dL_law_765 ?_
    refine va_sld hx hb hX hbl hbA hW.2.2.2.1 h_2 dL_law_766 ?_
    refine lv_aload_n hx hb dL_law_767 rfl (lv_at hl 0 rfl) ?_
    refine lv_iload_n hx hb dL_law_768 rfl (lv_at hl 3 rfl) ?_
    refine lv_iconst (v := (3 : Int32)) hx hb dL_law_769 (by decide) ?_
    refine lv_iadd hx hb dL_law_770 ?_
    refine va_sld hx hb hX hbl hbA hW.2.2.2.1 h_3 dL_law_771 ?_
    refine lv_aload_n hx hb dL_law_772 rfl (lv_at hl 0 rfl) ?_
    refine lv_iload_n hx hb dL_law_773 rfl (lv_at hl 3 rfl) ?_
    refine lv_iconst (v := (4 : Int32)) hx hb dL_law_774 (by decide) ?_
    refine lv_iadd hx hb dL_law_775 ?_
    refine va_sld hx hb hX hbl hbA hW.2.2.2.1 h_4 dL_law_776 ?_
    refine lv_aload_n hx hb dL_law_777 rfl (lv_at hl 0 rfl) ?_
    refine lv_iload_n hx hb dL_law_778 rfl (lv_at hl 3 rfl) ?_
    refine lv_iconst (v := (5 : Int32)) hx hb dL_law_779 (by decide) ?_
    refine lv_iadd hx hb dL_law_780 ?_
    refine va_sld hx hb hX hbl hbA hW.2.2.2.1 h_5 dL_law_781 ?_
    refine lv_aload_n hx hb dL_law_782 rfl (lv_at hl 0 rfl) ?_
    refine lv_iload_n hx hb dL_law_783 rfl (lv_at hl 3 rfl) ?_
    refine lv_bipush (v := (6 : Int32)) hx hb dL_law_784 (by decide) ?_
    refine lv_iadd hx hb dL_law_786 ?_
    refine va_sld hx hb hX hbl hbA hW.2.2.2.1 h_6 dL_law_787 ?_
    refine g_cvi X hW (As := [.int (0 : Int32), .int (xs (x3 + (2 : Int32)).toNatClampNeg), .int (xs (x3 + (3 : Int32)).toNatClampNeg), .int (xs (x3 + (4 : Int32)).toNatClampNeg), .int (xs (x3 + (5 : Int32)).toNatClampNeg), .int (xs (x3 + (6 : Int32)).toNatClampNeg)]) (ws' := lawW G a (va_up (va_up E 10 z_offers_r) 11 z_wants_r) (va_up (va_up F 4 z_offers_f) 5 z_wants_f) M (va_up (va_up N 0 yz_m_numbers) 5 yz_m_turns)) ckL_X7_turn (kcX7_turn (l := l) G (a 56) (a 57) (a 62) (a 58) (a 59) (a 60) (a 61) (a 63) (a 64) (a 65) (a 66) (a 67) (a 68) (a 69) (a 70) (a 71) (a 72) (a 73) (a 74) (0 : Int32) (xs (x3 + (2 : Int32)).toNatClampNeg) (xs (x3 + (3 : Int32)).toNatClampNeg) (xs (x3 + (4 : Int32)).toNatClampNeg) (xs (x3 + (5 : Int32)).toNatClampNeg) (xs (x3 + (6 : Int32)).toNatClampNeg) (M 0) (M 1) (M 2) (M 3) (M 4) (M 5) (M 6) (M 7) (M 8) (M 9) (N 0) (N 5) hq2) ⟨rfl, rfl, Nat.le_of_ble_eq_true rfl, Nat.le_of_ble_eq_true rfl⟩ [56, 57, 62] rfl rfl rfl rfl rfl rfl rfl hl.1 (Nat.le_of_ble_eq_true rfl) ⟨Nat.le_of_ble_eq_true rfl, Nat.le_of_ble_eq_true rfl⟩ dL_law_788 (fun H locs hW => ?_)
    refine lv_icmp_eq (tgt := 1333) hx hb dL_law_791 (by decide) (fun _ => ?_) (fun c => absurd rfl c)
    exact Hk _ _ _ _ hI H locs hW
  · refine lv_iconst (v := (1 : Int32)) hx hb dL_law_714 (by decide) ?_
    refine lv_goto (tgt := 719) hx hb dL_law_715 (by decide) ?_
    refine lv_aload_n hx hb dL_law_719 rfl (lv_at hl 0 rfl) ?_
    refine lv_iload_n hx hb dL_law_720 rfl (lv_at hl 3 rfl) ?_
    refine lv_iconst (v := (2 : Int32)) hx hb dL_law_721 (by decide) ?_
    refine lv_iadd hx hb dL_law_722 ?_
    refine va_sld hx hb hX hbl hbA hW.2.2.2.1 h_2 dL_law_723 ?_
    refine lv_aload_n hx hb dL_law_724 rfl (lv_at hl 0 rfl) ?_
    refine lv_iload_n hx hb dL_law_725 rfl (lv_at hl 3 rfl) ?_
    refine lv_iconst (v := (3 : Int32)) hx hb dL_law_726 (by decide) ?_
    refine lv_iadd hx hb dL_law_727 ?_
    refine va_sld hx hb hX hbl hbA hW.2.2.2.1 h_3 dL_law_728 ?_
    refine lv_aload_n hx hb dL_law_729 rfl (lv_at hl 0 rfl) ?_
    refine lv_iload_n hx hb dL_law_730 rfl (lv_at hl 3 rfl) ?_
    refine lv_iconst (v := (4 : Int32)) hx hb dL_law_731 (by decide) ?_
    refine lv_iadd hx hb dL_law_732 ?_
    refine va_sld hx hb hX hbl hbA hW.2.2.2.1 h_4 dL_law_733 ?_
    refine lv_aload_n hx hb dL_law_734 rfl (lv_at hl 0 rfl) ?_
    refine lv_iload_n hx hb dL_law_735 rfl (lv_at hl 3 rfl) ?_
    refine lv_iconst (v := (5 : Int32)) hx hb dL_law_736 (by decide) ?_
    refine lv_iadd hx hb dL_law_737 ?_
    refine va_sld hx hb hX hbl hbA hW.2.2.2.1 h_5 dL_law_738 ?_
    refine lv_aload_n hx hb dL_law_739 rfl (lv_at hl 0 rfl) ?_
    refine lv_iload_n hx hb dL_law_740 rfl (lv_at hl 3 rfl) ?_
    refine lv_bipush (v := (6 : Int32)) hx hb dL_law_741 (by decide) ?_
    refine lv_iadd hx hb dL_law_743 ?_
    refine va_sld hx hb hX hbl hbA hW.2.2.2.1 h_6 dL_law_744 ?_
    obtain ⟨r, z_offers_r, z_offers_f, z_wants_r, z_wants_f, yz_m_numbers, yz_m_turns, hq, hq2, hI⟩ := hop E F M N (1 : Int32) (xs (x3 + (2 : Int32)).toNatClampNeg) (xs (x3 + (3 : Int32)).toNatClampNeg) (xs (x3 + (4 : Int32)).toNatClampNeg) (xs (x3 + (5 : Int32)).toNatClampNeg) (xs (x3 + (6 : Int32)).toNatClampNeg) (Or.inr rfl) hI
    refine g_cvi X hW (As := [.int (1 : Int32), .int (xs (x3 + (2 : Int32)).toNatClampNeg), .int (xs (x3 + (3 : Int32)).toNatClampNeg), .int (xs (x3 + (4 : Int32)).toNatClampNeg), .int (xs (x3 + (5 : Int32)).toNatClampNeg), .int (xs (x3 + (6 : Int32)).toNatClampNeg)]) (ws' := lawW G a (va_up (va_up E 10 z_offers_r) 11 z_wants_r) (va_up (va_up F 4 z_offers_f) 5 z_wants_f) M N) ckL_X6_turn (kcX6_turn (l := l) G (a 0) (a 1) (a 10) (a 11) (a 12) (a 13) (a 20) (a 39) (a 41) (a 43) (a 52) (a 2) (a 4) (a 6) (a 8) (a 14) (a 16) (a 18) (1 : Int32) (xs (x3 + (2 : Int32)).toNatClampNeg) (xs (x3 + (3 : Int32)).toNatClampNeg) (xs (x3 + (4 : Int32)).toNatClampNeg) (xs (x3 + (5 : Int32)).toNatClampNeg) (xs (x3 + (6 : Int32)).toNatClampNeg) (E 0) (E 1) (E 2) (E 3) (E 4) (E 5) (E 10) (F 4) (E 11) (F 5) hq) ⟨rfl, rfl, Nat.le_of_ble_eq_true rfl, Nat.le_of_ble_eq_true rfl⟩ [0, 1, 10, 11, 12, 13] rfl rfl rfl rfl rfl rfl rfl hl.1 (Nat.le_of_ble_eq_true rfl) ⟨Nat.le_of_ble_eq_true rfl, Nat.le_of_ble_eq_true rfl⟩ dL_law_745 (fun H locs hW => ?_)
    refine lv_aload_n hx hb dL_law_748 rfl (lv_at hl 2 rfl) ?_
    refine lv_aload_n hx hb dL_law_749 rfl (lv_at hl 0 rfl) ?_
    refine lv_iload_n hx hb dL_law_750 rfl (lv_at hl 3 rfl) ?_
    refine lv_iconst (v := (1 : Int32)) hx hb dL_law_751 (by decide) ?_
    refine lv_iadd hx hb dL_law_752 ?_
    refine va_sld hx hb hX hbl hbA hW.2.2.2.1 h_1 dL_law_753 ?_
    refine lv_if_eq (tgt := 761) hx hb dL_law_754 (by decide) (fun c => absurd c c0) (fun _ => ?_)
    refine lv_iconst (v := (1 : Int32)) hx hb dL_law_757 (by decide) ?_
    refine lv_goto (tgt := 762) hx hb dL_law_758 (by decide) ?_
    refine lv_aload_n hx hb dL_law_762 rfl (lv_at hl 0 rfl) ?_
    refine lv_iload_n hx hb dL_law_763 rfl (lv_at hl 3 rfl) ?_
    refine lv_iconst (v := (2 : Int32)) hx hb dL_law_764 (by decide) ?_
    refine lv_iadd hx hb dL_law_765 ?_
    refine va_sld hx hb hX hbl hbA hW.2.2.2.1 h_2 dL_law_766 ?_
    refine lv_aload_n hx hb dL_law_767 rfl (lv_at hl 0 rfl) ?_
    refine lv_iload_n hx hb dL_law_768 rfl (lv_at hl 3 rfl) ?_
    refine lv_iconst (v := (3 : Int32)) hx hb dL_law_769 (by decide) ?_
    refine lv_iadd hx hb dL_law_770 ?_
    refine va_sld hx hb hX hbl hbA hW.2.2.2.1 h_3 dL_law_771 ?_
    refine lv_aload_n hx hb dL_law_772 rfl (lv_at hl 0 rfl) ?_
    refine lv_iload_n hx hb dL_law_773 rfl (lv_at hl 3 rfl) ?_
    refine lv_iconst (v := (4 : Int32)) hx hb dL_law_774 (by decide) ?_
    refine lv_iadd hx hb dL_law_775 ?_
    refine va_sld hx hb hX hbl hbA hW.2.2.2.1 h_4 dL_law_776 ?_
    refine lv_aload_n hx hb dL_law_777 rfl (lv_at hl 0 rfl) ?_
    refine lv_iload_n hx hb dL_law_778 rfl (lv_at hl 3 rfl) ?_
    refine lv_iconst (v := (5 : Int32)) hx hb dL_law_779 (by decide) ?_
    refine lv_iadd hx hb dL_law_780 ?_
    refine va_sld hx hb hX hbl hbA hW.2.2.2.1 h_5 dL_law_781 ?_
    refine lv_aload_n hx hb dL_law_782 rfl (lv_at hl 0 rfl) ?_
    refine lv_iload_n hx hb dL_law_783 rfl (lv_at hl 3 rfl) ?_
    refine lv_bipush (v := (6 : Int32)) hx hb dL_law_784 (by decide) ?_
    refine lv_iadd hx hb dL_law_786 ?_
    refine va_sld hx hb hX hbl hbA hW.2.2.2.1 h_6 dL_law_787 ?_
    refine g_cvi X hW (As := [.int (1 : Int32), .int (xs (x3 + (2 : Int32)).toNatClampNeg), .int (xs (x3 + (3 : Int32)).toNatClampNeg), .int (xs (x3 + (4 : Int32)).toNatClampNeg), .int (xs (x3 + (5 : Int32)).toNatClampNeg), .int (xs (x3 + (6 : Int32)).toNatClampNeg)]) (ws' := lawW G a (va_up (va_up E 10 z_offers_r) 11 z_wants_r) (va_up (va_up F 4 z_offers_f) 5 z_wants_f) M (va_up (va_up N 0 yz_m_numbers) 5 yz_m_turns)) ckL_X7_turn (kcX7_turn (l := l) G (a 56) (a 57) (a 62) (a 58) (a 59) (a 60) (a 61) (a 63) (a 64) (a 65) (a 66) (a 67) (a 68) (a 69) (a 70) (a 71) (a 72) (a 73) (a 74) (1 : Int32) (xs (x3 + (2 : Int32)).toNatClampNeg) (xs (x3 + (3 : Int32)).toNatClampNeg) (xs (x3 + (4 : Int32)).toNatClampNeg) (xs (x3 + (5 : Int32)).toNatClampNeg) (xs (x3 + (6 : Int32)).toNatClampNeg) (M 0) (M 1) (M 2) (M 3) (M 4) (M 5) (M 6) (M 7) (M 8) (M 9) (N 0) (N 5) hq2) ⟨rfl, rfl, Nat.le_of_ble_eq_true rfl, Nat.le_of_ble_eq_true rfl⟩ [56, 57, 62] rfl rfl rfl rfl rfl rfl rfl hl.1 (Nat.le_of_ble_eq_true rfl) ⟨Nat.le_of_ble_eq_true rfl, Nat.le_of_ble_eq_true rfl⟩ dL_law_788 (fun H locs hW => ?_)
    refine lv_icmp_eq (tgt := 1333) hx hb dL_law_791 (by decide) (fun _ => ?_) (fun c => absurd rfl c)
    exact Hk _ _ _ _ hI H locs hW
set_option maxHeartbeats 16000000 in
set_option maxRecDepth 100000 in
theorem law_leave {p : Program} {l : Launch} {e : Env} {s : State} {m : MethodId} {args : Array Value} {below : List Frame} {meth : Method} {c : Code} {G : Gt} {a : Nat → Nat} {b L : Nat} {xs : Nat → Int32} {Q : State → Prop} (X : Bx p s m args meth c code 4 lw_tbl RL ret) (hX : va_X b L xs s s.heap) (hbl : b < s.heap.size) (Inv : (Nat → Int32) → (Nat → Nat → Int32) → (Nat → Int32) → (Nat → Nat → Int32) → Prop) (hop : Op_leave Inv) (E : Nat → Int32) (F : Nat → Nat → Int32) (M : Nat → Int32) (N : Nat → Nat → Int32) (hI : Inv E F M N) (x3 : Int32) (h_1 : vp_in (x3 + (1 : Int32)) L) (h_2 : vp_in (x3 + (2 : Int32)) L) (h_3 : vp_in (x3 + (3 : Int32)) L) (h_4 : vp_in (x3 + (4 : Int32)) L) (h_5 : vp_in (x3 + (5 : Int32)) L) (h_6 : vp_in (x3 + (6 : Int32)) L) (H : Heap) (locs : List Loc) (hW : Wo G (fun q : Nat => s.heap.size ≤ q) s (lawW G a E F M N) H locs) (ls : Array Slot) (hl : lv_has ls 4 [(0, .ref b), (1, .ref (a 0)), (2, .ref (a 56)), (3, .int x3)]) (Hk : ∀ (E : Nat → Int32) (F : Nat → Nat → Int32) (M : Nat → Int32) (N : Nat → Nat → Int32), Inv E F M N → ∀ (H : Heap) (locs : List Loc), Wo G (fun q : Nat => s.heap.size ≤ q) s (lawW G a E F M N) H locs → W p l e room_1 s m args below meth c H locs 600000 7302250 Q (F0 m 1333 ls [])) : W p l e room_1 s m args below meth c H locs 600000 7302250 Q (F0 m 796 ls []) := by
  obtain ⟨hx, hb, -⟩ := id X.1
  have hbA : ¬ (fun q : Nat => s.heap.size ≤ q) b := Nat.not_le.mpr hbl
  refine lv_aload_n hx hb dL_law_796 rfl (lv_at hl 1 rfl) ?_
  refine lv_aload_n hx hb dL_law_797 rfl (lv_at hl 0 rfl) ?_
  refine lv_iload_n hx hb dL_law_798 rfl (lv_at hl 3 rfl) ?_
  refine lv_iconst (v := (1 : Int32)) hx hb dL_law_799 (by decide) ?_
  refine lv_iadd hx hb dL_law_800 ?_
  refine va_sld hx hb hX hbl hbA hW.2.2.2.1 h_1 dL_law_801 ?_
  refine lv_aload_n hx hb dL_law_802 rfl (lv_at hl 0 rfl) ?_
  refine lv_iload_n hx hb dL_law_803 rfl (lv_at hl 3 rfl) ?_
  refine lv_iconst (v := (2 : Int32)) hx hb dL_law_804 (by decide) ?_
  refine lv_iadd hx hb dL_law_805 ?_
  refine va_sld hx hb hX hbl hbA hW.2.2.2.1 h_2 dL_law_806 ?_
  refine lv_aload_n hx hb dL_law_807 rfl (lv_at hl 0 rfl) ?_
  refine lv_iload_n hx hb dL_law_808 rfl (lv_at hl 3 rfl) ?_
  refine lv_iconst (v := (3 : Int32)) hx hb dL_law_809 (by decide) ?_
  refine lv_iadd hx hb dL_law_810 ?_
  refine va_sld hx hb hX hbl hbA hW.2.2.2.1 h_3 dL_law_811 ?_
  refine lv_if_eq (tgt := 819) hx hb dL_law_812 (by decide) (fun c0 => ?_) (fun c0 => ?_)
  · refine lv_iconst (v := (0 : Int32)) hx hb dL_law_819 (by decide) ?_
    obtain ⟨r, z_leaves_f, yz_m_leave, hq, hq2, hI⟩ := hop E F M N (xs (x3 + (1 : Int32)).toNatClampNeg) (xs (x3 + (2 : Int32)).toNatClampNeg) (0 : Int32) (Or.inl rfl) hI
    refine g_cvi X hW (As := [.int (xs (x3 + (1 : Int32)).toNatClampNeg), .int (xs (x3 + (2 : Int32)).toNatClampNeg), .int (0 : Int32)]) (ws' := lawW G a E (va_up F 6 z_leaves_f) M N) ckL_X6_leave (kcX6_leave (l := l) G (a 0) (a 1) (a 14) (a 15) (a 20) (a 39) (a 41) (a 43) (a 52) (a 2) (a 4) (a 6) (a 8) (a 10) (a 12) (a 16) (a 18) (xs (x3 + (1 : Int32)).toNatClampNeg) (xs (x3 + (2 : Int32)).toNatClampNeg) (0 : Int32) (E 0) (E 1) (E 2) (E 3) (E 4) (E 5) (E 12) (F 6) hq) ⟨rfl, rfl, Nat.le_of_ble_eq_true rfl, Nat.le_of_ble_eq_true rfl⟩ [0, 1, 14, 15] rfl rfl rfl rfl rfl rfl rfl hl.1 (Nat.le_of_ble_eq_true rfl) ⟨Nat.le_of_ble_eq_true rfl, Nat.le_of_ble_eq_true rfl⟩ dL_law_820 (fun H locs hW => ?_)
    refine lv_aload_n hx hb dL_law_823 rfl (lv_at hl 2 rfl) ?_
    refine lv_aload_n hx hb dL_law_824 rfl (lv_at hl 0 rfl) ?_
    refine lv_iload_n hx hb dL_law_825 rfl (lv_at hl 3 rfl) ?_
    refine lv_iconst (v := (1 : Int32)) hx hb dL_law_826 (by decide) ?_
    refine lv_iadd hx hb dL_law_827 ?_
    refine va_sld hx hb hX hbl hbA hW.2.2.2.1 h_1 dL_law_828 ?_
    refine lv_aload_n hx hb dL_law_829 rfl (lv_at hl 0 rfl) ?_
    refine lv_iload_n hx hb dL_law_830 rfl (lv_at hl 3 rfl) ?_
    refine lv_iconst (v := (2 : Int32)) hx hb dL_law_831 (by decide) ?_
    refine lv_iadd hx hb dL_law_832 ?_
    refine va_sld hx hb hX hbl hbA hW.2.2.2.1 h_2 dL_law_833 ?_
    refine lv_aload_n hx hb dL_law_834 rfl (lv_at hl 0 rfl) ?_
    refine lv_iload_n hx hb dL_law_835 rfl (lv_at hl 3 rfl) ?_
    refine lv_iconst (v := (3 : Int32)) hx hb dL_law_836 (by decide) ?_
    refine lv_iadd hx hb dL_law_837 ?_
    refine va_sld hx hb hX hbl hbA hW.2.2.2.1 h_3 dL_law_838 ?_
    refine lv_if_eq (tgt := 846) hx hb dL_law_839 (by decide) (fun _ => ?_) (fun c => absurd c0 c)
    refine lv_iconst (v := (0 : Int32)) hx hb dL_law_846 (by decide) ?_
    refine g_cvi X hW (As := [.int (xs (x3 + (1 : Int32)).toNatClampNeg), .int (xs (x3 + (2 : Int32)).toNatClampNeg), .int (0 : Int32)]) (ws' := lawW G a E (va_up F 6 z_leaves_f) M (va_up N 6 yz_m_leave)) ckL_X7_leave (kcX7_leave (l := l) G (a 56) (a 63) (a 57) (a 58) (a 59) (a 60) (a 61) (a 62) (a 64) (a 65) (a 66) (a 67) (a 68) (a 69) (a 70) (a 71) (a 72) (a 73) (a 74) (xs (x3 + (1 : Int32)).toNatClampNeg) (xs (x3 + (2 : Int32)).toNatClampNeg) (0 : Int32) (M 0) (M 1) (M 2) (M 3) (M 4) (M 5) (M 6) (M 7) (M 8) (M 9) (N 6) hq2) ⟨rfl, rfl, Nat.le_of_ble_eq_true rfl, Nat.le_of_ble_eq_true rfl⟩ [56, 63] rfl rfl rfl rfl rfl rfl rfl hl.1 (Nat.le_of_ble_eq_true rfl) ⟨Nat.le_of_ble_eq_true rfl, Nat.le_of_ble_eq_true rfl⟩ dL_law_847 (fun H locs hW => ?_)
    refine lv_icmp_eq (tgt := 1333) hx hb dL_law_850 (by decide) (fun _ => ?_) (fun c => absurd rfl c)
    exact Hk _ _ _ _ hI H locs hW
  · refine lv_iconst (v := (1 : Int32)) hx hb dL_law_815 (by decide) ?_
    refine lv_goto (tgt := 820) hx hb dL_law_816 (by decide) ?_
    obtain ⟨r, z_leaves_f, yz_m_leave, hq, hq2, hI⟩ := hop E F M N (xs (x3 + (1 : Int32)).toNatClampNeg) (xs (x3 + (2 : Int32)).toNatClampNeg) (1 : Int32) (Or.inr rfl) hI
    refine g_cvi X hW (As := [.int (xs (x3 + (1 : Int32)).toNatClampNeg), .int (xs (x3 + (2 : Int32)).toNatClampNeg), .int (1 : Int32)]) (ws' := lawW G a E (va_up F 6 z_leaves_f) M N) ckL_X6_leave (kcX6_leave (l := l) G (a 0) (a 1) (a 14) (a 15) (a 20) (a 39) (a 41) (a 43) (a 52) (a 2) (a 4) (a 6) (a 8) (a 10) (a 12) (a 16) (a 18) (xs (x3 + (1 : Int32)).toNatClampNeg) (xs (x3 + (2 : Int32)).toNatClampNeg) (1 : Int32) (E 0) (E 1) (E 2) (E 3) (E 4) (E 5) (E 12) (F 6) hq) ⟨rfl, rfl, Nat.le_of_ble_eq_true rfl, Nat.le_of_ble_eq_true rfl⟩ [0, 1, 14, 15] rfl rfl rfl rfl rfl rfl rfl hl.1 (Nat.le_of_ble_eq_true rfl) ⟨Nat.le_of_ble_eq_true rfl, Nat.le_of_ble_eq_true rfl⟩ dL_law_820 (fun H locs hW => ?_)
    refine lv_aload_n hx hb dL_law_823 rfl (lv_at hl 2 rfl) ?_
    refine lv_aload_n hx hb dL_law_824 rfl (lv_at hl 0 rfl) ?_
    refine lv_iload_n hx hb dL_law_825 rfl (lv_at hl 3 rfl) ?_
    refine lv_iconst (v := (1 : Int32)) hx hb dL_law_826 (by decide) ?_
    refine lv_iadd hx hb dL_law_827 ?_
    refine va_sld hx hb hX hbl hbA hW.2.2.2.1 h_1 dL_law_828 ?_
    refine lv_aload_n hx hb dL_law_829 rfl (lv_at hl 0 rfl) ?_
    refine lv_iload_n hx hb dL_law_830 rfl (lv_at hl 3 rfl) ?_
    refine lv_iconst (v := (2 : Int32)) hx hb dL_law_831 (by decide) ?_
    refine lv_iadd hx hb dL_law_832 ?_
    refine va_sld hx hb hX hbl hbA hW.2.2.2.1 h_2 dL_law_833 ?_
    refine lv_aload_n hx hb dL_law_834 rfl (lv_at hl 0 rfl) ?_
    refine lv_iload_n hx hb dL_law_835 rfl (lv_at hl 3 rfl) ?_
    refine lv_iconst (v := (3 : Int32)) hx hb dL_law_836 (by decide) ?_
    refine lv_iadd hx hb dL_law_837 ?_
    refine va_sld hx hb hX hbl hbA hW.2.2.2.1 h_3 dL_law_838 ?_
    refine lv_if_eq (tgt := 846) hx hb dL_law_839 (by decide) (fun c => absurd c c0) (fun _ => ?_)
    refine lv_iconst (v := (1 : Int32)) hx hb dL_law_842 (by decide) ?_
    refine lv_goto (tgt := 847) hx hb dL_law_843 (by decide) ?_
    refine g_cvi X hW (As := [.int (xs (x3 + (1 : Int32)).toNatClampNeg), .int (xs (x3 + (2 : Int32)).toNatClampNeg), .int (1 : Int32)]) (ws' := lawW G a E (va_up F 6 z_leaves_f) M (va_up N 6 yz_m_leave)) ckL_X7_leave (kcX7_leave (l := l) G (a 56) (a 63) (a 57) (a 58) (a 59) (a 60) (a 61) (a 62) (a 64) (a 65) (a 66) (a 67) (a 68) (a 69) (a 70) (a 71) (a 72) (a 73) (a 74) (xs (x3 + (1 : Int32)).toNatClampNeg) (xs (x3 + (2 : Int32)).toNatClampNeg) (1 : Int32) (M 0) (M 1) (M 2) (M 3) (M 4) (M 5) (M 6) (M 7) (M 8) (M 9) (N 6) hq2) ⟨rfl, rfl, Nat.le_of_ble_eq_true rfl, Nat.le_of_ble_eq_true rfl⟩ [56, 63] rfl rfl rfl rfl rfl rfl rfl hl.1 (Nat.le_of_ble_eq_true rfl) ⟨Nat.le_of_ble_eq_true rfl, Nat.le_of_ble_eq_true rfl⟩ dL_law_847 (fun H locs hW => ?_)
    refine lv_icmp_eq (tgt := 1333) hx hb dL_law_850 (by decide) (fun _ => ?_) (fun c => absurd rfl c)
    exact Hk _ _ _ _ hI H locs hW
set_option maxHeartbeats 16000000 in
set_option maxRecDepth 100000 in
theorem law_suits {p : Program} {l : Launch} {e : Env} {s : State} {m : MethodId} {args : Array Value} {below : List Frame} {meth : Method} {c : Code} {G : Gt} {a : Nat → Nat} {b L : Nat} {xs : Nat → Int32} {Q : State → Prop} (X : Bx p s m args meth c code 4 lw_tbl RL ret) (hX : va_X b L xs s s.heap) (hbl : b < s.heap.size) (Inv : (Nat → Int32) → (Nat → Nat → Int32) → (Nat → Int32) → (Nat → Nat → Int32) → Prop) (hop : Op_suits Inv) (E : Nat → Int32) (F : Nat → Nat → Int32) (M : Nat → Int32) (N : Nat → Nat → Int32) (hI : Inv E F M N) (x3 : Int32) (h_1 : vp_in (x3 + (1 : Int32)) L) (h_2 : vp_in (x3 + (2 : Int32)) L) (h_3 : vp_in (x3 + (3 : Int32)) L) (h_4 : vp_in (x3 + (4 : Int32)) L) (h_5 : vp_in (x3 + (5 : Int32)) L) (h_6 : vp_in (x3 + (6 : Int32)) L) (H : Heap) (locs : List Loc) (hW : Wo G (fun q : Nat => s.heap.size ≤ q) s (lawW G a E F M N) H locs) (ls : Array Slot) (hl : lv_has ls 4 [(0, .ref b), (1, .ref (a 0)), (2, .ref (a 56)), (3, .int x3)]) (Hk : ∀ (E : Nat → Int32) (F : Nat → Nat → Int32) (M : Nat → Int32) (N : Nat → Nat → Int32), Inv E F M N → ∀ (H : Heap) (locs : List Loc), Wo G (fun q : Nat => s.heap.size ≤ q) s (lawW G a E F M N) H locs → W p l e room_1 s m args below meth c H locs 600000 7302250 Q (F0 m 1333 ls [])) : W p l e room_1 s m args below meth c H locs 600000 7302250 Q (F0 m 855 ls []) := by
  obtain ⟨hx, hb, -⟩ := id X.1
  have hbA : ¬ (fun q : Nat => s.heap.size ≤ q) b := Nat.not_le.mpr hbl
  refine lv_aload_n hx hb dL_law_855 rfl (lv_at hl 1 rfl) ?_
  refine lv_aload_n hx hb dL_law_856 rfl (lv_at hl 0 rfl) ?_
  refine lv_iload_n hx hb dL_law_857 rfl (lv_at hl 3 rfl) ?_
  refine lv_iconst (v := (1 : Int32)) hx hb dL_law_858 (by decide) ?_
  refine lv_iadd hx hb dL_law_859 ?_
  refine va_sld hx hb hX hbl hbA hW.2.2.2.1 h_1 dL_law_860 ?_
  refine lv_aload_n hx hb dL_law_861 rfl (lv_at hl 0 rfl) ?_
  refine lv_iload_n hx hb dL_law_862 rfl (lv_at hl 3 rfl) ?_
  refine lv_iconst (v := (2 : Int32)) hx hb dL_law_863 (by decide) ?_
  refine lv_iadd hx hb dL_law_864 ?_
  refine va_sld hx hb hX hbl hbA hW.2.2.2.1 h_2 dL_law_865 ?_
  obtain ⟨r, hq, hq2, hI⟩ := hop E F M N (xs (x3 + (1 : Int32)).toNatClampNeg) (xs (x3 + (2 : Int32)).toNatClampNeg) hI
  refine g_cvi X hW (As := [.int (xs (x3 + (1 : Int32)).toNatClampNeg), .int (xs (x3 + (2 : Int32)).toNatClampNeg)]) (ws' := lawW G a E F M N) ckL_X6_suits (kcX6_suits (l := l) G (a 0) (a 1) (a 8) (a 9) (a 10) (a 11) (a 12) (a 13) (a 14) (a 15) (a 20) (a 39) (a 41) (a 43) (a 52) (a 2) (a 4) (a 6) (a 16) (a 18) (xs (x3 + (1 : Int32)).toNatClampNeg) (xs (x3 + (2 : Int32)).toNatClampNeg) (E 0) (E 1) (E 2) (E 3) (E 4) (E 5) (E 9) (F 3) (E 10) (F 4) (E 11) (F 5) (E 12) (F 6) hq) ⟨rfl, rfl, Nat.le_of_ble_eq_true rfl, Nat.le_of_ble_eq_true rfl⟩ [0, 1, 8, 9, 10, 11, 12, 13, 14, 15] rfl rfl rfl rfl rfl rfl rfl hl.1 (Nat.le_of_ble_eq_true rfl) ⟨Nat.le_of_ble_eq_true rfl, Nat.le_of_ble_eq_true rfl⟩ dL_law_866 (fun H locs hW => ?_)
  refine lv_aload_n hx hb dL_law_869 rfl (lv_at hl 2 rfl) ?_
  refine lv_aload_n hx hb dL_law_870 rfl (lv_at hl 0 rfl) ?_
  refine lv_iload_n hx hb dL_law_871 rfl (lv_at hl 3 rfl) ?_
  refine lv_iconst (v := (1 : Int32)) hx hb dL_law_872 (by decide) ?_
  refine lv_iadd hx hb dL_law_873 ?_
  refine va_sld hx hb hX hbl hbA hW.2.2.2.1 h_1 dL_law_874 ?_
  refine lv_aload_n hx hb dL_law_875 rfl (lv_at hl 0 rfl) ?_
  refine lv_iload_n hx hb dL_law_876 rfl (lv_at hl 3 rfl) ?_
  refine lv_iconst (v := (2 : Int32)) hx hb dL_law_877 (by decide) ?_
  refine lv_iadd hx hb dL_law_878 ?_
  refine va_sld hx hb hX hbl hbA hW.2.2.2.1 h_2 dL_law_879 ?_
  refine g_cvi X hW (As := [.int (xs (x3 + (1 : Int32)).toNatClampNeg), .int (xs (x3 + (2 : Int32)).toNatClampNeg)]) (ws' := lawW G a E F M N) ckL_X7_suits (kcX7_suits (l := l) G (a 56) (a 57) (a 61) (a 62) (a 63) (a 58) (a 59) (a 60) (a 64) (a 65) (a 66) (a 67) (a 68) (a 69) (a 70) (a 71) (a 72) (a 73) (a 74) (xs (x3 + (1 : Int32)).toNatClampNeg) (xs (x3 + (2 : Int32)).toNatClampNeg) (M 0) (M 1) (M 2) (M 3) (M 4) (M 5) (M 6) (M 7) (M 8) (M 9) (N 0) (N 4) (N 5) (N 6) hq2) ⟨rfl, rfl, Nat.le_of_ble_eq_true rfl, Nat.le_of_ble_eq_true rfl⟩ [56, 57, 61, 62, 63] rfl rfl rfl rfl rfl rfl rfl hl.1 (Nat.le_of_ble_eq_true rfl) ⟨Nat.le_of_ble_eq_true rfl, Nat.le_of_ble_eq_true rfl⟩ dL_law_880 (fun H locs hW => ?_)
  refine lv_icmp_eq (tgt := 1333) hx hb dL_law_883 (by decide) (fun _ => ?_) (fun c => absurd rfl c)
  exact Hk _ _ _ _ hI H locs hW
set_option maxHeartbeats 16000000 in
set_option maxRecDepth 100000 in
theorem law_match {p : Program} {l : Launch} {e : Env} {s : State} {m : MethodId} {args : Array Value} {below : List Frame} {meth : Method} {c : Code} {G : Gt} {a : Nat → Nat} {b L : Nat} {xs : Nat → Int32} {Q : State → Prop} (X : Bx p s m args meth c code 4 lw_tbl RL ret) (hX : va_X b L xs s s.heap) (hbl : b < s.heap.size) (Inv : (Nat → Int32) → (Nat → Nat → Int32) → (Nat → Int32) → (Nat → Nat → Int32) → Prop) (hop : Op_match Inv) (E : Nat → Int32) (F : Nat → Nat → Int32) (M : Nat → Int32) (N : Nat → Nat → Int32) (hI : Inv E F M N) (x3 : Int32) (h_1 : vp_in (x3 + (1 : Int32)) L) (h_2 : vp_in (x3 + (2 : Int32)) L) (h_3 : vp_in (x3 + (3 : Int32)) L) (h_4 : vp_in (x3 + (4 : Int32)) L) (h_5 : vp_in (x3 + (5 : Int32)) L) (h_6 : vp_in (x3 + (6 : Int32)) L) (H : Heap) (locs : List Loc) (hW : Wo G (fun q : Nat => s.heap.size ≤ q) s (lawW G a E F M N) H locs) (ls : Array Slot) (hl : lv_has ls 4 [(0, .ref b), (1, .ref (a 0)), (2, .ref (a 56)), (3, .int x3)]) (Hk : ∀ (E : Nat → Int32) (F : Nat → Nat → Int32) (M : Nat → Int32) (N : Nat → Nat → Int32), Inv E F M N → ∀ (H : Heap) (locs : List Loc), Wo G (fun q : Nat => s.heap.size ≤ q) s (lawW G a E F M N) H locs → W p l e room_1 s m args below meth c H locs 600000 7302250 Q (F0 m 1333 ls [])) : W p l e room_1 s m args below meth c H locs 600000 7302250 Q (F0 m 888 ls []) := by
  obtain ⟨hx, hb, -⟩ := id X.1
  have hbA : ¬ (fun q : Nat => s.heap.size ≤ q) b := Nat.not_le.mpr hbl
  refine lv_aload_n hx hb dL_law_888 rfl (lv_at hl 1 rfl) ?_
  refine lv_aload_n hx hb dL_law_889 rfl (lv_at hl 0 rfl) ?_
  refine lv_iload_n hx hb dL_law_890 rfl (lv_at hl 3 rfl) ?_
  refine lv_iconst (v := (1 : Int32)) hx hb dL_law_891 (by decide) ?_
  refine lv_iadd hx hb dL_law_892 ?_
  refine va_sld hx hb hX hbl hbA hW.2.2.2.1 h_1 dL_law_893 ?_
  obtain ⟨r, z_mt_offers, z_mt_wants, z_mt_pairs, z_mt_gap, z_mt_score, z_mt_best, z_mt_given, yz_m_best, hq, hq2, hI⟩ := hop E F M N (xs (x3 + (1 : Int32)).toNatClampNeg) hI
  refine g_cvi X hW (As := [.int (xs (x3 + (1 : Int32)).toNatClampNeg)]) (ws' := lawW G a (va_up (va_up (va_up (va_up E 36 z_mt_offers) 37 z_mt_wants) 38 z_mt_pairs) 39 z_mt_gap) (va_up (va_up (va_up F 28 z_mt_score) 29 z_mt_best) 30 z_mt_given) M N) ckL_X6_match (kcX6_match (l := l) G (a 0) (a 1) (a 8) (a 9) (a 10) (a 11) (a 12) (a 13) (a 14) (a 15) (a 52) (a 53) (a 54) (a 55) (a 20) (a 39) (a 41) (a 43) (a 2) (a 4) (a 6) (a 16) (a 18) (xs (x3 + (1 : Int32)).toNatClampNeg) (E 0) (E 1) (E 2) (E 3) (E 4) (E 5) (E 9) (F 3) (E 10) (F 4) (E 11) (F 5) (E 12) (F 6) (E 36) (E 37) (E 38) (E 39) (F 28) (F 29) (F 30) hq) ⟨rfl, rfl, Nat.le_of_ble_eq_true rfl, Nat.le_of_ble_eq_true rfl⟩ [0, 1, 8, 9, 10, 11, 12, 13, 14, 15, 52, 53, 54, 55] rfl rfl rfl rfl rfl rfl rfl hl.1 (Nat.le_of_ble_eq_true rfl) ⟨Nat.le_of_ble_eq_true rfl, Nat.le_of_ble_eq_true rfl⟩ dL_law_894 (fun H locs hW => ?_)
  refine lv_aload_n hx hb dL_law_897 rfl (lv_at hl 2 rfl) ?_
  refine lv_aload_n hx hb dL_law_898 rfl (lv_at hl 0 rfl) ?_
  refine lv_iload_n hx hb dL_law_899 rfl (lv_at hl 3 rfl) ?_
  refine lv_iconst (v := (1 : Int32)) hx hb dL_law_900 (by decide) ?_
  refine lv_iadd hx hb dL_law_901 ?_
  refine va_sld hx hb hX hbl hbA hW.2.2.2.1 h_1 dL_law_902 ?_
  refine g_cvi X hW (As := [.int (xs (x3 + (1 : Int32)).toNatClampNeg)]) (ws' := lawW G a (va_up (va_up (va_up (va_up E 36 z_mt_offers) 37 z_mt_wants) 38 z_mt_pairs) 39 z_mt_gap) (va_up (va_up (va_up F 28 z_mt_score) 29 z_mt_best) 30 z_mt_given) M (va_up N 15 yz_m_best)) ckL_X7_match (kcX7_match (l := l) G (a 56) (a 57) (a 61) (a 62) (a 63) (a 72) (a 58) (a 59) (a 60) (a 64) (a 65) (a 66) (a 67) (a 68) (a 69) (a 70) (a 71) (a 73) (a 74) (xs (x3 + (1 : Int32)).toNatClampNeg) (M 0) (M 1) (M 2) (M 3) (M 4) (M 5) (M 6) (M 7) (M 8) (M 9) (N 0) (N 4) (N 5) (N 6) (N 15) hq2) ⟨rfl, rfl, Nat.le_of_ble_eq_true rfl, Nat.le_of_ble_eq_true rfl⟩ [56, 57, 61, 62, 63, 72] rfl rfl rfl rfl rfl rfl rfl hl.1 (Nat.le_of_ble_eq_true rfl) ⟨Nat.le_of_ble_eq_true rfl, Nat.le_of_ble_eq_true rfl⟩ dL_law_903 (fun H locs hW => ?_)
  refine lv_icmp_eq (tgt := 1333) hx hb dL_law_906 (by decide) (fun _ => ?_) (fun c => absurd rfl c)
  exact Hk _ _ _ _ hI H locs hW
set_option maxHeartbeats 16000000 in
set_option maxRecDepth 100000 in
theorem law_clear {p : Program} {l : Launch} {e : Env} {s : State} {m : MethodId} {args : Array Value} {below : List Frame} {meth : Method} {c : Code} {G : Gt} {a : Nat → Nat} {b L : Nat} {xs : Nat → Int32} {Q : State → Prop} (X : Bx p s m args meth c code 4 lw_tbl RL ret) (hX : va_X b L xs s s.heap) (hbl : b < s.heap.size) (Inv : (Nat → Int32) → (Nat → Nat → Int32) → (Nat → Int32) → (Nat → Nat → Int32) → Prop) (hop : Op_clear Inv) (E : Nat → Int32) (F : Nat → Nat → Int32) (M : Nat → Int32) (N : Nat → Nat → Int32) (hI : Inv E F M N) (x3 : Int32) (h_1 : vp_in (x3 + (1 : Int32)) L) (h_2 : vp_in (x3 + (2 : Int32)) L) (h_3 : vp_in (x3 + (3 : Int32)) L) (h_4 : vp_in (x3 + (4 : Int32)) L) (h_5 : vp_in (x3 + (5 : Int32)) L) (h_6 : vp_in (x3 + (6 : Int32)) L) (H : Heap) (locs : List Loc) (hW : Wo G (fun q : Nat => s.heap.size ≤ q) s (lawW G a E F M N) H locs) (ls : Array Slot) (hl : lv_has ls 4 [(0, .ref b), (1, .ref (a 0)), (2, .ref (a 56)), (3, .int x3)]) (Hk : ∀ (E : Nat → Int32) (F : Nat → Nat → Int32) (M : Nat → Int32) (N : Nat → Nat → Int32), Inv E F M N → ∀ (H : Heap) (locs : List Loc), Wo G (fun q : Nat => s.heap.size ≤ q) s (lawW G a E F M N) H locs → W p l e room_1 s m args below meth c H locs 600000 7302250 Q (F0 m 1333 ls [])) : W p l e room_1 s m args below meth c H locs 600000 7302250 Q (F0 m 911 ls []) := by
  obtain ⟨hx, hb, -⟩ := id X.1
  have hbA : ¬ (fun q : Nat => s.heap.size ≤ q) b := Nat.not_le.mpr hbl
  refine lv_aload_n hx hb dL_law_911 rfl (lv_at hl 1 rfl) ?_
  obtain ⟨r, z_offers_r, z_wants_r, yz_m_numbers, hq, hq2, hI⟩ := hop E F M N  hI
  refine g_cvi X hW (As := []) (ws' := lawW G a (va_up (va_up E 10 z_offers_r) 11 z_wants_r) F M N) ckL_X6_clear (kcX6_clear (l := l) G (a 0) (a 1) (a 10) (a 12) (a 20) (a 39) (a 41) (a 43) (a 52) (a 2) (a 4) (a 6) (a 8) (a 14) (a 16) (a 18) (a 11) (a 13) (E 0) (E 1) (E 2) (E 3) (E 4) (E 5) (E 10) (E 11) hq) ⟨rfl, rfl, Nat.le_of_ble_eq_true rfl, Nat.le_of_ble_eq_true rfl⟩ [0, 1, 10, 12] rfl rfl rfl rfl rfl rfl rfl hl.1 (Nat.le_of_ble_eq_true rfl) ⟨Nat.le_of_ble_eq_true rfl, Nat.le_of_ble_eq_true rfl⟩ dL_law_912 (fun H locs hW => ?_)
  refine lv_aload_n hx hb dL_law_915 rfl (lv_at hl 2 rfl) ?_
  refine g_cvi X hW (As := []) (ws' := lawW G a (va_up (va_up E 10 z_offers_r) 11 z_wants_r) F M (va_up N 0 yz_m_numbers)) ckL_X7_clear (kcX7_clear (l := l) G (a 56) (a 57) (a 58) (a 59) (a 60) (a 61) (a 62) (a 63) (a 64) (a 65) (a 66) (a 67) (a 68) (a 69) (a 70) (a 71) (a 72) (a 73) (a 74) (M 0) (M 1) (M 2) (M 3) (M 4) (M 5) (M 6) (M 7) (M 8) (M 9) (N 0) hq2) ⟨rfl, rfl, Nat.le_of_ble_eq_true rfl, Nat.le_of_ble_eq_true rfl⟩ [56, 57] rfl rfl rfl rfl rfl rfl rfl hl.1 (Nat.le_of_ble_eq_true rfl) ⟨Nat.le_of_ble_eq_true rfl, Nat.le_of_ble_eq_true rfl⟩ dL_law_916 (fun H locs hW => ?_)
  refine lv_icmp_eq (tgt := 1333) hx hb dL_law_919 (by decide) (fun _ => ?_) (fun c => absurd rfl c)
  exact Hk _ _ _ _ hI H locs hW
set_option maxHeartbeats 16000000 in
set_option maxRecDepth 100000 in
theorem law_feed {p : Program} {l : Launch} {e : Env} {s : State} {m : MethodId} {args : Array Value} {below : List Frame} {meth : Method} {c : Code} {G : Gt} {a : Nat → Nat} {b L : Nat} {xs : Nat → Int32} {Q : State → Prop} (X : Bx p s m args meth c code 4 lw_tbl RL ret) (hX : va_X b L xs s s.heap) (hbl : b < s.heap.size) (Inv : (Nat → Int32) → (Nat → Nat → Int32) → (Nat → Int32) → (Nat → Nat → Int32) → Prop) (hop : Op_feed Inv) (E : Nat → Int32) (F : Nat → Nat → Int32) (M : Nat → Int32) (N : Nat → Nat → Int32) (hI : Inv E F M N) (x3 : Int32) (h_1 : vp_in (x3 + (1 : Int32)) L) (h_2 : vp_in (x3 + (2 : Int32)) L) (h_3 : vp_in (x3 + (3 : Int32)) L) (h_4 : vp_in (x3 + (4 : Int32)) L) (h_5 : vp_in (x3 + (5 : Int32)) L) (h_6 : vp_in (x3 + (6 : Int32)) L) (H : Heap) (locs : List Loc) (hW : Wo G (fun q : Nat => s.heap.size ≤ q) s (lawW G a E F M N) H locs) (ls : Array Slot) (hl : lv_has ls 4 [(0, .ref b), (1, .ref (a 0)), (2, .ref (a 56)), (3, .int x3)]) (Hk : ∀ (E : Nat → Int32) (F : Nat → Nat → Int32) (M : Nat → Int32) (N : Nat → Nat → Int32), Inv E F M N → ∀ (H : Heap) (locs : List Loc), Wo G (fun q : Nat => s.heap.size ≤ q) s (lawW G a E F M N) H locs → W p l e room_1 s m args below meth c H locs 600000 7302250 Q (F0 m 1333 ls [])) : W p l e room_1 s m args below meth c H locs 600000 7302250 Q (F0 m 924 ls []) := by
  obtain ⟨hx, hb, -⟩ := id X.1
  have hbA : ¬ (fun q : Nat => s.heap.size ≤ q) b := Nat.not_le.mpr hbl
  refine lv_aload_n hx hb dL_law_924 rfl (lv_at hl 1 rfl) ?_
  refine lv_aload_n hx hb dL_law_925 rfl (lv_at hl 0 rfl) ?_
  refine lv_iload_n hx hb dL_law_926 rfl (lv_at hl 3 rfl) ?_
  refine lv_iconst (v := (1 : Int32)) hx hb dL_law_927 (by decide) ?_
  refine lv_iadd hx hb dL_law_928 ?_
  refine va_sld hx hb hX hbl hbA hW.2.2.2.1 h_1 dL_law_929 ?_
  refine lv_i2l hx hb dL_law_930 rfl ?_
  refine lv_bipush (v := (32 : Int32)) hx hb dL_law_931 (by decide) ?_
  refine g_lshl hx hb dL_law_933 ?_
  refine lv_aload_n hx hb dL_law_934 rfl (lv_at hl 0 rfl) ?_
  refine lv_iload_n hx hb dL_law_935 rfl (lv_at hl 3 rfl) ?_
  refine lv_iconst (v := (2 : Int32)) hx hb dL_law_936 (by decide) ?_
  refine lv_iadd hx hb dL_law_937 ?_
  refine va_sld hx hb hX hbl hbA hW.2.2.2.1 h_2 dL_law_938 ?_
  refine lv_i2l hx hb dL_law_939 rfl ?_
  refine lv_ldc2 hx hb X.1.2.2.2.1 (X.1.2.2.2.2 _ cwL_100) dL_law_940 ?_
  refine lv_land hx hb dL_law_943 ?_
  refine lv_lor hx hb dL_law_944 ?_
  refine lv_aload_n hx hb dL_law_945 rfl (lv_at hl 0 rfl) ?_
  refine lv_iload_n hx hb dL_law_946 rfl (lv_at hl 3 rfl) ?_
  refine lv_iconst (v := (3 : Int32)) hx hb dL_law_947 (by decide) ?_
  refine lv_iadd hx hb dL_law_948 ?_
  refine va_sld hx hb hX hbl hbA hW.2.2.2.1 h_3 dL_law_949 ?_
  obtain ⟨r, z_tp_many, z_tp_f, yz_m_tapeMany, yz_m_tape, hq, hq2, hI⟩ := hop E F M N ((lshl (xs (x3 + (1 : Int32)).toNatClampNeg).toInt64 (32 : Int32)) ||| ((xs (x3 + (2 : Int32)).toNatClampNeg).toInt64 &&& (4294967295 : Int64))) (xs (x3 + (3 : Int32)).toNatClampNeg) hI
  refine g_cvi X hW (As := [.long ((lshl (xs (x3 + (1 : Int32)).toNatClampNeg).toInt64 (32 : Int32)) ||| ((xs (x3 + (2 : Int32)).toNatClampNeg).toInt64 &&& (4294967295 : Int64))), .int (xs (x3 + (3 : Int32)).toNatClampNeg)]) (ws' := lawW G a (va_up E 28 z_tp_many) (va_up F 18 z_tp_f) M N) ckL_X6_feed (kcX6_feed (l := l) G (a 0) (a 39) (a 40) (a 1) (a 20) (a 41) (a 43) (a 52) ((lshl (xs (x3 + (1 : Int32)).toNatClampNeg).toInt64 (32 : Int32)) ||| ((xs (x3 + (2 : Int32)).toNatClampNeg).toInt64 &&& (4294967295 : Int64))) (xs (x3 + (3 : Int32)).toNatClampNeg) (E 0) (E 1) (E 28) (E 29) (E 30) (F 18) hq) ⟨rfl, rfl, Nat.le_of_ble_eq_true rfl, Nat.le_of_ble_eq_true rfl⟩ [0, 39, 40] rfl rfl rfl rfl rfl rfl rfl hl.1 (Nat.le_of_ble_eq_true rfl) ⟨Nat.le_of_ble_eq_true rfl, Nat.le_of_ble_eq_true rfl⟩ dL_law_950 (fun H locs hW => ?_)
  refine lv_aload_n hx hb dL_law_953 rfl (lv_at hl 2 rfl) ?_
  refine lv_aload_n hx hb dL_law_954 rfl (lv_at hl 0 rfl) ?_
  refine lv_iload_n hx hb dL_law_955 rfl (lv_at hl 3 rfl) ?_
  refine lv_iconst (v := (1 : Int32)) hx hb dL_law_956 (by decide) ?_
  refine lv_iadd hx hb dL_law_957 ?_
  refine va_sld hx hb hX hbl hbA hW.2.2.2.1 h_1 dL_law_958 ?_
  refine lv_i2l hx hb dL_law_959 rfl ?_
  refine lv_bipush (v := (32 : Int32)) hx hb dL_law_960 (by decide) ?_
  refine g_lshl hx hb dL_law_962 ?_
  refine lv_aload_n hx hb dL_law_963 rfl (lv_at hl 0 rfl) ?_
  refine lv_iload_n hx hb dL_law_964 rfl (lv_at hl 3 rfl) ?_
  refine lv_iconst (v := (2 : Int32)) hx hb dL_law_965 (by decide) ?_
  refine lv_iadd hx hb dL_law_966 ?_
  refine va_sld hx hb hX hbl hbA hW.2.2.2.1 h_2 dL_law_967 ?_
  refine lv_i2l hx hb dL_law_968 rfl ?_
  refine lv_ldc2 hx hb X.1.2.2.2.1 (X.1.2.2.2.2 _ cwL_100) dL_law_969 ?_
  refine lv_land hx hb dL_law_972 ?_
  refine lv_lor hx hb dL_law_973 ?_
  refine lv_aload_n hx hb dL_law_974 rfl (lv_at hl 0 rfl) ?_
  refine lv_iload_n hx hb dL_law_975 rfl (lv_at hl 3 rfl) ?_
  refine lv_iconst (v := (3 : Int32)) hx hb dL_law_976 (by decide) ?_
  refine lv_iadd hx hb dL_law_977 ?_
  refine va_sld hx hb hX hbl hbA hW.2.2.2.1 h_3 dL_law_978 ?_
  refine g_cvi X hW (As := [.long ((lshl (xs (x3 + (1 : Int32)).toNatClampNeg).toInt64 (32 : Int32)) ||| ((xs (x3 + (2 : Int32)).toNatClampNeg).toInt64 &&& (4294967295 : Int64))), .int (xs (x3 + (3 : Int32)).toNatClampNeg)]) (ws' := lawW G a (va_up E 28 z_tp_many) (va_up F 18 z_tp_f) (va_up M 1 yz_m_tapeMany) (va_up N 16 yz_m_tape)) ckL_X7_feed (kcX7_feed (l := l) G (a 56) (a 73) (a 57) (a 58) (a 59) (a 60) (a 61) (a 62) (a 63) (a 64) (a 65) (a 66) (a 67) (a 68) (a 69) (a 70) (a 71) (a 72) (a 74) ((lshl (xs (x3 + (1 : Int32)).toNatClampNeg).toInt64 (32 : Int32)) ||| ((xs (x3 + (2 : Int32)).toNatClampNeg).toInt64 &&& (4294967295 : Int64))) (xs (x3 + (3 : Int32)).toNatClampNeg) (M 0) (M 1) (M 2) (M 3) (M 4) (M 5) (M 6) (M 7) (M 8) (M 9) (N 16) hq2) ⟨rfl, rfl, Nat.le_of_ble_eq_true rfl, Nat.le_of_ble_eq_true rfl⟩ [56, 73] rfl rfl rfl rfl rfl rfl rfl hl.1 (Nat.le_of_ble_eq_true rfl) ⟨Nat.le_of_ble_eq_true rfl, Nat.le_of_ble_eq_true rfl⟩ dL_law_979 (fun H locs hW => ?_)
  refine lv_icmp_eq (tgt := 1333) hx hb dL_law_982 (by decide) (fun _ => ?_) (fun c => absurd rfl c)
  exact Hk _ _ _ _ hI H locs hW
set_option maxHeartbeats 16000000 in
set_option maxRecDepth 100000 in
theorem law_read {p : Program} {l : Launch} {e : Env} {s : State} {m : MethodId} {args : Array Value} {below : List Frame} {meth : Method} {c : Code} {G : Gt} {a : Nat → Nat} {b L : Nat} {xs : Nat → Int32} {Q : State → Prop} (X : Bx p s m args meth c code 4 lw_tbl RL ret) (hX : va_X b L xs s s.heap) (hbl : b < s.heap.size) (Inv : (Nat → Int32) → (Nat → Nat → Int32) → (Nat → Int32) → (Nat → Nat → Int32) → Prop) (hop : Op_read Inv) (E : Nat → Int32) (F : Nat → Nat → Int32) (M : Nat → Int32) (N : Nat → Nat → Int32) (hI : Inv E F M N) (x3 : Int32) (h_1 : vp_in (x3 + (1 : Int32)) L) (h_2 : vp_in (x3 + (2 : Int32)) L) (h_3 : vp_in (x3 + (3 : Int32)) L) (h_4 : vp_in (x3 + (4 : Int32)) L) (h_5 : vp_in (x3 + (5 : Int32)) L) (h_6 : vp_in (x3 + (6 : Int32)) L) (H : Heap) (locs : List Loc) (hW : Wo G (fun q : Nat => s.heap.size ≤ q) s (lawW G a E F M N) H locs) (ls : Array Slot) (hl : lv_has ls 4 [(0, .ref b), (1, .ref (a 0)), (2, .ref (a 56)), (3, .int x3)]) (Hk : ∀ (E : Nat → Int32) (F : Nat → Nat → Int32) (M : Nat → Int32) (N : Nat → Nat → Int32), Inv E F M N → ∀ (H : Heap) (locs : List Loc), Wo G (fun q : Nat => s.heap.size ≤ q) s (lawW G a E F M N) H locs → W p l e room_1 s m args below meth c H locs 600000 7302250 Q (F0 m 1333 ls [])) : W p l e room_1 s m args below meth c H locs 600000 7302250 Q (F0 m 987 ls []) := by
  obtain ⟨hx, hb, -⟩ := id X.1
  have hbA : ¬ (fun q : Nat => s.heap.size ≤ q) b := Nat.not_le.mpr hbl
  refine lv_aload_n hx hb dL_law_987 rfl (lv_at hl 1 rfl) ?_
  refine lv_aload_n hx hb dL_law_988 rfl (lv_at hl 0 rfl) ?_
  refine lv_iload_n hx hb dL_law_989 rfl (lv_at hl 3 rfl) ?_
  refine lv_iconst (v := (1 : Int32)) hx hb dL_law_990 (by decide) ?_
  refine lv_iadd hx hb dL_law_991 ?_
  refine va_sld hx hb hX hbl hbA hW.2.2.2.1 h_1 dL_law_992 ?_
  obtain ⟨r, z_leases_f, z_tp_many, z_tp_first, z_tp_behind, z_tx_clauses, z_tx_fault, z_tx_f, yz_m_tapeMany, yz_m_tokenKind, yz_m_tokenAt, yz_m_tokenEnd, yz_m_tokenValue, yz_m_fault, yz_m_seen, yz_m_leases, hq, hq2, hI⟩ := hop E F M N (xs (x3 + (1 : Int32)).toNatClampNeg) hI
  refine g_cvi X hW (As := [.int (xs (x3 + (1 : Int32)).toNatClampNeg)]) (ws' := lawW G a (va_up (va_up (va_up (va_up (va_up E 28 z_tp_many) 29 z_tp_first) 30 z_tp_behind) 31 z_tx_clauses) 32 z_tx_fault) (va_up (va_up F 7 z_leases_f) 19 z_tx_f) M N) ckL_X6_read (kcX6_read (l := l) G (a 0) (a 1) (a 16) (a 17) (a 39) (a 40) (a 41) (a 42) (a 20) (a 43) (a 52) (a 2) (a 4) (a 6) (a 8) (a 10) (a 12) (a 14) (a 18) (xs (x3 + (1 : Int32)).toNatClampNeg) (E 0) (E 1) (E 2) (E 3) (E 4) (E 5) (E 13) (F 7) (E 28) (E 29) (E 30) (F 18) (E 31) (E 32) (F 19) hq) ⟨rfl, rfl, Nat.le_of_ble_eq_true rfl, Nat.le_of_ble_eq_true rfl⟩ [0, 1, 16, 17, 39, 40, 41, 42] rfl rfl rfl rfl rfl rfl rfl hl.1 (Nat.le_of_ble_eq_true rfl) ⟨Nat.le_of_ble_eq_true rfl, Nat.le_of_ble_eq_true rfl⟩ dL_law_993 (fun H locs hW => ?_)
  refine lv_aload_n hx hb dL_law_996 rfl (lv_at hl 2 rfl) ?_
  refine lv_aload_n hx hb dL_law_997 rfl (lv_at hl 0 rfl) ?_
  refine lv_iload_n hx hb dL_law_998 rfl (lv_at hl 3 rfl) ?_
  refine lv_iconst (v := (1 : Int32)) hx hb dL_law_999 (by decide) ?_
  refine lv_iadd hx hb dL_law_1000 ?_
  refine va_sld hx hb hX hbl hbA hW.2.2.2.1 h_1 dL_law_1001 ?_
  refine g_cvi X hW (As := [.int (xs (x3 + (1 : Int32)).toNatClampNeg)]) (ws' := lawW G a (va_up (va_up (va_up (va_up (va_up E 28 z_tp_many) 29 z_tp_first) 30 z_tp_behind) 31 z_tx_clauses) 32 z_tx_fault) (va_up (va_up F 7 z_leases_f) 19 z_tx_f) (va_up (va_up (va_up (va_up (va_up (va_up (va_up M 1 yz_m_tapeMany) 2 yz_m_tokenKind) 3 yz_m_tokenAt) 4 yz_m_tokenEnd) 5 yz_m_tokenValue) 6 yz_m_fault) 7 yz_m_seen) (va_up N 7 yz_m_leases)) ckL_X7_read (kcX7_read (l := l) G (a 56) (a 64) (a 73) (a 57) (a 58) (a 59) (a 60) (a 61) (a 62) (a 63) (a 65) (a 66) (a 67) (a 68) (a 69) (a 70) (a 71) (a 72) (a 74) (xs (x3 + (1 : Int32)).toNatClampNeg) (M 0) (M 1) (M 2) (M 3) (M 4) (M 5) (M 6) (M 7) (M 8) (M 9) (N 7) (N 16) hq2) ⟨rfl, rfl, Nat.le_of_ble_eq_true rfl, Nat.le_of_ble_eq_true rfl⟩ [56, 64, 73] rfl rfl rfl rfl rfl rfl rfl hl.1 (Nat.le_of_ble_eq_true rfl) ⟨Nat.le_of_ble_eq_true rfl, Nat.le_of_ble_eq_true rfl⟩ dL_law_1002 (fun H locs hW => ?_)
  refine lv_icmp_eq (tgt := 1333) hx hb dL_law_1005 (by decide) (fun _ => ?_) (fun c => absurd rfl c)
  exact Hk _ _ _ _ hI H locs hW
set_option maxHeartbeats 16000000 in
set_option maxRecDepth 100000 in
theorem law_lease {p : Program} {l : Launch} {e : Env} {s : State} {m : MethodId} {args : Array Value} {below : List Frame} {meth : Method} {c : Code} {G : Gt} {a : Nat → Nat} {b L : Nat} {xs : Nat → Int32} {Q : State → Prop} (X : Bx p s m args meth c code 4 lw_tbl RL ret) (hX : va_X b L xs s s.heap) (hbl : b < s.heap.size) (Inv : (Nat → Int32) → (Nat → Nat → Int32) → (Nat → Int32) → (Nat → Nat → Int32) → Prop) (hop : Op_lease Inv) (E : Nat → Int32) (F : Nat → Nat → Int32) (M : Nat → Int32) (N : Nat → Nat → Int32) (hI : Inv E F M N) (x3 : Int32) (h_1 : vp_in (x3 + (1 : Int32)) L) (h_2 : vp_in (x3 + (2 : Int32)) L) (h_3 : vp_in (x3 + (3 : Int32)) L) (h_4 : vp_in (x3 + (4 : Int32)) L) (h_5 : vp_in (x3 + (5 : Int32)) L) (h_6 : vp_in (x3 + (6 : Int32)) L) (H : Heap) (locs : List Loc) (hW : Wo G (fun q : Nat => s.heap.size ≤ q) s (lawW G a E F M N) H locs) (ls : Array Slot) (hl : lv_has ls 4 [(0, .ref b), (1, .ref (a 0)), (2, .ref (a 56)), (3, .int x3)]) (Hk : ∀ (E : Nat → Int32) (F : Nat → Nat → Int32) (M : Nat → Int32) (N : Nat → Nat → Int32), Inv E F M N → ∀ (H : Heap) (locs : List Loc), Wo G (fun q : Nat => s.heap.size ≤ q) s (lawW G a E F M N) H locs → W p l e room_1 s m args below meth c H locs 600000 7302250 Q (F0 m 1333 ls [])) : W p l e room_1 s m args below meth c H locs 600000 7302250 Q (F0 m 1010 ls []) := by
  obtain ⟨hx, hb, -⟩ := id X.1
  have hbA : ¬ (fun q : Nat => s.heap.size ≤ q) b := Nat.not_le.mpr hbl
  refine lv_aload_n hx hb dL_law_1010 rfl (lv_at hl 1 rfl) ?_
  refine lv_aload_n hx hb dL_law_1011 rfl (lv_at hl 0 rfl) ?_
  refine lv_iload_n hx hb dL_law_1012 rfl (lv_at hl 3 rfl) ?_
  refine lv_iconst (v := (1 : Int32)) hx hb dL_law_1013 (by decide) ?_
  refine lv_iadd hx hb dL_law_1014 ?_
  refine va_sld hx hb hX hbl hbA hW.2.2.2.1 h_1 dL_law_1015 ?_
  refine lv_aload_n hx hb dL_law_1016 rfl (lv_at hl 0 rfl) ?_
  refine lv_iload_n hx hb dL_law_1017 rfl (lv_at hl 3 rfl) ?_
  refine lv_iconst (v := (2 : Int32)) hx hb dL_law_1018 (by decide) ?_
  refine lv_iadd hx hb dL_law_1019 ?_
  refine va_sld hx hb hX hbl hbA hW.2.2.2.1 h_2 dL_law_1020 ?_
  obtain ⟨r, hq, hq2, hI⟩ := hop E F M N (xs (x3 + (1 : Int32)).toNatClampNeg) (xs (x3 + (2 : Int32)).toNatClampNeg) hI
  refine g_cvi X hW (As := [.int (xs (x3 + (1 : Int32)).toNatClampNeg), .int (xs (x3 + (2 : Int32)).toNatClampNeg)]) (ws' := lawW G a E F M N) ckL_X6_lease (kcX6_lease (l := l) G (a 0) (a 1) (a 16) (a 17) (a 20) (a 39) (a 41) (a 43) (a 52) (a 2) (a 4) (a 6) (a 8) (a 10) (a 12) (a 14) (a 18) (xs (x3 + (1 : Int32)).toNatClampNeg) (xs (x3 + (2 : Int32)).toNatClampNeg) (E 0) (E 1) (E 2) (E 3) (E 4) (E 5) (E 13) (F 7) hq) ⟨rfl, rfl, Nat.le_of_ble_eq_true rfl, Nat.le_of_ble_eq_true rfl⟩ [0, 1, 16, 17] rfl rfl rfl rfl rfl rfl rfl hl.1 (Nat.le_of_ble_eq_true rfl) ⟨Nat.le_of_ble_eq_true rfl, Nat.le_of_ble_eq_true rfl⟩ dL_law_1021 (fun H locs hW => ?_)
  refine lv_aload_n hx hb dL_law_1024 rfl (lv_at hl 2 rfl) ?_
  refine lv_aload_n hx hb dL_law_1025 rfl (lv_at hl 0 rfl) ?_
  refine lv_iload_n hx hb dL_law_1026 rfl (lv_at hl 3 rfl) ?_
  refine lv_iconst (v := (1 : Int32)) hx hb dL_law_1027 (by decide) ?_
  refine lv_iadd hx hb dL_law_1028 ?_
  refine va_sld hx hb hX hbl hbA hW.2.2.2.1 h_1 dL_law_1029 ?_
  refine lv_aload_n hx hb dL_law_1030 rfl (lv_at hl 0 rfl) ?_
  refine lv_iload_n hx hb dL_law_1031 rfl (lv_at hl 3 rfl) ?_
  refine lv_iconst (v := (2 : Int32)) hx hb dL_law_1032 (by decide) ?_
  refine lv_iadd hx hb dL_law_1033 ?_
  refine va_sld hx hb hX hbl hbA hW.2.2.2.1 h_2 dL_law_1034 ?_
  refine g_cvi X hW (As := [.int (xs (x3 + (1 : Int32)).toNatClampNeg), .int (xs (x3 + (2 : Int32)).toNatClampNeg)]) (ws' := lawW G a E F M N) ckL_X7_lease (kcX7_lease (l := l) G (a 56) (a 64) (a 57) (a 58) (a 59) (a 60) (a 61) (a 62) (a 63) (a 65) (a 66) (a 67) (a 68) (a 69) (a 70) (a 71) (a 72) (a 73) (a 74) (xs (x3 + (1 : Int32)).toNatClampNeg) (xs (x3 + (2 : Int32)).toNatClampNeg) (M 0) (M 1) (M 2) (M 3) (M 4) (M 5) (M 6) (M 7) (M 8) (M 9) (N 7) hq2) ⟨rfl, rfl, Nat.le_of_ble_eq_true rfl, Nat.le_of_ble_eq_true rfl⟩ [56, 64] rfl rfl rfl rfl rfl rfl rfl hl.1 (Nat.le_of_ble_eq_true rfl) ⟨Nat.le_of_ble_eq_true rfl, Nat.le_of_ble_eq_true rfl⟩ dL_law_1035 (fun H locs hW => ?_)
  refine lv_icmp_eq (tgt := 1333) hx hb dL_law_1038 (by decide) (fun _ => ?_) (fun c => absurd rfl c)
  exact Hk _ _ _ _ hI H locs hW
set_option maxHeartbeats 16000000 in
set_option maxRecDepth 100000 in
theorem law_giveBack {p : Program} {l : Launch} {e : Env} {s : State} {m : MethodId} {args : Array Value} {below : List Frame} {meth : Method} {c : Code} {G : Gt} {a : Nat → Nat} {b L : Nat} {xs : Nat → Int32} {Q : State → Prop} (X : Bx p s m args meth c code 4 lw_tbl RL ret) (hX : va_X b L xs s s.heap) (hbl : b < s.heap.size) (Inv : (Nat → Int32) → (Nat → Nat → Int32) → (Nat → Int32) → (Nat → Nat → Int32) → Prop) (hop : Op_giveBack Inv) (E : Nat → Int32) (F : Nat → Nat → Int32) (M : Nat → Int32) (N : Nat → Nat → Int32) (hI : Inv E F M N) (x3 : Int32) (h_1 : vp_in (x3 + (1 : Int32)) L) (h_2 : vp_in (x3 + (2 : Int32)) L) (h_3 : vp_in (x3 + (3 : Int32)) L) (h_4 : vp_in (x3 + (4 : Int32)) L) (h_5 : vp_in (x3 + (5 : Int32)) L) (h_6 : vp_in (x3 + (6 : Int32)) L) (H : Heap) (locs : List Loc) (hW : Wo G (fun q : Nat => s.heap.size ≤ q) s (lawW G a E F M N) H locs) (ls : Array Slot) (hl : lv_has ls 4 [(0, .ref b), (1, .ref (a 0)), (2, .ref (a 56)), (3, .int x3)]) (Hk : ∀ (E : Nat → Int32) (F : Nat → Nat → Int32) (M : Nat → Int32) (N : Nat → Nat → Int32), Inv E F M N → ∀ (H : Heap) (locs : List Loc), Wo G (fun q : Nat => s.heap.size ≤ q) s (lawW G a E F M N) H locs → W p l e room_1 s m args below meth c H locs 600000 7302250 Q (F0 m 1333 ls [])) : W p l e room_1 s m args below meth c H locs 600000 7302250 Q (F0 m 1043 ls []) := by
  obtain ⟨hx, hb, -⟩ := id X.1
  have hbA : ¬ (fun q : Nat => s.heap.size ≤ q) b := Nat.not_le.mpr hbl
  refine lv_aload_n hx hb dL_law_1043 rfl (lv_at hl 1 rfl) ?_
  refine lv_aload_n hx hb dL_law_1044 rfl (lv_at hl 0 rfl) ?_
  refine lv_iload_n hx hb dL_law_1045 rfl (lv_at hl 3 rfl) ?_
  refine lv_iconst (v := (1 : Int32)) hx hb dL_law_1046 (by decide) ?_
  refine lv_iadd hx hb dL_law_1047 ?_
  refine va_sld hx hb hX hbl hbA hW.2.2.2.1 h_1 dL_law_1048 ?_
  refine lv_aload_n hx hb dL_law_1049 rfl (lv_at hl 0 rfl) ?_
  refine lv_iload_n hx hb dL_law_1050 rfl (lv_at hl 3 rfl) ?_
  refine lv_iconst (v := (2 : Int32)) hx hb dL_law_1051 (by decide) ?_
  refine lv_iadd hx hb dL_law_1052 ?_
  refine va_sld hx hb hX hbl hbA hW.2.2.2.1 h_2 dL_law_1053 ?_
  obtain ⟨r, z_boxes_f, yz_m_boxes, hq, hq2, hI⟩ := hop E F M N (xs (x3 + (1 : Int32)).toNatClampNeg) (xs (x3 + (2 : Int32)).toNatClampNeg) hI
  refine g_cvi X hW (As := [.int (xs (x3 + (1 : Int32)).toNatClampNeg), .int (xs (x3 + (2 : Int32)).toNatClampNeg)]) (ws' := lawW G a E (va_up F 0 z_boxes_f) M N) ckL_X6_giveBack (kcX6_giveBack (l := l) G (a 0) (a 1) (a 2) (a 3) (a 4) (a 5) (a 16) (a 17) (a 20) (a 39) (a 41) (a 43) (a 52) (a 6) (a 8) (a 10) (a 12) (a 14) (a 18) (xs (x3 + (1 : Int32)).toNatClampNeg) (xs (x3 + (2 : Int32)).toNatClampNeg) (E 0) (E 1) (E 2) (E 3) (E 4) (E 5) (E 6) (F 0) (E 7) (F 1) (E 13) (F 7) hq) ⟨rfl, rfl, Nat.le_of_ble_eq_true rfl, Nat.le_of_ble_eq_true rfl⟩ [0, 1, 2, 3, 4, 5, 16, 17] rfl rfl rfl rfl rfl rfl rfl hl.1 (Nat.le_of_ble_eq_true rfl) ⟨Nat.le_of_ble_eq_true rfl, Nat.le_of_ble_eq_true rfl⟩ dL_law_1054 (fun H locs hW => ?_)
  refine lv_aload_n hx hb dL_law_1057 rfl (lv_at hl 2 rfl) ?_
  refine lv_aload_n hx hb dL_law_1058 rfl (lv_at hl 0 rfl) ?_
  refine lv_iload_n hx hb dL_law_1059 rfl (lv_at hl 3 rfl) ?_
  refine lv_iconst (v := (1 : Int32)) hx hb dL_law_1060 (by decide) ?_
  refine lv_iadd hx hb dL_law_1061 ?_
  refine va_sld hx hb hX hbl hbA hW.2.2.2.1 h_1 dL_law_1062 ?_
  refine lv_aload_n hx hb dL_law_1063 rfl (lv_at hl 0 rfl) ?_
  refine lv_iload_n hx hb dL_law_1064 rfl (lv_at hl 3 rfl) ?_
  refine lv_iconst (v := (2 : Int32)) hx hb dL_law_1065 (by decide) ?_
  refine lv_iadd hx hb dL_law_1066 ?_
  refine va_sld hx hb hX hbl hbA hW.2.2.2.1 h_2 dL_law_1067 ?_
  refine g_cvi X hW (As := [.int (xs (x3 + (1 : Int32)).toNatClampNeg), .int (xs (x3 + (2 : Int32)).toNatClampNeg)]) (ws' := lawW G a E (va_up F 0 z_boxes_f) M (va_up N 1 yz_m_boxes)) ckL_X7_giveBack (kcX7_giveBack (l := l) G (a 56) (a 57) (a 58) (a 59) (a 64) (a 60) (a 61) (a 62) (a 63) (a 65) (a 66) (a 67) (a 68) (a 69) (a 70) (a 71) (a 72) (a 73) (a 74) (xs (x3 + (1 : Int32)).toNatClampNeg) (xs (x3 + (2 : Int32)).toNatClampNeg) (M 0) (M 1) (M 2) (M 3) (M 4) (M 5) (M 6) (M 7) (M 8) (M 9) (N 0) (N 1) (N 2) (N 7) hq2) ⟨rfl, rfl, Nat.le_of_ble_eq_true rfl, Nat.le_of_ble_eq_true rfl⟩ [56, 57, 58, 59, 64] rfl rfl rfl rfl rfl rfl rfl hl.1 (Nat.le_of_ble_eq_true rfl) ⟨Nat.le_of_ble_eq_true rfl, Nat.le_of_ble_eq_true rfl⟩ dL_law_1068 (fun H locs hW => ?_)
  refine lv_icmp_eq (tgt := 1333) hx hb dL_law_1071 (by decide) (fun _ => ?_) (fun c => absurd rfl c)
  exact Hk _ _ _ _ hI H locs hW
set_option maxHeartbeats 16000000 in
set_option maxRecDepth 100000 in
theorem law_writeOff {p : Program} {l : Launch} {e : Env} {s : State} {m : MethodId} {args : Array Value} {below : List Frame} {meth : Method} {c : Code} {G : Gt} {a : Nat → Nat} {b L : Nat} {xs : Nat → Int32} {Q : State → Prop} (X : Bx p s m args meth c code 4 lw_tbl RL ret) (hX : va_X b L xs s s.heap) (hbl : b < s.heap.size) (Inv : (Nat → Int32) → (Nat → Nat → Int32) → (Nat → Int32) → (Nat → Nat → Int32) → Prop) (hop : Op_writeOff Inv) (E : Nat → Int32) (F : Nat → Nat → Int32) (M : Nat → Int32) (N : Nat → Nat → Int32) (hI : Inv E F M N) (x3 : Int32) (h_1 : vp_in (x3 + (1 : Int32)) L) (h_2 : vp_in (x3 + (2 : Int32)) L) (h_3 : vp_in (x3 + (3 : Int32)) L) (h_4 : vp_in (x3 + (4 : Int32)) L) (h_5 : vp_in (x3 + (5 : Int32)) L) (h_6 : vp_in (x3 + (6 : Int32)) L) (H : Heap) (locs : List Loc) (hW : Wo G (fun q : Nat => s.heap.size ≤ q) s (lawW G a E F M N) H locs) (ls : Array Slot) (hl : lv_has ls 4 [(0, .ref b), (1, .ref (a 0)), (2, .ref (a 56)), (3, .int x3)]) (Hk : ∀ (E : Nat → Int32) (F : Nat → Nat → Int32) (M : Nat → Int32) (N : Nat → Nat → Int32), Inv E F M N → ∀ (H : Heap) (locs : List Loc), Wo G (fun q : Nat => s.heap.size ≤ q) s (lawW G a E F M N) H locs → W p l e room_1 s m args below meth c H locs 600000 7302250 Q (F0 m 1333 ls [])) : W p l e room_1 s m args below meth c H locs 600000 7302250 Q (F0 m 1076 ls []) := by
  obtain ⟨hx, hb, -⟩ := id X.1
  have hbA : ¬ (fun q : Nat => s.heap.size ≤ q) b := Nat.not_le.mpr hbl
  refine lv_aload_n hx hb dL_law_1076 rfl (lv_at hl 1 rfl) ?_
  refine lv_aload_n hx hb dL_law_1077 rfl (lv_at hl 0 rfl) ?_
  refine lv_iload_n hx hb dL_law_1078 rfl (lv_at hl 3 rfl) ?_
  refine lv_iconst (v := (1 : Int32)) hx hb dL_law_1079 (by decide) ?_
  refine lv_iadd hx hb dL_law_1080 ?_
  refine va_sld hx hb hX hbl hbA hW.2.2.2.1 h_1 dL_law_1081 ?_
  obtain ⟨r, z_boxes_f, yz_m_boxes, hq, hq2, hI⟩ := hop E F M N (xs (x3 + (1 : Int32)).toNatClampNeg) hI
  refine g_cvi X hW (As := [.int (xs (x3 + (1 : Int32)).toNatClampNeg)]) (ws' := lawW G a E (va_up F 0 z_boxes_f) M N) ckL_X6_writeOff (kcX6_writeOff (l := l) G (a 0) (a 1) (a 2) (a 3) (a 4) (a 5) (a 16) (a 17) (a 20) (a 39) (a 41) (a 43) (a 52) (a 6) (a 8) (a 10) (a 12) (a 14) (a 18) (xs (x3 + (1 : Int32)).toNatClampNeg) (E 0) (E 1) (E 2) (E 3) (E 4) (E 5) (E 6) (F 0) (E 7) (F 1) (E 13) (F 7) hq) ⟨rfl, rfl, Nat.le_of_ble_eq_true rfl, Nat.le_of_ble_eq_true rfl⟩ [0, 1, 2, 3, 4, 5, 16, 17] rfl rfl rfl rfl rfl rfl rfl hl.1 (Nat.le_of_ble_eq_true rfl) ⟨Nat.le_of_ble_eq_true rfl, Nat.le_of_ble_eq_true rfl⟩ dL_law_1082 (fun H locs hW => ?_)
  refine lv_aload_n hx hb dL_law_1085 rfl (lv_at hl 2 rfl) ?_
  refine lv_aload_n hx hb dL_law_1086 rfl (lv_at hl 0 rfl) ?_
  refine lv_iload_n hx hb dL_law_1087 rfl (lv_at hl 3 rfl) ?_
  refine lv_iconst (v := (1 : Int32)) hx hb dL_law_1088 (by decide) ?_
  refine lv_iadd hx hb dL_law_1089 ?_
  refine va_sld hx hb hX hbl hbA hW.2.2.2.1 h_1 dL_law_1090 ?_
  refine g_cvi X hW (As := [.int (xs (x3 + (1 : Int32)).toNatClampNeg)]) (ws' := lawW G a E (va_up F 0 z_boxes_f) M (va_up N 1 yz_m_boxes)) ckL_X7_writeOff (kcX7_writeOff (l := l) G (a 56) (a 57) (a 58) (a 59) (a 64) (a 60) (a 61) (a 62) (a 63) (a 65) (a 66) (a 67) (a 68) (a 69) (a 70) (a 71) (a 72) (a 73) (a 74) (xs (x3 + (1 : Int32)).toNatClampNeg) (M 0) (M 1) (M 2) (M 3) (M 4) (M 5) (M 6) (M 7) (M 8) (M 9) (N 0) (N 1) (N 2) (N 7) hq2) ⟨rfl, rfl, Nat.le_of_ble_eq_true rfl, Nat.le_of_ble_eq_true rfl⟩ [56, 57, 58, 59, 64] rfl rfl rfl rfl rfl rfl rfl hl.1 (Nat.le_of_ble_eq_true rfl) ⟨Nat.le_of_ble_eq_true rfl, Nat.le_of_ble_eq_true rfl⟩ dL_law_1091 (fun H locs hW => ?_)
  refine lv_icmp_eq (tgt := 1333) hx hb dL_law_1094 (by decide) (fun _ => ?_) (fun c => absurd rfl c)
  exact Hk _ _ _ _ hI H locs hW
set_option maxHeartbeats 16000000 in
set_option maxRecDepth 100000 in
theorem law_rate {p : Program} {l : Launch} {e : Env} {s : State} {m : MethodId} {args : Array Value} {below : List Frame} {meth : Method} {c : Code} {G : Gt} {a : Nat → Nat} {b L : Nat} {xs : Nat → Int32} {Q : State → Prop} (X : Bx p s m args meth c code 4 lw_tbl RL ret) (hX : va_X b L xs s s.heap) (hbl : b < s.heap.size) (Inv : (Nat → Int32) → (Nat → Nat → Int32) → (Nat → Int32) → (Nat → Nat → Int32) → Prop) (hop : Op_rate Inv) (E : Nat → Int32) (F : Nat → Nat → Int32) (M : Nat → Int32) (N : Nat → Nat → Int32) (hI : Inv E F M N) (x3 : Int32) (h_1 : vp_in (x3 + (1 : Int32)) L) (h_2 : vp_in (x3 + (2 : Int32)) L) (h_3 : vp_in (x3 + (3 : Int32)) L) (h_4 : vp_in (x3 + (4 : Int32)) L) (h_5 : vp_in (x3 + (5 : Int32)) L) (h_6 : vp_in (x3 + (6 : Int32)) L) (H : Heap) (locs : List Loc) (hW : Wo G (fun q : Nat => s.heap.size ≤ q) s (lawW G a E F M N) H locs) (ls : Array Slot) (hl : lv_has ls 4 [(0, .ref b), (1, .ref (a 0)), (2, .ref (a 56)), (3, .int x3)]) (Hk : ∀ (E : Nat → Int32) (F : Nat → Nat → Int32) (M : Nat → Int32) (N : Nat → Nat → Int32), Inv E F M N → ∀ (H : Heap) (locs : List Loc), Wo G (fun q : Nat => s.heap.size ≤ q) s (lawW G a E F M N) H locs → W p l e room_1 s m args below meth c H locs 600000 7302250 Q (F0 m 1333 ls [])) : W p l e room_1 s m args below meth c H locs 600000 7302250 Q (F0 m 1099 ls []) := by
  obtain ⟨hx, hb, -⟩ := id X.1
  have hbA : ¬ (fun q : Nat => s.heap.size ≤ q) b := Nat.not_le.mpr hbl
  refine lv_aload_n hx hb dL_law_1099 rfl (lv_at hl 1 rfl) ?_
  refine lv_aload_n hx hb dL_law_1100 rfl (lv_at hl 0 rfl) ?_
  refine lv_iload_n hx hb dL_law_1101 rfl (lv_at hl 3 rfl) ?_
  refine lv_iconst (v := (1 : Int32)) hx hb dL_law_1102 (by decide) ?_
  refine lv_iadd hx hb dL_law_1103 ?_
  refine va_sld hx hb hX hbl hbA hW.2.2.2.1 h_1 dL_law_1104 ?_
  refine lv_aload_n hx hb dL_law_1105 rfl (lv_at hl 0 rfl) ?_
  refine lv_iload_n hx hb dL_law_1106 rfl (lv_at hl 3 rfl) ?_
  refine lv_iconst (v := (2 : Int32)) hx hb dL_law_1107 (by decide) ?_
  refine lv_iadd hx hb dL_law_1108 ?_
  refine va_sld hx hb hX hbl hbA hW.2.2.2.1 h_2 dL_law_1109 ?_
  obtain ⟨r, z_rate, z_free, yz_m_numbers, hq, hq2, hI⟩ := hop E F M N (xs (x3 + (1 : Int32)).toNatClampNeg) (xs (x3 + (2 : Int32)).toNatClampNeg) hI
  refine g_cvi X hW (As := [.int (xs (x3 + (1 : Int32)).toNatClampNeg), .int (xs (x3 + (2 : Int32)).toNatClampNeg)]) (ws' := lawW G a (va_up (va_up E 4 z_rate) 5 z_free) F M N) ckL_X6_rate (kcX6_rate (l := l) G (a 0) (a 1) (a 20) (a 39) (a 41) (a 43) (a 52) (a 2) (a 4) (a 6) (a 8) (a 10) (a 12) (a 14) (a 16) (a 18) (xs (x3 + (1 : Int32)).toNatClampNeg) (xs (x3 + (2 : Int32)).toNatClampNeg) (E 0) (E 1) (E 2) (E 3) (E 4) (E 5) hq) ⟨rfl, rfl, Nat.le_of_ble_eq_true rfl, Nat.le_of_ble_eq_true rfl⟩ [0, 1] rfl rfl rfl rfl rfl rfl rfl hl.1 (Nat.le_of_ble_eq_true rfl) ⟨Nat.le_of_ble_eq_true rfl, Nat.le_of_ble_eq_true rfl⟩ dL_law_1110 (fun H locs hW => ?_)
  refine lv_aload_n hx hb dL_law_1113 rfl (lv_at hl 2 rfl) ?_
  refine lv_aload_n hx hb dL_law_1114 rfl (lv_at hl 0 rfl) ?_
  refine lv_iload_n hx hb dL_law_1115 rfl (lv_at hl 3 rfl) ?_
  refine lv_iconst (v := (1 : Int32)) hx hb dL_law_1116 (by decide) ?_
  refine lv_iadd hx hb dL_law_1117 ?_
  refine va_sld hx hb hX hbl hbA hW.2.2.2.1 h_1 dL_law_1118 ?_
  refine lv_aload_n hx hb dL_law_1119 rfl (lv_at hl 0 rfl) ?_
  refine lv_iload_n hx hb dL_law_1120 rfl (lv_at hl 3 rfl) ?_
  refine lv_iconst (v := (2 : Int32)) hx hb dL_law_1121 (by decide) ?_
  refine lv_iadd hx hb dL_law_1122 ?_
  refine va_sld hx hb hX hbl hbA hW.2.2.2.1 h_2 dL_law_1123 ?_
  refine g_cvi X hW (As := [.int (xs (x3 + (1 : Int32)).toNatClampNeg), .int (xs (x3 + (2 : Int32)).toNatClampNeg)]) (ws' := lawW G a (va_up (va_up E 4 z_rate) 5 z_free) F M (va_up N 0 yz_m_numbers)) ckL_X7_rate (kcX7_rate (l := l) G (a 56) (a 57) (a 58) (a 59) (a 60) (a 61) (a 62) (a 63) (a 64) (a 65) (a 66) (a 67) (a 68) (a 69) (a 70) (a 71) (a 72) (a 73) (a 74) (xs (x3 + (1 : Int32)).toNatClampNeg) (xs (x3 + (2 : Int32)).toNatClampNeg) (M 0) (M 1) (M 2) (M 3) (M 4) (M 5) (M 6) (M 7) (M 8) (M 9) (N 0) hq2) ⟨rfl, rfl, Nat.le_of_ble_eq_true rfl, Nat.le_of_ble_eq_true rfl⟩ [56, 57] rfl rfl rfl rfl rfl rfl rfl hl.1 (Nat.le_of_ble_eq_true rfl) ⟨Nat.le_of_ble_eq_true rfl, Nat.le_of_ble_eq_true rfl⟩ dL_law_1124 (fun H locs hW => ?_)
  refine lv_icmp_eq (tgt := 1333) hx hb dL_law_1127 (by decide) (fun _ => ?_) (fun c => absurd rfl c)
  exact Hk _ _ _ _ hI H locs hW
set_option maxHeartbeats 16000000 in
set_option maxRecDepth 100000 in
theorem law_use {p : Program} {l : Launch} {e : Env} {s : State} {m : MethodId} {args : Array Value} {below : List Frame} {meth : Method} {c : Code} {G : Gt} {a : Nat → Nat} {b L : Nat} {xs : Nat → Int32} {Q : State → Prop} (X : Bx p s m args meth c code 4 lw_tbl RL ret) (hX : va_X b L xs s s.heap) (hbl : b < s.heap.size) (Inv : (Nat → Int32) → (Nat → Nat → Int32) → (Nat → Int32) → (Nat → Nat → Int32) → Prop) (hop : Op_use Inv) (E : Nat → Int32) (F : Nat → Nat → Int32) (M : Nat → Int32) (N : Nat → Nat → Int32) (hI : Inv E F M N) (x3 : Int32) (h_1 : vp_in (x3 + (1 : Int32)) L) (h_2 : vp_in (x3 + (2 : Int32)) L) (h_3 : vp_in (x3 + (3 : Int32)) L) (h_4 : vp_in (x3 + (4 : Int32)) L) (h_5 : vp_in (x3 + (5 : Int32)) L) (h_6 : vp_in (x3 + (6 : Int32)) L) (H : Heap) (locs : List Loc) (hW : Wo G (fun q : Nat => s.heap.size ≤ q) s (lawW G a E F M N) H locs) (ls : Array Slot) (hl : lv_has ls 4 [(0, .ref b), (1, .ref (a 0)), (2, .ref (a 56)), (3, .int x3)]) (Hk : ∀ (E : Nat → Int32) (F : Nat → Nat → Int32) (M : Nat → Int32) (N : Nat → Nat → Int32), Inv E F M N → ∀ (H : Heap) (locs : List Loc), Wo G (fun q : Nat => s.heap.size ≤ q) s (lawW G a E F M N) H locs → W p l e room_1 s m args below meth c H locs 600000 7302250 Q (F0 m 1333 ls [])) : W p l e room_1 s m args below meth c H locs 600000 7302250 Q (F0 m 1132 ls []) := by
  obtain ⟨hx, hb, -⟩ := id X.1
  have hbA : ¬ (fun q : Nat => s.heap.size ≤ q) b := Nat.not_le.mpr hbl
  refine lv_aload_n hx hb dL_law_1132 rfl (lv_at hl 1 rfl) ?_
  refine lv_aload_n hx hb dL_law_1133 rfl (lv_at hl 0 rfl) ?_
  refine lv_iload_n hx hb dL_law_1134 rfl (lv_at hl 3 rfl) ?_
  refine lv_iconst (v := (1 : Int32)) hx hb dL_law_1135 (by decide) ?_
  refine lv_iadd hx hb dL_law_1136 ?_
  refine va_sld hx hb hX hbl hbA hW.2.2.2.1 h_1 dL_law_1137 ?_
  refine lv_aload_n hx hb dL_law_1138 rfl (lv_at hl 0 rfl) ?_
  refine lv_iload_n hx hb dL_law_1139 rfl (lv_at hl 3 rfl) ?_
  refine lv_iconst (v := (2 : Int32)) hx hb dL_law_1140 (by decide) ?_
  refine lv_iadd hx hb dL_law_1141 ?_
  refine va_sld hx hb hX hbl hbA hW.2.2.2.1 h_2 dL_law_1142 ?_
  refine lv_aload_n hx hb dL_law_1143 rfl (lv_at hl 0 rfl) ?_
  refine lv_iload_n hx hb dL_law_1144 rfl (lv_at hl 3 rfl) ?_
  refine lv_iconst (v := (3 : Int32)) hx hb dL_law_1145 (by decide) ?_
  refine lv_iadd hx hb dL_law_1146 ?_
  refine va_sld hx hb hX hbl hbA hW.2.2.2.1 h_3 dL_law_1147 ?_
  refine lv_aload_n hx hb dL_law_1148 rfl (lv_at hl 0 rfl) ?_
  refine lv_iload_n hx hb dL_law_1149 rfl (lv_at hl 3 rfl) ?_
  refine lv_iconst (v := (4 : Int32)) hx hb dL_law_1150 (by decide) ?_
  refine lv_iadd hx hb dL_law_1151 ?_
  refine va_sld hx hb hX hbl hbA hW.2.2.2.1 h_4 dL_law_1152 ?_
  obtain ⟨r, z_uses_r, z_uses_f, yz_m_numbers, yz_m_uses, hq, hq2, hI⟩ := hop E F M N (xs (x3 + (1 : Int32)).toNatClampNeg) (xs (x3 + (2 : Int32)).toNatClampNeg) (xs (x3 + (3 : Int32)).toNatClampNeg) (xs (x3 + (4 : Int32)).toNatClampNeg) hI
  refine g_cvi X hW (As := [.int (xs (x3 + (1 : Int32)).toNatClampNeg), .int (xs (x3 + (2 : Int32)).toNatClampNeg), .int (xs (x3 + (3 : Int32)).toNatClampNeg), .int (xs (x3 + (4 : Int32)).toNatClampNeg)]) (ws' := lawW G a (va_up E 14 z_uses_r) (va_up F 8 z_uses_f) M N) ckL_X6_use (kcX6_use (l := l) G (a 0) (a 1) (a 2) (a 3) (a 18) (a 19) (a 20) (a 39) (a 41) (a 43) (a 52) (a 4) (a 6) (a 8) (a 10) (a 12) (a 14) (a 16) (xs (x3 + (1 : Int32)).toNatClampNeg) (xs (x3 + (2 : Int32)).toNatClampNeg) (xs (x3 + (3 : Int32)).toNatClampNeg) (xs (x3 + (4 : Int32)).toNatClampNeg) (E 0) (E 1) (E 2) (E 3) (E 4) (E 5) (E 6) (F 0) (E 14) (F 8) hq) ⟨rfl, rfl, Nat.le_of_ble_eq_true rfl, Nat.le_of_ble_eq_true rfl⟩ [0, 1, 2, 3, 18, 19] rfl rfl rfl rfl rfl rfl rfl hl.1 (Nat.le_of_ble_eq_true rfl) ⟨Nat.le_of_ble_eq_true rfl, Nat.le_of_ble_eq_true rfl⟩ dL_law_1153 (fun H locs hW => ?_)
  refine lv_aload_n hx hb dL_law_1156 rfl (lv_at hl 2 rfl) ?_
  refine lv_aload_n hx hb dL_law_1157 rfl (lv_at hl 0 rfl) ?_
  refine lv_iload_n hx hb dL_law_1158 rfl (lv_at hl 3 rfl) ?_
  refine lv_iconst (v := (1 : Int32)) hx hb dL_law_1159 (by decide) ?_
  refine lv_iadd hx hb dL_law_1160 ?_
  refine va_sld hx hb hX hbl hbA hW.2.2.2.1 h_1 dL_law_1161 ?_
  refine lv_aload_n hx hb dL_law_1162 rfl (lv_at hl 0 rfl) ?_
  refine lv_iload_n hx hb dL_law_1163 rfl (lv_at hl 3 rfl) ?_
  refine lv_iconst (v := (2 : Int32)) hx hb dL_law_1164 (by decide) ?_
  refine lv_iadd hx hb dL_law_1165 ?_
  refine va_sld hx hb hX hbl hbA hW.2.2.2.1 h_2 dL_law_1166 ?_
  refine lv_aload_n hx hb dL_law_1167 rfl (lv_at hl 0 rfl) ?_
  refine lv_iload_n hx hb dL_law_1168 rfl (lv_at hl 3 rfl) ?_
  refine lv_iconst (v := (3 : Int32)) hx hb dL_law_1169 (by decide) ?_
  refine lv_iadd hx hb dL_law_1170 ?_
  refine va_sld hx hb hX hbl hbA hW.2.2.2.1 h_3 dL_law_1171 ?_
  refine lv_aload_n hx hb dL_law_1172 rfl (lv_at hl 0 rfl) ?_
  refine lv_iload_n hx hb dL_law_1173 rfl (lv_at hl 3 rfl) ?_
  refine lv_iconst (v := (4 : Int32)) hx hb dL_law_1174 (by decide) ?_
  refine lv_iadd hx hb dL_law_1175 ?_
  refine va_sld hx hb hX hbl hbA hW.2.2.2.1 h_4 dL_law_1176 ?_
  refine g_cvi X hW (As := [.int (xs (x3 + (1 : Int32)).toNatClampNeg), .int (xs (x3 + (2 : Int32)).toNatClampNeg), .int (xs (x3 + (3 : Int32)).toNatClampNeg), .int (xs (x3 + (4 : Int32)).toNatClampNeg)]) (ws' := lawW G a (va_up E 14 z_uses_r) (va_up F 8 z_uses_f) M (va_up (va_up N 0 yz_m_numbers) 8 yz_m_uses)) ckL_X7_use (kcX7_use (l := l) G (a 56) (a 57) (a 58) (a 65) (a 59) (a 60) (a 61) (a 62) (a 63) (a 64) (a 66) (a 67) (a 68) (a 69) (a 70) (a 71) (a 72) (a 73) (a 74) (xs (x3 + (1 : Int32)).toNatClampNeg) (xs (x3 + (2 : Int32)).toNatClampNeg) (xs (x3 + (3 : Int32)).toNatClampNeg) (xs (x3 + (4 : Int32)).toNatClampNeg) (M 0) (M 1) (M 2) (M 3) (M 4) (M 5) (M 6) (M 7) (M 8) (M 9) (N 0) (N 1) (N 8) hq2) ⟨rfl, rfl, Nat.le_of_ble_eq_true rfl, Nat.le_of_ble_eq_true rfl⟩ [56, 57, 58, 65] rfl rfl rfl rfl rfl rfl rfl hl.1 (Nat.le_of_ble_eq_true rfl) ⟨Nat.le_of_ble_eq_true rfl, Nat.le_of_ble_eq_true rfl⟩ dL_law_1177 (fun H locs hW => ?_)
  refine lv_icmp_eq (tgt := 1333) hx hb dL_law_1180 (by decide) (fun _ => ?_) (fun c => absurd rfl c)
  exact Hk _ _ _ _ hI H locs hW
set_option maxHeartbeats 16000000 in
set_option maxRecDepth 100000 in
theorem law_strike {p : Program} {l : Launch} {e : Env} {s : State} {m : MethodId} {args : Array Value} {below : List Frame} {meth : Method} {c : Code} {G : Gt} {a : Nat → Nat} {b L : Nat} {xs : Nat → Int32} {Q : State → Prop} (X : Bx p s m args meth c code 4 lw_tbl RL ret) (hX : va_X b L xs s s.heap) (hbl : b < s.heap.size) (Inv : (Nat → Int32) → (Nat → Nat → Int32) → (Nat → Int32) → (Nat → Nat → Int32) → Prop) (hop : Op_strike Inv) (E : Nat → Int32) (F : Nat → Nat → Int32) (M : Nat → Int32) (N : Nat → Nat → Int32) (hI : Inv E F M N) (x3 : Int32) (h_1 : vp_in (x3 + (1 : Int32)) L) (h_2 : vp_in (x3 + (2 : Int32)) L) (h_3 : vp_in (x3 + (3 : Int32)) L) (h_4 : vp_in (x3 + (4 : Int32)) L) (h_5 : vp_in (x3 + (5 : Int32)) L) (h_6 : vp_in (x3 + (6 : Int32)) L) (H : Heap) (locs : List Loc) (hW : Wo G (fun q : Nat => s.heap.size ≤ q) s (lawW G a E F M N) H locs) (ls : Array Slot) (hl : lv_has ls 4 [(0, .ref b), (1, .ref (a 0)), (2, .ref (a 56)), (3, .int x3)]) (Hk : ∀ (E : Nat → Int32) (F : Nat → Nat → Int32) (M : Nat → Int32) (N : Nat → Nat → Int32), Inv E F M N → ∀ (H : Heap) (locs : List Loc), Wo G (fun q : Nat => s.heap.size ≤ q) s (lawW G a E F M N) H locs → W p l e room_1 s m args below meth c H locs 600000 7302250 Q (F0 m 1333 ls [])) : W p l e room_1 s m args below meth c H locs 600000 7302250 Q (F0 m 1185 ls []) := by
  obtain ⟨hx, hb, -⟩ := id X.1
  have hbA : ¬ (fun q : Nat => s.heap.size ≤ q) b := Nat.not_le.mpr hbl
  refine lv_aload_n hx hb dL_law_1185 rfl (lv_at hl 1 rfl) ?_
  refine lv_aload_n hx hb dL_law_1186 rfl (lv_at hl 0 rfl) ?_
  refine lv_iload_n hx hb dL_law_1187 rfl (lv_at hl 3 rfl) ?_
  refine lv_iconst (v := (1 : Int32)) hx hb dL_law_1188 (by decide) ?_
  refine lv_iadd hx hb dL_law_1189 ?_
  refine va_sld hx hb hX hbl hbA hW.2.2.2.1 h_1 dL_law_1190 ?_
  obtain ⟨r, z_uses_f, yz_m_uses, hq, hq2, hI⟩ := hop E F M N (xs (x3 + (1 : Int32)).toNatClampNeg) hI
  refine g_cvi X hW (As := [.int (xs (x3 + (1 : Int32)).toNatClampNeg)]) (ws' := lawW G a E (va_up F 8 z_uses_f) M N) ckL_X6_strike (kcX6_strike (l := l) G (a 0) (a 1) (a 18) (a 19) (a 20) (a 39) (a 41) (a 43) (a 52) (a 2) (a 4) (a 6) (a 8) (a 10) (a 12) (a 14) (a 16) (xs (x3 + (1 : Int32)).toNatClampNeg) (E 0) (E 1) (E 2) (E 3) (E 4) (E 5) (E 14) (F 8) hq) ⟨rfl, rfl, Nat.le_of_ble_eq_true rfl, Nat.le_of_ble_eq_true rfl⟩ [0, 1, 18, 19] rfl rfl rfl rfl rfl rfl rfl hl.1 (Nat.le_of_ble_eq_true rfl) ⟨Nat.le_of_ble_eq_true rfl, Nat.le_of_ble_eq_true rfl⟩ dL_law_1191 (fun H locs hW => ?_)
  refine lv_aload_n hx hb dL_law_1194 rfl (lv_at hl 2 rfl) ?_
  refine lv_aload_n hx hb dL_law_1195 rfl (lv_at hl 0 rfl) ?_
  refine lv_iload_n hx hb dL_law_1196 rfl (lv_at hl 3 rfl) ?_
  refine lv_iconst (v := (1 : Int32)) hx hb dL_law_1197 (by decide) ?_
  refine lv_iadd hx hb dL_law_1198 ?_
  refine va_sld hx hb hX hbl hbA hW.2.2.2.1 h_1 dL_law_1199 ?_
  refine g_cvi X hW (As := [.int (xs (x3 + (1 : Int32)).toNatClampNeg)]) (ws' := lawW G a E (va_up F 8 z_uses_f) M (va_up N 8 yz_m_uses)) ckL_X7_strike (kcX7_strike (l := l) G (a 56) (a 57) (a 65) (a 58) (a 59) (a 60) (a 61) (a 62) (a 63) (a 64) (a 66) (a 67) (a 68) (a 69) (a 70) (a 71) (a 72) (a 73) (a 74) (xs (x3 + (1 : Int32)).toNatClampNeg) (M 0) (M 1) (M 2) (M 3) (M 4) (M 5) (M 6) (M 7) (M 8) (M 9) (N 0) (N 8) hq2) ⟨rfl, rfl, Nat.le_of_ble_eq_true rfl, Nat.le_of_ble_eq_true rfl⟩ [56, 57, 65] rfl rfl rfl rfl rfl rfl rfl hl.1 (Nat.le_of_ble_eq_true rfl) ⟨Nat.le_of_ble_eq_true rfl, Nat.le_of_ble_eq_true rfl⟩ dL_law_1200 (fun H locs hW => ?_)
  refine lv_icmp_eq (tgt := 1333) hx hb dL_law_1203 (by decide) (fun _ => ?_) (fun c => absurd rfl c)
  exact Hk _ _ _ _ hI H locs hW
set_option maxHeartbeats 16000000 in
set_option maxRecDepth 100000 in
theorem law_net {p : Program} {l : Launch} {e : Env} {s : State} {m : MethodId} {args : Array Value} {below : List Frame} {meth : Method} {c : Code} {G : Gt} {a : Nat → Nat} {b L : Nat} {xs : Nat → Int32} {Q : State → Prop} (X : Bx p s m args meth c code 4 lw_tbl RL ret) (hX : va_X b L xs s s.heap) (hbl : b < s.heap.size) (Inv : (Nat → Int32) → (Nat → Nat → Int32) → (Nat → Int32) → (Nat → Nat → Int32) → Prop) (hop : Op_net Inv) (E : Nat → Int32) (F : Nat → Nat → Int32) (M : Nat → Int32) (N : Nat → Nat → Int32) (hI : Inv E F M N) (x3 : Int32) (h_1 : vp_in (x3 + (1 : Int32)) L) (h_2 : vp_in (x3 + (2 : Int32)) L) (h_3 : vp_in (x3 + (3 : Int32)) L) (h_4 : vp_in (x3 + (4 : Int32)) L) (h_5 : vp_in (x3 + (5 : Int32)) L) (h_6 : vp_in (x3 + (6 : Int32)) L) (H : Heap) (locs : List Loc) (hW : Wo G (fun q : Nat => s.heap.size ≤ q) s (lawW G a E F M N) H locs) (ls : Array Slot) (hl : lv_has ls 4 [(0, .ref b), (1, .ref (a 0)), (2, .ref (a 56)), (3, .int x3)]) (Hk : ∀ (E : Nat → Int32) (F : Nat → Nat → Int32) (M : Nat → Int32) (N : Nat → Nat → Int32), Inv E F M N → ∀ (H : Heap) (locs : List Loc), Wo G (fun q : Nat => s.heap.size ≤ q) s (lawW G a E F M N) H locs → W p l e room_1 s m args below meth c H locs 600000 7302250 Q (F0 m 1333 ls [])) : W p l e room_1 s m args below meth c H locs 600000 7302250 Q (F0 m 1208 ls []) := by
  obtain ⟨hx, hb, -⟩ := id X.1
  have hbA : ¬ (fun q : Nat => s.heap.size ≤ q) b := Nat.not_le.mpr hbl
  refine lv_aload_n hx hb dL_law_1208 rfl (lv_at hl 1 rfl) ?_
  refine lv_aload_n hx hb dL_law_1209 rfl (lv_at hl 0 rfl) ?_
  refine lv_iload_n hx hb dL_law_1210 rfl (lv_at hl 3 rfl) ?_
  refine lv_iconst (v := (1 : Int32)) hx hb dL_law_1211 (by decide) ?_
  refine lv_iadd hx hb dL_law_1212 ?_
  refine va_sld hx hb hX hbl hbA hW.2.2.2.1 h_1 dL_law_1213 ?_
  refine lv_aload_n hx hb dL_law_1214 rfl (lv_at hl 0 rfl) ?_
  refine lv_iload_n hx hb dL_law_1215 rfl (lv_at hl 3 rfl) ?_
  refine lv_iconst (v := (2 : Int32)) hx hb dL_law_1216 (by decide) ?_
  refine lv_iadd hx hb dL_law_1217 ?_
  refine va_sld hx hb hX hbl hbA hW.2.2.2.1 h_2 dL_law_1218 ?_
  obtain ⟨r, hq, hq2, hI⟩ := hop E F M N (xs (x3 + (1 : Int32)).toNatClampNeg) (xs (x3 + (2 : Int32)).toNatClampNeg) hI
  refine g_cvi X hW (As := [.int (xs (x3 + (1 : Int32)).toNatClampNeg), .int (xs (x3 + (2 : Int32)).toNatClampNeg)]) (ws' := lawW G a E F M N) ckL_X6_net (kcX6_net (l := l) G (a 0) (a 1) (a 2) (a 3) (a 18) (a 19) (a 20) (a 39) (a 41) (a 43) (a 52) (a 4) (a 6) (a 8) (a 10) (a 12) (a 14) (a 16) (xs (x3 + (1 : Int32)).toNatClampNeg) (xs (x3 + (2 : Int32)).toNatClampNeg) (E 0) (E 1) (E 2) (E 3) (E 4) (E 5) (E 6) (F 0) (E 14) (F 8) hq) ⟨rfl, rfl, Nat.le_of_ble_eq_true rfl, Nat.le_of_ble_eq_true rfl⟩ [0, 1, 2, 3, 18, 19] rfl rfl rfl rfl rfl rfl rfl hl.1 (Nat.le_of_ble_eq_true rfl) ⟨Nat.le_of_ble_eq_true rfl, Nat.le_of_ble_eq_true rfl⟩ dL_law_1219 (fun H locs hW => ?_)
  refine lv_aload_n hx hb dL_law_1222 rfl (lv_at hl 2 rfl) ?_
  refine lv_aload_n hx hb dL_law_1223 rfl (lv_at hl 0 rfl) ?_
  refine lv_iload_n hx hb dL_law_1224 rfl (lv_at hl 3 rfl) ?_
  refine lv_iconst (v := (1 : Int32)) hx hb dL_law_1225 (by decide) ?_
  refine lv_iadd hx hb dL_law_1226 ?_
  refine va_sld hx hb hX hbl hbA hW.2.2.2.1 h_1 dL_law_1227 ?_
  refine lv_aload_n hx hb dL_law_1228 rfl (lv_at hl 0 rfl) ?_
  refine lv_iload_n hx hb dL_law_1229 rfl (lv_at hl 3 rfl) ?_
  refine lv_iconst (v := (2 : Int32)) hx hb dL_law_1230 (by decide) ?_
  refine lv_iadd hx hb dL_law_1231 ?_
  refine va_sld hx hb hX hbl hbA hW.2.2.2.1 h_2 dL_law_1232 ?_
  refine g_cvi X hW (As := [.int (xs (x3 + (1 : Int32)).toNatClampNeg), .int (xs (x3 + (2 : Int32)).toNatClampNeg)]) (ws' := lawW G a E F M N) ckL_X7_net (kcX7_net (l := l) G (a 56) (a 57) (a 58) (a 65) (a 59) (a 60) (a 61) (a 62) (a 63) (a 64) (a 66) (a 67) (a 68) (a 69) (a 70) (a 71) (a 72) (a 73) (a 74) (xs (x3 + (1 : Int32)).toNatClampNeg) (xs (x3 + (2 : Int32)).toNatClampNeg) (M 0) (M 1) (M 2) (M 3) (M 4) (M 5) (M 6) (M 7) (M 8) (M 9) (N 0) (N 1) (N 8) hq2) ⟨rfl, rfl, Nat.le_of_ble_eq_true rfl, Nat.le_of_ble_eq_true rfl⟩ [56, 57, 58, 65] rfl rfl rfl rfl rfl rfl rfl hl.1 (Nat.le_of_ble_eq_true rfl) ⟨Nat.le_of_ble_eq_true rfl, Nat.le_of_ble_eq_true rfl⟩ dL_law_1233 (fun H locs hW => ?_)
  refine lv_icmp_eq (tgt := 1333) hx hb dL_law_1236 (by decide) (fun _ => ?_) (fun c => absurd rfl c)
  exact Hk _ _ _ _ hI H locs hW
set_option maxHeartbeats 16000000 in
set_option maxRecDepth 100000 in
theorem law_owes {p : Program} {l : Launch} {e : Env} {s : State} {m : MethodId} {args : Array Value} {below : List Frame} {meth : Method} {c : Code} {G : Gt} {a : Nat → Nat} {b L : Nat} {xs : Nat → Int32} {Q : State → Prop} (X : Bx p s m args meth c code 4 lw_tbl RL ret) (hX : va_X b L xs s s.heap) (hbl : b < s.heap.size) (Inv : (Nat → Int32) → (Nat → Nat → Int32) → (Nat → Int32) → (Nat → Nat → Int32) → Prop) (hop : Op_owes Inv) (E : Nat → Int32) (F : Nat → Nat → Int32) (M : Nat → Int32) (N : Nat → Nat → Int32) (hI : Inv E F M N) (x3 : Int32) (h_1 : vp_in (x3 + (1 : Int32)) L) (h_2 : vp_in (x3 + (2 : Int32)) L) (h_3 : vp_in (x3 + (3 : Int32)) L) (h_4 : vp_in (x3 + (4 : Int32)) L) (h_5 : vp_in (x3 + (5 : Int32)) L) (h_6 : vp_in (x3 + (6 : Int32)) L) (H : Heap) (locs : List Loc) (hW : Wo G (fun q : Nat => s.heap.size ≤ q) s (lawW G a E F M N) H locs) (ls : Array Slot) (hl : lv_has ls 4 [(0, .ref b), (1, .ref (a 0)), (2, .ref (a 56)), (3, .int x3)]) (Hk : ∀ (E : Nat → Int32) (F : Nat → Nat → Int32) (M : Nat → Int32) (N : Nat → Nat → Int32), Inv E F M N → ∀ (H : Heap) (locs : List Loc), Wo G (fun q : Nat => s.heap.size ≤ q) s (lawW G a E F M N) H locs → W p l e room_1 s m args below meth c H locs 600000 7302250 Q (F0 m 1333 ls [])) : W p l e room_1 s m args below meth c H locs 600000 7302250 Q (F0 m 1241 ls []) := by
  obtain ⟨hx, hb, -⟩ := id X.1
  have hbA : ¬ (fun q : Nat => s.heap.size ≤ q) b := Nat.not_le.mpr hbl
  refine lv_aload_n hx hb dL_law_1241 rfl (lv_at hl 1 rfl) ?_
  refine lv_aload_n hx hb dL_law_1242 rfl (lv_at hl 0 rfl) ?_
  refine lv_iload_n hx hb dL_law_1243 rfl (lv_at hl 3 rfl) ?_
  refine lv_iconst (v := (1 : Int32)) hx hb dL_law_1244 (by decide) ?_
  refine lv_iadd hx hb dL_law_1245 ?_
  refine va_sld hx hb hX hbl hbA hW.2.2.2.1 h_1 dL_law_1246 ?_
  refine lv_aload_n hx hb dL_law_1247 rfl (lv_at hl 0 rfl) ?_
  refine lv_iload_n hx hb dL_law_1248 rfl (lv_at hl 3 rfl) ?_
  refine lv_iconst (v := (2 : Int32)) hx hb dL_law_1249 (by decide) ?_
  refine lv_iadd hx hb dL_law_1250 ?_
  refine va_sld hx hb hX hbl hbA hW.2.2.2.1 h_2 dL_law_1251 ?_
  refine lv_aload_n hx hb dL_law_1252 rfl (lv_at hl 0 rfl) ?_
  refine lv_iload_n hx hb dL_law_1253 rfl (lv_at hl 3 rfl) ?_
  refine lv_iconst (v := (3 : Int32)) hx hb dL_law_1254 (by decide) ?_
  refine lv_iadd hx hb dL_law_1255 ?_
  refine va_sld hx hb hX hbl hbA hW.2.2.2.1 h_3 dL_law_1256 ?_
  obtain ⟨r, hq, hq2, hI⟩ := hop E F M N (xs (x3 + (1 : Int32)).toNatClampNeg) (xs (x3 + (2 : Int32)).toNatClampNeg) (xs (x3 + (3 : Int32)).toNatClampNeg) hI
  refine g_cvi X hW (As := [.int (xs (x3 + (1 : Int32)).toNatClampNeg), .int (xs (x3 + (2 : Int32)).toNatClampNeg), .int (xs (x3 + (3 : Int32)).toNatClampNeg)]) (ws' := lawW G a E F M N) ckL_X6_owes (kcX6_owes (l := l) G (a 0) (a 1) (a 2) (a 3) (a 18) (a 19) (a 20) (a 39) (a 41) (a 43) (a 52) (a 4) (a 6) (a 8) (a 10) (a 12) (a 14) (a 16) (xs (x3 + (1 : Int32)).toNatClampNeg) (xs (x3 + (2 : Int32)).toNatClampNeg) (xs (x3 + (3 : Int32)).toNatClampNeg) (E 0) (E 1) (E 2) (E 3) (E 4) (E 5) (E 6) (F 0) (E 14) (F 8) hq) ⟨rfl, rfl, Nat.le_of_ble_eq_true rfl, Nat.le_of_ble_eq_true rfl⟩ [0, 1, 2, 3, 18, 19] rfl rfl rfl rfl rfl rfl rfl hl.1 (Nat.le_of_ble_eq_true rfl) ⟨Nat.le_of_ble_eq_true rfl, Nat.le_of_ble_eq_true rfl⟩ dL_law_1257 (fun H locs hW => ?_)
  refine lv_aload_n hx hb dL_law_1260 rfl (lv_at hl 2 rfl) ?_
  refine lv_aload_n hx hb dL_law_1261 rfl (lv_at hl 0 rfl) ?_
  refine lv_iload_n hx hb dL_law_1262 rfl (lv_at hl 3 rfl) ?_
  refine lv_iconst (v := (1 : Int32)) hx hb dL_law_1263 (by decide) ?_
  refine lv_iadd hx hb dL_law_1264 ?_
  refine va_sld hx hb hX hbl hbA hW.2.2.2.1 h_1 dL_law_1265 ?_
  refine lv_aload_n hx hb dL_law_1266 rfl (lv_at hl 0 rfl) ?_
  refine lv_iload_n hx hb dL_law_1267 rfl (lv_at hl 3 rfl) ?_
  refine lv_iconst (v := (2 : Int32)) hx hb dL_law_1268 (by decide) ?_
  refine lv_iadd hx hb dL_law_1269 ?_
  refine va_sld hx hb hX hbl hbA hW.2.2.2.1 h_2 dL_law_1270 ?_
  refine lv_aload_n hx hb dL_law_1271 rfl (lv_at hl 0 rfl) ?_
  refine lv_iload_n hx hb dL_law_1272 rfl (lv_at hl 3 rfl) ?_
  refine lv_iconst (v := (3 : Int32)) hx hb dL_law_1273 (by decide) ?_
  refine lv_iadd hx hb dL_law_1274 ?_
  refine va_sld hx hb hX hbl hbA hW.2.2.2.1 h_3 dL_law_1275 ?_
  refine g_cvi X hW (As := [.int (xs (x3 + (1 : Int32)).toNatClampNeg), .int (xs (x3 + (2 : Int32)).toNatClampNeg), .int (xs (x3 + (3 : Int32)).toNatClampNeg)]) (ws' := lawW G a E F M N) ckL_X7_owes (kcX7_owes (l := l) G (a 56) (a 57) (a 58) (a 65) (a 59) (a 60) (a 61) (a 62) (a 63) (a 64) (a 66) (a 67) (a 68) (a 69) (a 70) (a 71) (a 72) (a 73) (a 74) (xs (x3 + (1 : Int32)).toNatClampNeg) (xs (x3 + (2 : Int32)).toNatClampNeg) (xs (x3 + (3 : Int32)).toNatClampNeg) (M 0) (M 1) (M 2) (M 3) (M 4) (M 5) (M 6) (M 7) (M 8) (M 9) (N 0) (N 1) (N 8) hq2) ⟨rfl, rfl, Nat.le_of_ble_eq_true rfl, Nat.le_of_ble_eq_true rfl⟩ [56, 57, 58, 65] rfl rfl rfl rfl rfl rfl rfl hl.1 (Nat.le_of_ble_eq_true rfl) ⟨Nat.le_of_ble_eq_true rfl, Nat.le_of_ble_eq_true rfl⟩ dL_law_1276 (fun H locs hW => ?_)
  refine lv_icmp_eq (tgt := 1333) hx hb dL_law_1279 (by decide) (fun _ => ?_) (fun c => absurd rfl c)
  exact Hk _ _ _ _ hI H locs hW
set_option maxHeartbeats 16000000 in
set_option maxRecDepth 100000 in
theorem law_many {p : Program} {l : Launch} {e : Env} {s : State} {m : MethodId} {args : Array Value} {below : List Frame} {meth : Method} {c : Code} {G : Gt} {a : Nat → Nat} {b L : Nat} {xs : Nat → Int32} {Q : State → Prop} (X : Bx p s m args meth c code 4 lw_tbl RL ret) (hX : va_X b L xs s s.heap) (hbl : b < s.heap.size) (Inv : (Nat → Int32) → (Nat → Nat → Int32) → (Nat → Int32) → (Nat → Nat → Int32) → Prop) (hop : Op_many Inv) (E : Nat → Int32) (F : Nat → Nat → Int32) (M : Nat → Int32) (N : Nat → Nat → Int32) (hI : Inv E F M N) (x3 : Int32) (h_1 : vp_in (x3 + (1 : Int32)) L) (h_2 : vp_in (x3 + (2 : Int32)) L) (h_3 : vp_in (x3 + (3 : Int32)) L) (h_4 : vp_in (x3 + (4 : Int32)) L) (h_5 : vp_in (x3 + (5 : Int32)) L) (h_6 : vp_in (x3 + (6 : Int32)) L) (H : Heap) (locs : List Loc) (hW : Wo G (fun q : Nat => s.heap.size ≤ q) s (lawW G a E F M N) H locs) (ls : Array Slot) (hl : lv_has ls 4 [(0, .ref b), (1, .ref (a 0)), (2, .ref (a 56)), (3, .int x3)]) (Hk : ∀ (E : Nat → Int32) (F : Nat → Nat → Int32) (M : Nat → Int32) (N : Nat → Nat → Int32), Inv E F M N → ∀ (H : Heap) (locs : List Loc), Wo G (fun q : Nat => s.heap.size ≤ q) s (lawW G a E F M N) H locs → W p l e room_1 s m args below meth c H locs 600000 7302250 Q (F0 m 1333 ls [])) : W p l e room_1 s m args below meth c H locs 600000 7302250 Q (F0 m 1284 ls []) := by
  obtain ⟨hx, hb, -⟩ := id X.1
  have hbA : ¬ (fun q : Nat => s.heap.size ≤ q) b := Nat.not_le.mpr hbl
  refine lv_aload_n hx hb dL_law_1284 rfl (lv_at hl 1 rfl) ?_
  refine lv_aload_n hx hb dL_law_1285 rfl (lv_at hl 0 rfl) ?_
  refine lv_iload_n hx hb dL_law_1286 rfl (lv_at hl 3 rfl) ?_
  refine lv_iconst (v := (1 : Int32)) hx hb dL_law_1287 (by decide) ?_
  refine lv_iadd hx hb dL_law_1288 ?_
  refine va_sld hx hb hX hbl hbA hW.2.2.2.1 h_1 dL_law_1289 ?_
  obtain ⟨r, hq, hq2, hI⟩ := hop E F M N (xs (x3 + (1 : Int32)).toNatClampNeg) hI
  refine g_cvi X hW (As := [.int (xs (x3 + (1 : Int32)).toNatClampNeg)]) (ws' := lawW G a E F M N) ckL_X6_many (kcX6_many (l := l) G (a 0) (a 1) (a 2) (a 3) (a 4) (a 8) (a 10) (a 12) (a 16) (a 17) (a 18) (a 39) (a 20) (a 41) (a 43) (a 52) (a 6) (a 14) (a 5) (a 9) (a 11) (a 13) (a 19) (a 40) (xs (x3 + (1 : Int32)).toNatClampNeg) (E 0) (E 1) (E 2) (E 3) (E 4) (E 5) (E 6) (F 0) (E 7) (E 9) (E 10) (E 11) (E 13) (F 7) (E 14) (E 28) (E 29) (E 30) hq) ⟨rfl, rfl, Nat.le_of_ble_eq_true rfl, Nat.le_of_ble_eq_true rfl⟩ [0, 1, 2, 3, 4, 8, 10, 12, 16, 17, 18, 39] rfl rfl rfl rfl rfl rfl rfl hl.1 (Nat.le_of_ble_eq_true rfl) ⟨Nat.le_of_ble_eq_true rfl, Nat.le_of_ble_eq_true rfl⟩ dL_law_1290 (fun H locs hW => ?_)
  refine lv_aload_n hx hb dL_law_1293 rfl (lv_at hl 2 rfl) ?_
  refine lv_aload_n hx hb dL_law_1294 rfl (lv_at hl 0 rfl) ?_
  refine lv_iload_n hx hb dL_law_1295 rfl (lv_at hl 3 rfl) ?_
  refine lv_iconst (v := (1 : Int32)) hx hb dL_law_1296 (by decide) ?_
  refine lv_iadd hx hb dL_law_1297 ?_
  refine va_sld hx hb hX hbl hbA hW.2.2.2.1 h_1 dL_law_1298 ?_
  refine g_cvi X hW (As := [.int (xs (x3 + (1 : Int32)).toNatClampNeg)]) (ws' := lawW G a E F M N) ckL_X7_many (kcX7_many (l := l) G (a 56) (a 57) (a 58) (a 64) (a 59) (a 60) (a 61) (a 62) (a 63) (a 65) (a 66) (a 67) (a 68) (a 69) (a 70) (a 71) (a 72) (a 73) (a 74) (xs (x3 + (1 : Int32)).toNatClampNeg) (M 0) (M 1) (M 2) (M 3) (M 4) (M 5) (M 6) (M 7) (M 8) (M 9) (N 0) (N 1) (N 7) hq2) ⟨rfl, rfl, Nat.le_of_ble_eq_true rfl, Nat.le_of_ble_eq_true rfl⟩ [56, 57, 58, 64] rfl rfl rfl rfl rfl rfl rfl hl.1 (Nat.le_of_ble_eq_true rfl) ⟨Nat.le_of_ble_eq_true rfl, Nat.le_of_ble_eq_true rfl⟩ dL_law_1299 (fun H locs hW => ?_)
  refine lv_icmp_eq (tgt := 1333) hx hb dL_law_1302 (by decide) (fun _ => ?_) (fun c => absurd rfl c)
  exact Hk _ _ _ _ hI H locs hW
set_option maxHeartbeats 16000000 in
set_option maxRecDepth 100000 in
theorem law_keep {p : Program} {l : Launch} {e : Env} {s : State} {m : MethodId} {args : Array Value} {below : List Frame} {meth : Method} {c : Code} {G : Gt} {a : Nat → Nat} {b L : Nat} {xs : Nat → Int32} {Q : State → Prop} (X : Bx p s m args meth c code 4 lw_tbl RL ret) (hX : va_X b L xs s s.heap) (hbl : b < s.heap.size) (Inv : (Nat → Int32) → (Nat → Nat → Int32) → (Nat → Int32) → (Nat → Nat → Int32) → Prop) (hop : Op_keep Inv) (E : Nat → Int32) (F : Nat → Nat → Int32) (M : Nat → Int32) (N : Nat → Nat → Int32) (hI : Inv E F M N) (x3 : Int32) (h_1 : vp_in (x3 + (1 : Int32)) L) (h_2 : vp_in (x3 + (2 : Int32)) L) (h_3 : vp_in (x3 + (3 : Int32)) L) (h_4 : vp_in (x3 + (4 : Int32)) L) (h_5 : vp_in (x3 + (5 : Int32)) L) (h_6 : vp_in (x3 + (6 : Int32)) L) (H : Heap) (locs : List Loc) (hW : Wo G (fun q : Nat => s.heap.size ≤ q) s (lawW G a E F M N) H locs) (ls : Array Slot) (hl : lv_has ls 4 [(0, .ref b), (1, .ref (a 0)), (2, .ref (a 56)), (3, .int x3)]) (Hk : ∀ (E : Nat → Int32) (F : Nat → Nat → Int32) (M : Nat → Int32) (N : Nat → Nat → Int32), Inv E F M N → ∀ (H : Heap) (locs : List Loc), Wo G (fun q : Nat => s.heap.size ≤ q) s (lawW G a E F M N) H locs → W p l e room_1 s m args below meth c H locs 600000 7302250 Q (F0 m 1333 ls [])) : W p l e room_1 s m args below meth c H locs 600000 7302250 Q (F0 m 1307 ls []) := by
  obtain ⟨hx, hb, -⟩ := id X.1
  have hbA : ¬ (fun q : Nat => s.heap.size ≤ q) b := Nat.not_le.mpr hbl
  refine lv_aload_n hx hb dL_law_1307 rfl (lv_at hl 1 rfl) ?_
  obtain ⟨r, z_isKept, z_k_today, z_k_lack, z_k_rate, z_k_free, z_k_boxes_r, z_k_boxes_f, z_k_words_r, z_k_words_f, z_k_weeks_r, z_k_weeks_f, z_k_routes_r, z_k_routes_f, z_k_offers_r, z_k_offers_f, z_k_wants_r, z_k_wants_f, z_k_leaves_r, z_k_leaves_f, z_k_leases_r, z_k_leases_f, z_k_uses_r, z_k_uses_f, yz_m_isKept, yz_m_place, yz_m_numbers, yz_m_boxes, yz_m_words, yz_m_weeks, yz_m_routes, yz_m_turns, yz_m_leave, yz_m_leases, yz_m_uses, yz_m_kept, hq, hq2, hI⟩ := hop E F M N  hI
  refine g_cviP X hW (As := []) ckL_X6_keep (kcX6_keep (l := l) G (a 0) (a 1) (a 2) (a 3) (a 4) (a 5) (a 6) (a 7) (a 8) (a 9) (a 10) (a 11) (a 12) (a 13) (a 14) (a 15) (a 16) (a 17) (a 18) (a 19) (a 20) (a 21) (a 22) (a 23) (a 24) (a 25) (a 26) (a 27) (a 28) (a 29) (a 30) (a 31) (a 32) (a 33) (a 34) (a 35) (a 36) (a 37) (a 38) (a 39) (a 41) (a 43) (a 52) (E 0) (E 1) (E 2) (E 3) (E 4) (E 5) (E 6) (F 0) (E 7) (F 1) (E 8) (F 2) (E 9) (F 3) (E 10) (F 4) (E 11) (F 5) (E 12) (F 6) (E 13) (F 7) (E 14) (F 8) (E 15) (E 16) (E 17) (E 18) (E 19) (F 9) (E 20) (F 10) (E 21) (F 11) (E 22) (F 12) (E 23) (F 13) (E 24) (F 14) (E 25) (F 15) (E 26) (F 16) (E 27) (F 17) hq) ⟨rfl, rfl, Nat.le_of_ble_eq_true rfl, Nat.le_of_ble_eq_true rfl⟩ rfl rfl rfl rfl hl.1 (Nat.le_of_ble_eq_true rfl) ⟨Nat.le_of_ble_eq_true rfl, Nat.le_of_ble_eq_true rfl⟩ dL_law_1308 (fun H locs hW => ?_)
  have hW : Wo G (fun q : Nat => s.heap.size ≤ q) s (lawW G a (va_up (va_up (va_up (va_up (va_up (va_up (va_up (va_up (va_up (va_up (va_up (va_up (va_up (va_up E 0 z_isKept) 15 z_k_today) 16 z_k_lack) 17 z_k_rate) 18 z_k_free) 19 z_k_boxes_r) 20 z_k_words_r) 21 z_k_weeks_r) 22 z_k_routes_r) 23 z_k_offers_r) 24 z_k_wants_r) 25 z_k_leaves_r) 26 z_k_leases_r) 27 z_k_uses_r) (va_up (va_up (va_up (va_up (va_up (va_up (va_up (va_up (va_up F 9 z_k_boxes_f) 10 z_k_words_f) 11 z_k_weeks_f) 12 z_k_routes_f) 13 z_k_offers_f) 14 z_k_wants_f) 15 z_k_leaves_f) 16 z_k_leases_f) 17 z_k_uses_f) M N) H locs := hW
  refine lv_aload_n hx hb dL_law_1311 rfl (lv_at hl 2 rfl) ?_
  refine g_cvi X hW (As := []) (ws' := lawW G a (va_up (va_up (va_up (va_up (va_up (va_up (va_up (va_up (va_up (va_up (va_up (va_up (va_up (va_up E 0 z_isKept) 15 z_k_today) 16 z_k_lack) 17 z_k_rate) 18 z_k_free) 19 z_k_boxes_r) 20 z_k_words_r) 21 z_k_weeks_r) 22 z_k_routes_r) 23 z_k_offers_r) 24 z_k_wants_r) 25 z_k_leaves_r) 26 z_k_leases_r) 27 z_k_uses_r) (va_up (va_up (va_up (va_up (va_up (va_up (va_up (va_up (va_up F 9 z_k_boxes_f) 10 z_k_words_f) 11 z_k_weeks_f) 12 z_k_routes_f) 13 z_k_offers_f) 14 z_k_wants_f) 15 z_k_leaves_f) 16 z_k_leases_f) 17 z_k_uses_f) (va_up (va_up M 8 yz_m_isKept) 9 yz_m_place) (va_up (va_up (va_up (va_up (va_up (va_up (va_up (va_up (va_up (va_up N 0 yz_m_numbers) 1 yz_m_boxes) 2 yz_m_words) 3 yz_m_weeks) 4 yz_m_routes) 5 yz_m_turns) 6 yz_m_leave) 7 yz_m_leases) 8 yz_m_uses) 17 yz_m_kept)) ckL_X7_keep (kcX7_keep (l := l) G (a 56) (a 57) (a 58) (a 59) (a 60) (a 61) (a 62) (a 63) (a 64) (a 65) (a 74) (a 66) (a 67) (a 68) (a 69) (a 70) (a 71) (a 72) (a 73) (M 0) (M 1) (M 2) (M 3) (M 4) (M 5) (M 6) (M 7) (M 8) (M 9) (N 0) (N 1) (N 2) (N 3) (N 4) (N 5) (N 6) (N 7) (N 8) (N 17) hq2) ⟨rfl, rfl, Nat.le_of_ble_eq_true rfl, Nat.le_of_ble_eq_true rfl⟩ [56, 57, 58, 59, 60, 61, 62, 63, 64, 65, 74] rfl rfl rfl rfl rfl rfl rfl hl.1 (Nat.le_of_ble_eq_true rfl) ⟨Nat.le_of_ble_eq_true rfl, Nat.le_of_ble_eq_true rfl⟩ dL_law_1312 (fun H locs hW => ?_)
  refine lv_icmp_eq (tgt := 1333) hx hb dL_law_1315 (by decide) (fun _ => ?_) (fun c => absurd rfl c)
  exact Hk _ _ _ _ hI H locs hW
set_option maxHeartbeats 16000000 in
set_option maxRecDepth 100000 in
theorem law_back {p : Program} {l : Launch} {e : Env} {s : State} {m : MethodId} {args : Array Value} {below : List Frame} {meth : Method} {c : Code} {G : Gt} {a : Nat → Nat} {b L : Nat} {xs : Nat → Int32} {Q : State → Prop} (X : Bx p s m args meth c code 4 lw_tbl RL ret) (hX : va_X b L xs s s.heap) (hbl : b < s.heap.size) (Inv : (Nat → Int32) → (Nat → Nat → Int32) → (Nat → Int32) → (Nat → Nat → Int32) → Prop) (hop : Op_back Inv) (E : Nat → Int32) (F : Nat → Nat → Int32) (M : Nat → Int32) (N : Nat → Nat → Int32) (hI : Inv E F M N) (x3 : Int32) (h_1 : vp_in (x3 + (1 : Int32)) L) (h_2 : vp_in (x3 + (2 : Int32)) L) (h_3 : vp_in (x3 + (3 : Int32)) L) (h_4 : vp_in (x3 + (4 : Int32)) L) (h_5 : vp_in (x3 + (5 : Int32)) L) (h_6 : vp_in (x3 + (6 : Int32)) L) (H : Heap) (locs : List Loc) (hW : Wo G (fun q : Nat => s.heap.size ≤ q) s (lawW G a E F M N) H locs) (ls : Array Slot) (hl : lv_has ls 4 [(0, .ref b), (1, .ref (a 0)), (2, .ref (a 56)), (3, .int x3)]) (Hk : ∀ (E : Nat → Int32) (F : Nat → Nat → Int32) (M : Nat → Int32) (N : Nat → Nat → Int32), Inv E F M N → ∀ (H : Heap) (locs : List Loc), Wo G (fun q : Nat => s.heap.size ≤ q) s (lawW G a E F M N) H locs → W p l e room_1 s m args below meth c H locs 600000 7302250 Q (F0 m 1333 ls [])) : W p l e room_1 s m args below meth c H locs 600000 7302250 Q (F0 m 1320 ls []) := by
  obtain ⟨hx, hb, -⟩ := id X.1
  have hbA : ¬ (fun q : Nat => s.heap.size ≤ q) b := Nat.not_le.mpr hbl
  refine lv_aload_n hx hb dL_law_1320 rfl (lv_at hl 1 rfl) ?_
  obtain ⟨r, z_planStands, z_today, z_lack, z_rate, z_free, z_boxes_r, z_boxes_f, z_words_r, z_words_f, z_weeks_r, z_weeks_f, z_routes_r, z_routes_f, z_offers_r, z_offers_f, z_wants_r, z_wants_f, z_leaves_r, z_leaves_f, z_leases_r, z_leases_f, z_uses_r, z_uses_f, yz_m_place, yz_m_numbers, yz_m_boxes, yz_m_words, yz_m_weeks, yz_m_routes, yz_m_turns, yz_m_leave, yz_m_leases, yz_m_uses, yz_m_kept, hq, hq2, hI⟩ := hop E F M N  hI
  refine g_cviP X hW (As := []) ckL_X6_back (kcX6_back (l := l) G (a 0) (a 1) (a 2) (a 3) (a 4) (a 5) (a 6) (a 7) (a 8) (a 9) (a 10) (a 11) (a 12) (a 13) (a 14) (a 15) (a 16) (a 17) (a 18) (a 19) (a 20) (a 21) (a 22) (a 23) (a 24) (a 25) (a 26) (a 27) (a 28) (a 29) (a 30) (a 31) (a 32) (a 33) (a 34) (a 35) (a 36) (a 37) (a 38) (a 39) (a 41) (a 43) (a 52) (E 0) (E 1) (E 2) (E 3) (E 4) (E 5) (E 6) (F 0) (E 7) (F 1) (E 8) (F 2) (E 9) (F 3) (E 10) (F 4) (E 11) (F 5) (E 12) (F 6) (E 13) (F 7) (E 14) (F 8) (E 15) (E 16) (E 17) (E 18) (E 19) (F 9) (E 20) (F 10) (E 21) (F 11) (E 22) (F 12) (E 23) (F 13) (E 24) (F 14) (E 25) (F 15) (E 26) (F 16) (E 27) (F 17) hq) ⟨rfl, rfl, Nat.le_of_ble_eq_true rfl, Nat.le_of_ble_eq_true rfl⟩ rfl rfl rfl rfl hl.1 (Nat.le_of_ble_eq_true rfl) ⟨Nat.le_of_ble_eq_true rfl, Nat.le_of_ble_eq_true rfl⟩ dL_law_1321 (fun H locs hW => ?_)
  have hW : Wo G (fun q : Nat => s.heap.size ≤ q) s (lawW G a (va_up (va_up (va_up (va_up (va_up (va_up (va_up (va_up (va_up (va_up (va_up (va_up (va_up (va_up E 1 z_planStands) 2 z_today) 3 z_lack) 4 z_rate) 5 z_free) 6 z_boxes_r) 7 z_words_r) 8 z_weeks_r) 9 z_routes_r) 10 z_offers_r) 11 z_wants_r) 12 z_leaves_r) 13 z_leases_r) 14 z_uses_r) (va_up (va_up (va_up (va_up (va_up (va_up (va_up (va_up (va_up F 0 z_boxes_f) 1 z_words_f) 2 z_weeks_f) 3 z_routes_f) 4 z_offers_f) 5 z_wants_f) 6 z_leaves_f) 7 z_leases_f) 8 z_uses_f) M N) H locs := hW
  refine lv_aload_n hx hb dL_law_1324 rfl (lv_at hl 2 rfl) ?_
  refine g_cvi X hW (As := []) (ws' := lawW G a (va_up (va_up (va_up (va_up (va_up (va_up (va_up (va_up (va_up (va_up (va_up (va_up (va_up (va_up E 1 z_planStands) 2 z_today) 3 z_lack) 4 z_rate) 5 z_free) 6 z_boxes_r) 7 z_words_r) 8 z_weeks_r) 9 z_routes_r) 10 z_offers_r) 11 z_wants_r) 12 z_leaves_r) 13 z_leases_r) 14 z_uses_r) (va_up (va_up (va_up (va_up (va_up (va_up (va_up (va_up (va_up F 0 z_boxes_f) 1 z_words_f) 2 z_weeks_f) 3 z_routes_f) 4 z_offers_f) 5 z_wants_f) 6 z_leaves_f) 7 z_leases_f) 8 z_uses_f) (va_up M 9 yz_m_place) (va_up (va_up (va_up (va_up (va_up (va_up (va_up (va_up (va_up (va_up N 0 yz_m_numbers) 1 yz_m_boxes) 2 yz_m_words) 3 yz_m_weeks) 4 yz_m_routes) 5 yz_m_turns) 6 yz_m_leave) 7 yz_m_leases) 8 yz_m_uses) 17 yz_m_kept)) ckL_X7_back (kcX7_back (l := l) G (a 56) (a 57) (a 58) (a 59) (a 60) (a 61) (a 62) (a 63) (a 64) (a 65) (a 74) (a 66) (a 67) (a 68) (a 69) (a 70) (a 71) (a 72) (a 73) (M 0) (M 1) (M 2) (M 3) (M 4) (M 5) (M 6) (M 7) (M 8) (M 9) (N 0) (N 1) (N 2) (N 3) (N 4) (N 5) (N 6) (N 7) (N 8) (N 17) hq2) ⟨rfl, rfl, Nat.le_of_ble_eq_true rfl, Nat.le_of_ble_eq_true rfl⟩ [56, 57, 58, 59, 60, 61, 62, 63, 64, 65, 74] rfl rfl rfl rfl rfl rfl rfl hl.1 (Nat.le_of_ble_eq_true rfl) ⟨Nat.le_of_ble_eq_true rfl, Nat.le_of_ble_eq_true rfl⟩ dL_law_1325 (fun H locs hW => ?_)
  refine lv_icmp_eq (tgt := 1333) hx hb dL_law_1328 (by decide) (fun _ => ?_) (fun c => absurd rfl c)
  exact Hk _ _ _ _ hI H locs hW
