/-! THE TEXTS: String.length and String.charAt of the seven constants -/
def sok (i : Nat) : Bool := decide (i < 7)
def slen (i : Nat) : Int32 := nI (sLen.getD i 0)
def sck (i : Nat) (k : Int32) : Bool := decide (i < 7) && ix k (sLen.getD i 0)
def sch (i : Nat) (k : Int32) : Int32 := ((sByt.getD i []).getD k.toNatClampNeg 0) &&& 255
def CkT (Ts : List Cond) (own : String) (index : Nat) (y : MethodName) (wsy : List Cond) (bytes : ByteArray) (maxL : Nat) (ret : Option FieldType) (n : Nat) : Prop := ∃ (ws' : List Cond), GoodIn Ts (wsV own index "java/lang/String" y wsy) ∧ wsy = Cond.code y bytes maxL ret :: ws' ∧ y.cls = "java/lang/String" ∧ y.cls ≠ "java/lang/invoke/MethodHandle" ∧ y.cls ≠ "java/lang/invoke/VarHandle" ∧ (parseMethodDescriptor y.desc).map (fun d => d.parameters.length) = some n
section GSTR
variable {p : Program} {l : Launch} {e : Env} {R : Room} {s : State} {m : MethodId} {args : Array Value} {below : List Frame} {meth : Method} {c : Code} {H : Heap} {locs : List Loc} {cells slots : Nat} {Q : State → Prop} {cc : ByteArray} {nL : Nat} {Ts : List Cond} {own : String} {ret : Option FieldType} {G : Gt} {A : Nat → Prop} {ws : va_W} {ls : Array Slot} {pc : Nat} {rest : List Value} {a : Nat}
theorem g_tret {ty : FieldType} (X : Bx p s m args meth c cc nL Ts own (some ty)) (hW : Wo G A s ws H locs) {r : Int32} (hn : narrow ty (.int r) = .int r) (hdg : decode cc pc = .ok (.ireturn, 1)) : W p l e R s m args below meth c H locs 0 0 (QI G A below args s r ws) (F0 m pc ls [.int r]) := by
  obtain ⟨⟨hx, hb, hml, hown, hts⟩, hr, hlocks⟩ := X
  obtain ⟨hK, hP, hD, hS, hA, hZ⟩ := hW
  exact W.zret (v := r) hx hb hr hn (fun t ht hW => ⟨⟨r, (), rfl, rfl, by show va_P G.1 vwCl ws t.heap; rw [ht]; exact hP⟩, hS.F ht⟩) hS.2.2 hdg hlocks
theorem g_csv (X : Bx p s m args meth c cc nL Ts own ret) (hW : Wo G A s ws H locs) {index maxL n : Nat} {y : MethodName} {wsy : List Cond} {bytes : ByteArray} {rt : Option FieldType} {rm : Room} {As st0 : List Value} {w0 w1 ws' : va_W} (K : CkS Ts own index y wsy bytes maxL rt n) (hM : CtV G l y wsy rm As w0 w1) (hR : Rok R rm maxL) (is : List Nat) (hst : st0 = As.reverse ++ rest) (hn : va_nd is = true) (hC : is.map (fun i => ws[i]?) = w0.map some) (ha : w1.map (fun q => q.1) = w0.map (fun q => q.1)) (hws : rpl ws is w1 = ws') (hAs : As.length = n) (hsz : ls.size = nL) (h8 : (rest.map fun v => v.category).sum ≤ 8) (hcs : cells ≤ R.cells ∧ slots ≤ R.slots) (hdg : decode cc pc = .ok (.invokestatic index, 3))
    (kk : ∀ (H1 : Heap) (locs1 : List Loc), Wo G A s ws' H1 locs1 → W p l e R s m args below meth c H1 locs1 cells slots Q (F0 m (pc + 3) ls rest)) : W p l e R s m args below meth c H locs cells slots Q (F0 m pc ls st0) := by
  obtain ⟨wr, k2, k3, k4⟩ := K
  obtain ⟨r1, r2, r3, r4⟩ := hR
  have hW0 := hW
  obtain ⟨hK, hP, hD, hS, hA, hZ⟩ := hW
  subst hws
  have hFc := va_free hD hS hA is hC
  refine va_callv (va_runS (As := As) (rest := rest) X.1 (hM H.size) (va_cwS n X.1.2.2.2.2 k2 k3 r1 r2 k4 ⟨r3, r4⟩) ⟨Pre0.blind, fun U hU hWm => ⟨rfl, hW0.pre hn hC hU hWm⟩⟩ rfl hAs hsz hst (lv_room h8) hdg hcs) hS (fun q _ h => hFc q h) hFc (fun u t H1 locs1 ht hvm hw hB hz1 hk1 hS1 => ?_)
  rw [ht] at hB
  exact kk H1 locs1 (hW0.back hC ha hk1 hB hS1)
theorem g_cts (X : Bx p s m args meth c cc nL Ts own ret) (hW : Wo G A s ws H locs) {index maxL n i : Nat} {y : MethodName} {wsy : List Cond} {bytes : ByteArray} {rt : Option FieldType} {rm : Room} {As st0 : List Value} {r : Int32} (K : CkT Ts own index y wsy bytes maxL rt n) (hi : i < 7) (hM : CtI G l y wsy rm (.ref (G.2.2.1 i) :: As) [] r []) (hR : Rok R rm maxL) (hst : st0 = As.reverse ++ .ref (G.2.2.1 i) :: rest) (hAs : As.length = n) (hsz : ls.size = nL) (h8 : (rest.map fun v => v.category).sum ≤ 8) (hcs : cells ≤ R.cells ∧ slots ≤ R.slots) (hdg : decode cc pc = .ok (.invokevirtual index, 3))
    (kk : ∀ (H1 : Heap) (locs1 : List Loc), Wo G A s ws H1 locs1 → W p l e R s m args below meth c H1 locs1 cells slots Q (F0 m (pc + 3) ls (.int r :: rest))) : W p l e R s m args below meth c H locs cells slots Q (F0 m pc ls st0) := by
  obtain ⟨wr, k2, k3, k4⟩ := K
  obtain ⟨r1, r2, r3, r4⟩ := hR
  have hW0 := hW
  obtain ⟨hK, hP, hD, hS, hA, hZ⟩ := hW
  have hC : ([] : List Nat).map (fun i => ws[i]?) = ([] : va_W).map some := rfl
  have hFc := va_free hD hS hA [] hC
  refine va_calli (va_runV (As := As) (rest := rest) X.1 (hM H.size) (cwV n X.1.2.2.2.2 k2 k3 r1 r2 k4 ⟨r3, r4⟩) ⟨Pre0.blind, vk_recv hZ.2.2.1 hi hS, fun U hU hWm => ⟨rfl, hW0.pre rfl hC hU hWm⟩⟩ rfl hAs hsz hst (lv_room h8) hdg hcs) hS (fun q _ h => hFc q h) hFc (fun r' u t H1 locs1 ht hvm hw hB hz1 hk1 hS1 => ?_)
  subst hw
  rw [ht] at hB
  exact kk H1 locs1 (hW0.back hC rfl hk1 hB hS1)
end GSTR
abbrev rmJ0a : Room := { frames := 0, cells := 0, slots := 0, locals := 0 }
abbrev rmJ0len : Room := { frames := 1, cells := 0, slots := 0, locals := 20 }
abbrev rmJ0ck : Room := { frames := 1, cells := 0, slots := 0, locals := 22 }
abbrev rmJ1ch : Room := { frames := 2, cells := 0, slots := 0, locals := 43 }
abbrev rmJ0ch : Room := { frames := 3, cells := 0, slots := 0, locals := 64 }
theorem qI0 : Int32.ofInt 0 = (0 : Int32) := by decide
theorem qI1 : Int32.ofInt 1 = (1 : Int32) := by decide
theorem qS255 : (Int16.ofInt 255).toInt32 = (255 : Int32) := by decide
theorem kJ0_coder {l : Launch} (G : Gt) {i : Nat} (hi : i < 7) : CtI G l yJ0_coder_7d493 wsJ0_coder_7d493 rmJ0a [.ref (G.2.2.1 i)] [] 0 [] := by
  refine CtI.mk (cc := cJ0_coder_7d493) (maxL := 1) (ret := some .byte) (own := RJ0) (by decide) rfl rfl (Nat.le_of_ble_eq_true rfl) ?_
  intro p e s m below meth c A X ls hl hW
  obtain ⟨hx, hb, hml, hown, hts⟩ := id X.1
  have hl : lv_has ls 1 [(0, .ref (G.2.2.1 i))] := hl
  obtain ⟨hK, hP, hD, hS, hA, hZ⟩ := id hW
  refine va_gets hx hb hZ.2.2.2.1 hS hown (hts (.fieldLink RJ0 38 "java/lang/String" "COMPACT_STRINGS" "Z") (by decide +kernel)) (fun _ h => h) dJ0_coder_7d493_0 ?_
  refine lv_if_eq (tgt := 13) hx hb dJ0_coder_7d493_3 (by decide) (fun c1 => absurd c1 (by decide)) (fun c1 => ?_)
  refine lv_aload_n hx hb dJ0_coder_7d493_6 rfl (lv_at hl 0 rfl) ?_
  refine vk_getf hx hb (hZ.2.2.1.1 i hi).2.1 hS hown (hts (.fieldLink RJ0 15 "java/lang/String" "coder" "B") (by decide +kernel)) (fun _ h => h) dJ0_coder_7d493_7 ?_
  refine lv_goto (tgt := 14) hx hb dJ0_coder_7d493_10 (by decide) ?_
  exact g_tret X hW rfl dJ0_coder_7d493_14
theorem kJ0_isLatin1 {l : Launch} (G : Gt) {i : Nat} (hi : i < 7) : CtI G l yJ0_isLatin1_aae02 wsJ0_isLatin1_aae02 rmJ0a [.ref (G.2.2.1 i)] [] 1 [] := by
  refine CtI.mk (cc := cJ0_isLatin1_aae02) (maxL := 1) (ret := some .boolean) (own := RJ0) (by decide) rfl rfl (Nat.le_of_ble_eq_true rfl) ?_
  intro p e s m below meth c A X ls hl hW
  obtain ⟨hx, hb, hml, hown, hts⟩ := id X.1
  have hl : lv_has ls 1 [(0, .ref (G.2.2.1 i))] := hl
  obtain ⟨hK, hP, hD, hS, hA, hZ⟩ := id hW
  refine va_gets hx hb hZ.2.2.2.1 hS hown (hts (.fieldLink RJ0 38 "java/lang/String" "COMPACT_STRINGS" "Z") (by decide +kernel)) (fun _ h => h) dJ0_isLatin1_aae02_0 ?_
  refine lv_if_eq (tgt := 17) hx hb dJ0_isLatin1_aae02_3 (by decide) (fun c1 => absurd c1 (by decide)) (fun c1 => ?_)
  refine lv_aload_n hx hb dJ0_isLatin1_aae02_6 rfl (lv_at hl 0 rfl) ?_
  refine vk_getf hx hb (hZ.2.2.1.1 i hi).2.1 hS hown (hts (.fieldLink RJ0 15 "java/lang/String" "coder" "B") (by decide +kernel)) (fun _ h => h) dJ0_isLatin1_aae02_7 ?_
  refine lv_if_ne (tgt := 17) hx hb dJ0_isLatin1_aae02_10 (by decide) (fun c1 => absurd rfl c1) (fun c1 => ?_)
  refine lv_iconst hx hb dJ0_isLatin1_aae02_13 qI1 ?_
  refine lv_goto (tgt := 18) hx hb dJ0_isLatin1_aae02_14 (by decide) ?_
  exact g_tret X hW rfl dJ0_isLatin1_aae02_18
theorem sLen_lt (i : Nat) : sLen.getD i 0 < 2 ^ 31 := by
  rcases Nat.lt_or_ge i 7 with h | h
  · exact (by decide : ∀ i, i < 7 → sLen.getD i 0 < 2 ^ 31) i h
  · rw [List.getD_eq_getElem?_getD, List.getElem?_eq_none (by simpa [sLen] using h)]; decide
theorem kJ0_length {l : Launch} (G : Gt) {i : Nat} (hi : i < 7) : CtI G l yJ0_length_8abf5 wsJ0_length_8abf5 rmJ0len [.ref (G.2.2.1 i)] [] (slen i) [] := by
  refine CtI.mk (cc := cJ0_length_8abf5) (maxL := 1) (ret := some .int) (own := RJ0) (by decide) rfl rfl (Nat.le_of_ble_eq_true rfl) ?_
  intro p e s m below meth c A X ls hl hW
  obtain ⟨hx, hb, hml, hown, hts⟩ := id X.1
  have hl : lv_has ls 1 [(0, .ref (G.2.2.1 i))] := hl
  obtain ⟨hK, hP, hD, hS, hA, hZ⟩ := id hW
  refine lv_aload_n hx hb dJ0_length_8abf5_0 rfl (lv_at hl 0 rfl) ?_
  refine vk_getf hx hb (hZ.2.2.1.1 i hi).2.2.1 hS hown (hts (.fieldLink RJ0 9 "java/lang/String" "value" "[B") (by decide +kernel)) (fun _ h => h) dJ0_length_8abf5_1 ?_
  refine va_tlen hx hb (hZ.2.2.1.1 i hi).2.2.2 hS (v := nI (sLen.getD i 0)) rfl dJ0_length_8abf5_4 ?_
  refine lv_aload_n hx hb dJ0_length_8abf5_5 rfl (lv_at hl 0 rfl) ?_
  refine g_cts X hW (As := []) ⟨_, gJ0_length_8abf5_J0_coder_7d493, rfl, by decide +kernel⟩ hi (kJ0_coder (l := l) G hi) ⟨rfl, rfl, Nat.le_of_ble_eq_true rfl, Nat.le_of_ble_eq_true rfl⟩ rfl rfl hl.1 (Nat.le_of_ble_eq_true rfl) ⟨Nat.zero_le _, Nat.zero_le _⟩ dJ0_length_8abf5_6 (fun H locs hW => ?_)
  refine lv_ishr hx hb dJ0_length_8abf5_9 ?_
  rw [sc_shr0 (sLen_lt i)]
  exact g_iret X hW dJ0_length_8abf5_10
theorem kJ3_checkIndex {l : Launch} (G : Gt) {k n : Int32} {v : Value} (h0 : ¬ k < 0) (h1 : k < n) (hv : v = .null ∨ ∃ t : Nat, v = .ref t) : CtI G l yJ3_checkIndex_8e157 wsJ3_checkIndex_8e157 rmJ0a [.int k, .int n, v] [] k [] := by
  rcases hv with rfl | ⟨t, rfl⟩
  · refine CtI.mk (cc := cJ3_checkIndex_8e157) (maxL := 3) (ret := some .int) (own := RJ3) (by decide) rfl rfl (Nat.le_of_ble_eq_true rfl) ?_
    intro p e s m below meth c A X ls hl hW
    obtain ⟨hx, hb, hml, hown, hts⟩ := id X.1
    have hl : lv_has ls 3 [(0, .int k), (1, .int n), (2, .null)] := hl
    refine lv_iload_n hx hb dJ3_checkIndex_8e157_0 rfl (lv_at hl 0 rfl) ?_
    refine lv_if_lt (tgt := 9) hx hb dJ3_checkIndex_8e157_1 (by decide) (fun c1 => absurd c1 h0) (fun c1 => ?_)
    refine lv_iload_n hx hb dJ3_checkIndex_8e157_4 rfl (lv_at hl 0 rfl) ?_
    refine lv_iload_n hx hb dJ3_checkIndex_8e157_5 rfl (lv_at hl 1 rfl) ?_
    refine lv_icmp_lt (tgt := 16) hx hb dJ3_checkIndex_8e157_6 (by decide) (fun c1 => ?_) (fun c1 => absurd h1 c1)
    refine lv_iload_n hx hb dJ3_checkIndex_8e157_16 rfl (lv_at hl 0 rfl) ?_
    exact g_iret X hW dJ3_checkIndex_8e157_17
  · refine CtI.mk (cc := cJ3_checkIndex_8e157) (maxL := 3) (ret := some .int) (own := RJ3) (by decide) rfl rfl (Nat.le_of_ble_eq_true rfl) ?_
    intro p e s m below meth c A X ls hl hW
    obtain ⟨hx, hb, hml, hown, hts⟩ := id X.1
    have hl : lv_has ls 3 [(0, .int k), (1, .int n), (2, .ref t)] := hl
    refine lv_iload_n hx hb dJ3_checkIndex_8e157_0 rfl (lv_at hl 0 rfl) ?_
    refine lv_if_lt (tgt := 9) hx hb dJ3_checkIndex_8e157_1 (by decide) (fun c1 => absurd c1 h0) (fun c1 => ?_)
    refine lv_iload_n hx hb dJ3_checkIndex_8e157_4 rfl (lv_at hl 0 rfl) ?_
    refine lv_iload_n hx hb dJ3_checkIndex_8e157_5 rfl (lv_at hl 1 rfl) ?_
    refine lv_icmp_lt (tgt := 16) hx hb dJ3_checkIndex_8e157_6 (by decide) (fun c1 => ?_) (fun c1 => absurd h1 c1)
    refine lv_iload_n hx hb dJ3_checkIndex_8e157_16 rfl (lv_at hl 0 rfl) ?_
    exact g_iret X hW dJ3_checkIndex_8e157_17
theorem kJ0_checkIndex {l : Launch} (G : Gt) {k n : Int32} (h0 : ¬ k < 0) (h1 : k < n) : CtV G l yJ0_checkIndex_df160 wsJ0_checkIndex_df160 rmJ0ck [.int k, .int n] [] [] := by
  refine CtV.mk (cc := cJ0_checkIndex_df160) (maxL := 2) (ret := none) (own := RJ0) (by decide) rfl rfl (Nat.le_of_ble_eq_true rfl) ?_
  intro p e s m below meth c A X ls hl hW
  obtain ⟨hx, hb, hml, hown, hts⟩ := id X.1
  have hl : lv_has ls 2 [(0, .int k), (1, .int n)] := hl
  obtain ⟨hK, hP, hD, hS, hA, hZ⟩ := id hW
  refine lv_iload_n hx hb dJ0_checkIndex_df160_0 rfl (lv_at hl 0 rfl) ?_
  refine lv_iload_n hx hb dJ0_checkIndex_df160_1 rfl (lv_at hl 1 rfl) ?_
  have hst := hts (.fieldLink RJ0 1053 "jdk/internal/util/Preconditions" "SIOOBE_FORMATTER" "Ljava/util/function/BiFunction;") (by decide +kernel)
  have go : ∀ v : Value, (v = .null ∨ ∃ t : Nat, v = .ref t) → W p l e rmJ0ck s m [.int k, .int n].toArray below meth c s.heap [] 0 0 (QV G A below [.int k, .int n].toArray s []) (F0 m 5 ls [v, .int n, .int k]) := by
    intro v hv
    refine g_csi X hW (As := [.int k, .int n, v]) (ws' := []) (⟨_, gJ0_checkIndex_df160_J3_checkIndex_8e157, rfl, by decide +kernel⟩ : CkS _ _ _ _ _ cJ3_checkIndex_8e157 3 (some .int) 3) (kJ3_checkIndex (l := l) G h0 h1 hv) ⟨rfl, rfl, Nat.le_of_ble_eq_true rfl, Nat.le_of_ble_eq_true rfl⟩ [] rfl rfl rfl rfl rfl rfl hl.1 (Nat.le_of_ble_eq_true rfl) ⟨Nat.zero_le _, Nat.zero_le _⟩ dJ0_checkIndex_df160_5 (fun H locs hW => ?_)
    refine lv_pop hx hb dJ0_checkIndex_df160_8 rfl ?_
    exact g_vret X hW dJ0_checkIndex_df160_9
  rcases hZ.2.2.2.2 with hz | ⟨t, hz⟩
  · exact va_gets hx hb hz hS hown hst (fun _ h => h) dJ0_checkIndex_df160_2 (go _ (Or.inl rfl))
  · exact va_gets hx hb hz hS hown hst (fun _ h => h) dJ0_checkIndex_df160_2 (go _ (Or.inr ⟨t, rfl⟩))
theorem ix_lt {k : Int32} {n : Nat} (h : ix k n = true) (hn : n < 2 ^ 31) : ¬ k < 0 ∧ k < nI n := by
  obtain ⟨j, hj, rfl⟩ := vp_in_of (ix_in h) hn
  exact ⟨nI_pos (by omega), nI_lt hj hn⟩
theorem kJ1_charAt {l : Launch} (G : Gt) {i : Nat} {k : Int32} (hi : i < 7) (hk : ix k (sLen.getD i 0) = true) : CtI G l yJ1_charAt_3b067 wsJ1_charAt_3b067 rmJ1ch [.ref (G.2.2.2 i), .int k] [] (sch i k) [] := by
  refine CtI.mk (cc := cJ1_charAt_3b067) (maxL := 2) (ret := some .char) (own := RJ1) (by decide) rfl rfl (Nat.le_of_ble_eq_true rfl) ?_
  intro p e s m below meth c A X ls hl hW
  obtain ⟨hx, hb, hml, hown, hts⟩ := id X.1
  have hl : lv_has ls 2 [(0, .ref (G.2.2.2 i)), (1, .int k)] := hl
  obtain ⟨hK, hP, hD, hS, hA, hZ⟩ := id hW
  refine lv_iload_n hx hb dJ1_charAt_3b067_0 rfl (lv_at hl 1 rfl) ?_
  refine lv_aload_n hx hb dJ1_charAt_3b067_1 rfl (lv_at hl 0 rfl) ?_
  refine va_tlen hx hb (hZ.2.2.1.1 i hi).2.2.2 hS (v := nI (sLen.getD i 0)) rfl dJ1_charAt_3b067_2 ?_
  obtain ⟨b1, b2⟩ := ix_lt hk (sLen_lt i)
  refine g_csv X hW (As := [.int k, .int (nI (sLen.getD i 0))]) (ws' := []) (⟨_, gJ1_charAt_3b067_J0_checkIndex_df160, rfl, by decide +kernel⟩ : CkS _ _ _ _ _ cJ0_checkIndex_df160 2 none 2) (kJ0_checkIndex (l := l) G b1 b2) ⟨rfl, rfl, Nat.le_of_ble_eq_true rfl, Nat.le_of_ble_eq_true rfl⟩ [] rfl rfl rfl rfl rfl rfl hl.1 (Nat.le_of_ble_eq_true rfl) ⟨Nat.zero_le _, Nat.zero_le _⟩ dJ1_charAt_3b067_3 (fun H locs hW => ?_)
  obtain ⟨hK, hP, hD, hS, hA, hZ⟩ := id hW
  refine lv_aload_n hx hb dJ1_charAt_3b067_6 rfl (lv_at hl 0 rfl) ?_
  refine lv_iload_n hx hb dJ1_charAt_3b067_7 rfl (lv_at hl 1 rfl) ?_
  refine va_tb hx hb (hZ.2.2.1.1 i hi).2.2.2 hS (ix_in hk) rfl dJ1_charAt_3b067_8 ?_
  refine lv_sipush hx hb dJ1_charAt_3b067_9 qS255 ?_
  refine lv_iand hx hb dJ1_charAt_3b067_12 ?_
  refine lv_i2c hx hb dJ1_charAt_3b067_13 (v := sch i k) (sc_c2 _) ?_
  exact g_tret X hW (sc_nar _) dJ1_charAt_3b067_14
theorem kJ0_charAt {l : Launch} (G : Gt) {i : Nat} {k : Int32} (hi : i < 7) (hk : ix k (sLen.getD i 0) = true) : CtI G l yJ0_charAt_5068e wsJ0_charAt_5068e rmJ0ch [.ref (G.2.2.1 i), .int k] [] (sch i k) [] := by
  refine CtI.mk (cc := cJ0_charAt_5068e) (maxL := 2) (ret := some .char) (own := RJ0) (by decide) rfl rfl (Nat.le_of_ble_eq_true rfl) ?_
  intro p e s m below meth c A X ls hl hW
  obtain ⟨hx, hb, hml, hown, hts⟩ := id X.1
  have hl : lv_has ls 2 [(0, .ref (G.2.2.1 i)), (1, .int k)] := hl
  refine lv_aload_n hx hb dJ0_charAt_5068e_0 rfl (lv_at hl 0 rfl) ?_
  refine g_cts X hW (As := []) ⟨_, gJ0_charAt_5068e_J0_isLatin1_aae02, rfl, by decide +kernel⟩ hi (kJ0_isLatin1 (l := l) G hi) ⟨rfl, rfl, Nat.le_of_ble_eq_true rfl, Nat.le_of_ble_eq_true rfl⟩ rfl rfl hl.1 (Nat.le_of_ble_eq_true rfl) ⟨Nat.zero_le _, Nat.zero_le _⟩ dJ0_charAt_5068e_1 (fun H locs hW => ?_)
  obtain ⟨hK, hP, hD, hS, hA, hZ⟩ := id hW
  refine lv_if_eq (tgt := 16) hx hb dJ0_charAt_5068e_4 (by decide) (fun c1 => absurd c1 (by decide)) (fun c1 => ?_)
  refine lv_aload_n hx hb dJ0_charAt_5068e_7 rfl (lv_at hl 0 rfl) ?_
  refine vk_getf hx hb (hZ.2.2.1.1 i hi).2.2.1 hS hown (hts (.fieldLink RJ0 9 "java/lang/String" "value" "[B") (by decide +kernel)) (fun _ h => h) dJ0_charAt_5068e_8 ?_
  refine lv_iload_n hx hb dJ0_charAt_5068e_11 rfl (lv_at hl 1 rfl) ?_
  refine g_csi X hW (As := [.ref (G.2.2.2 i), .int k]) (ws' := []) (⟨_, gJ0_charAt_5068e_J1_charAt_3b067, rfl, by decide +kernel⟩ : CkS _ _ _ _ _ cJ1_charAt_3b067 2 (some .char) 2) (kJ1_charAt (l := l) G hi hk) ⟨rfl, rfl, Nat.le_of_ble_eq_true rfl, Nat.le_of_ble_eq_true rfl⟩ [] rfl rfl rfl rfl rfl rfl hl.1 (Nat.le_of_ble_eq_true rfl) ⟨Nat.zero_le _, Nat.zero_le _⟩ dJ0_charAt_5068e_12 (fun H locs hW => ?_)
  exact g_tret X hW (sc_nar _) dJ0_charAt_5068e_15
section GSTR2
variable {p : Program} {l : Launch} {e : Env} {R : Room} {s : State} {m : MethodId} {args : Array Value} {below : List Frame} {meth : Method} {c : Code} {H : Heap} {locs : List Loc} {cells slots : Nat} {Q : State → Prop} {cc : ByteArray} {nL : Nat} {Ts : List Cond} {own : String} {ret : Option FieldType} {G : Gt} {A : Nat → Prop} {ws : va_W} {ls : Array Slot} {pc : Nat} {rest : List Value} {a : Nat}
theorem g_slen (X : Bx p s m args meth c cc nL Ts own ret) (hW : Wo G A s ws H locs) {index i : Nat} (K : CkT Ts own index yJ0_length_8abf5 wsJ0_length_8abf5 cJ0_length_8abf5 1 (some .int) 0) (hsz : ls.size = nL) (hok : sok i = true) (hR : 2 ≤ R.frames ∧ 40 ≤ R.locals) (h8 : (rest.map fun v => v.category).sum ≤ 8) (hcs : cells ≤ R.cells ∧ slots ≤ R.slots) (hdg : decode cc pc = .ok (.invokevirtual index, 3))
    (kk : ∀ (H1 : Heap) (locs1 : List Loc), Wo G A s ws H1 locs1 → W p l e R s m args below meth c H1 locs1 cells slots Q (F0 m (pc + 3) ls (.int (slen i) :: rest))) : W p l e R s m args below meth c H locs cells slots Q (F0 m pc ls (.ref (G.2.2.1 i) :: rest)) :=
  g_cts X hW (As := []) K (of_decide_eq_true hok) (kJ0_length (l := l) G (of_decide_eq_true hok)) ⟨rfl, rfl, hR.1, hR.2⟩ rfl rfl hsz h8 hcs hdg kk
theorem g_schar (X : Bx p s m args meth c cc nL Ts own ret) (hW : Wo G A s ws H locs) {index i : Nat} {k : Int32} (K : CkT Ts own index yJ0_charAt_5068e wsJ0_charAt_5068e cJ0_charAt_5068e 2 (some .char) 1) (hsz : ls.size = nL) (hok : sck i k = true) (hR : 4 ≤ R.frames ∧ 85 ≤ R.locals) (h8 : (rest.map fun v => v.category).sum ≤ 8) (hcs : cells ≤ R.cells ∧ slots ≤ R.slots) (hdg : decode cc pc = .ok (.invokevirtual index, 3))
    (kk : ∀ (H1 : Heap) (locs1 : List Loc), Wo G A s ws H1 locs1 → W p l e R s m args below meth c H1 locs1 cells slots Q (F0 m (pc + 3) ls (.int (sch i k) :: rest))) : W p l e R s m args below meth c H locs cells slots Q (F0 m pc ls (.int k :: .ref (G.2.2.1 i) :: rest)) := by
  have h : decide (i < 7) = true ∧ ix k (sLen.getD i 0) = true := by
    unfold sck at hok
    exact Bool.and_eq_true_iff.mp hok
  exact g_cts X hW (As := [.int k]) K (of_decide_eq_true h.1) (kJ0_charAt (l := l) G (of_decide_eq_true h.1) h.2) ⟨rfl, rfl, hR.1, hR.2⟩ rfl rfl hsz h8 hcs hdg kk
end GSTR2
