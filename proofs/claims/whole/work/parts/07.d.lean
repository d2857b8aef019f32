/-! EmptyBoxes.least -/
section MX6_least
theorem hdX6_least : yX6_least.cls = RX6 ∧ yX6_least.cls ≠ "java/lang/invoke/MethodHandle" ∧ yX6_least.cls ≠ "java/lang/invoke/VarHandle" ∧ (parseMethodDescriptor yX6_least.desc).map (fun d => d.parameters.length) = some 0 := by decide +kernel
abbrev wX6_least (G : Gt) (a_eb a_desk a_desk_weeks a_desk_weeks_a a_desk_routes a_desk_routes_a a_plan a_plan_start a_plan_end a_plan_cost a_plan_room a_plan_idle a_plan_unmet a_plan_gain a_plan_way a_kept a_tape a_text a_mat a_desk_boxes a_desk_words a_desk_offers a_desk_wants a_desk_leaves a_desk_leases a_desk_uses : Nat) (isKept : Int32) (planStands : Int32) (today : Int32) (lack : Int32) (rate : Int32) (free : Int32) (weeks_r : Int32) (weeks_f : (Nat → Int32)) (routes_r : Int32) (routes_f : (Nat → Int32)) (pl_arcs : Int32) (pl_lack : Int32) (pl_least : Int32) (pl_start : (Nat → Int32)) (pl_end : (Nat → Int32)) (pl_cost : (Nat → Int32)) (pl_room : (Nat → Int32)) (pl_idle : (Nat → Int32)) (pl_unmet : (Nat → Int32)) (pl_gain : (Nat → Int32)) (pl_way : (Nat → Int32)) : va_W := [(a_eb, .inr (6, [.ref a_desk, .ref a_kept, .ref a_tape, .ref a_text, .ref a_plan, .ref a_mat, .int isKept, .int planStands])), (a_desk, .inr (0, [.ref a_desk_boxes, .ref a_desk_words, .ref a_desk_weeks, .ref a_desk_routes, .ref a_desk_offers, .ref a_desk_wants, .ref a_desk_leaves, .ref a_desk_leases, .ref a_desk_uses, .int today, .int lack, .int rate, .int free])), (a_desk_weeks, .inr (4, [.ref a_desk_weeks_a, .int (2 : Int32), .int (30 : Int32), .int weeks_r])), (a_desk_weeks_a, .inl (G.2.1, 60, .inl weeks_f)), (a_desk_routes, .inr (4, [.ref a_desk_routes_a, .int (5 : Int32), .int (10 : Int32), .int routes_r])), (a_desk_routes_a, .inl (G.2.1, 50, .inl routes_f)), (a_plan, .inr (3, [.ref a_plan_start, .ref a_plan_end, .ref a_plan_cost, .ref a_plan_room, .ref a_plan_idle, .ref a_plan_unmet, .ref a_plan_gain, .ref a_plan_way, .int pl_arcs, .int pl_lack, .int pl_least])), (a_plan_start, .inl (G.2.1, 148, .inl pl_start)), (a_plan_end, .inl (G.2.1, 148, .inl pl_end)), (a_plan_cost, .inl (G.2.1, 148, .inl pl_cost)), (a_plan_room, .inl (G.2.1, 148, .inl pl_room)), (a_plan_idle, .inl (G.2.1, 30, .inl pl_idle)), (a_plan_unmet, .inl (G.2.1, 30, .inl pl_unmet)), (a_plan_gain, .inl (G.2.1, 30, .inl pl_gain)), (a_plan_way, .inl (G.2.1, 30, .inl pl_way))]
abbrev rmX6_least : Room := { frames := 6, cells := 0, slots := 0, locals := 133 }
theorem iX6_least_X3 : ∀ w ∈ wsX30, w ∈ wsX6_least := by decide +kernel
theorem iX6_least_X6 : ∀ w ∈ wsX60, w ∈ wsX6_least := by decide +kernel
theorem eX6_least_185 : Fk wsX6_least RX6 185 3 10 := ⟨RX3, TX3, 11, rfl, iX6_least_X3, by decide, by decide +kernel⟩
theorem eX6_least_36 : Fk wsX6_least RX6 36 6 4 := ⟨RX6, TX6, 8, rfl, iX6_least_X6, by decide, by decide +kernel⟩
theorem ckX6_least_X6_makePlan_182 : CkV wsX6_least RX6 182 yX6_makePlan wsX6_makePlan cX6_makePlan 1 none 0 6 := ⟨RX6, TX6, 8, _, rfl, gX6_least_X6_makePlan, rfl, hdX6_makePlan⟩
variable {p : Program} {l : Launch} {e : Env} {s : State} {m : MethodId} {args : Array Value} {below : List Frame} {meth : Method} {c : Code} {A : Nat → Prop} {G : Gt} {a_eb a_desk a_desk_weeks a_desk_weeks_a a_desk_routes a_desk_routes_a a_plan a_plan_start a_plan_end a_plan_cost a_plan_room a_plan_idle a_plan_unmet a_plan_gain a_plan_way a_kept a_tape a_text a_mat a_desk_boxes a_desk_words a_desk_offers a_desk_wants a_desk_leaves a_desk_leases a_desk_uses : Nat} {isKept : Int32} {today : Int32} {lack : Int32} {rate : Int32} {free : Int32} {weeks_r : Int32} {weeks_f : (Nat → Int32)} {routes_r : Int32} {routes_f : (Nat → Int32)} {res : Int32 × Int32 × Int32 × Int32 × Int32 × (Nat → Int32) × (Nat → Int32) × (Nat → Int32) × (Nat → Int32) × (Nat → Int32) × (Nat → Int32) × (Nat → Int32) × (Nat → Int32)}
set_option maxHeartbeats 4000000 in
set_option maxRecDepth 100000 in
theorem k0X6_least {l : Launch} (G : Gt) (a_eb a_desk a_desk_weeks a_desk_weeks_a a_desk_routes a_desk_routes_a a_plan a_plan_start a_plan_end a_plan_cost a_plan_room a_plan_idle a_plan_unmet a_plan_gain a_plan_way a_kept a_tape a_text a_mat a_desk_boxes a_desk_words a_desk_offers a_desk_wants a_desk_leaves a_desk_leases a_desk_uses : Nat)  (isKept : Int32) (planStands : Int32) (today : Int32) (lack : Int32) (rate : Int32) (free : Int32) (weeks_r : Int32) (weeks_f : (Nat → Int32)) (routes_r : Int32) (routes_f : (Nat → Int32)) (pl_arcs : Int32) (pl_lack : Int32) (pl_least : Int32) (pl_start : (Nat → Int32)) (pl_end : (Nat → Int32)) (pl_cost : (Nat → Int32)) (pl_room : (Nat → Int32)) (pl_idle : (Nat → Int32)) (pl_unmet : (Nat → Int32)) (pl_gain : (Nat → Int32)) (pl_way : (Nat → Int32)) {res : Int32 × Int32 × Int32 × Int32 × Int32 × (Nat → Int32) × (Nat → Int32) × (Nat → Int32) × (Nat → Int32) × (Nat → Int32) × (Nat → Int32) × (Nat → Int32) × (Nat → Int32)} (h : fX6_least planStands lack weeks_r weeks_f routes_r routes_f pl_arcs pl_lack pl_least pl_start pl_end pl_cost pl_room pl_idle pl_unmet pl_gain pl_way = some res) : CtI G l yX6_least wsX6_least rmX6_least [.ref a_eb] (wX6_least G a_eb a_desk a_desk_weeks a_desk_weeks_a a_desk_routes a_desk_routes_a a_plan a_plan_start a_plan_end a_plan_cost a_plan_room a_plan_idle a_plan_unmet a_plan_gain a_plan_way a_kept a_tape a_text a_mat a_desk_boxes a_desk_words a_desk_offers a_desk_wants a_desk_leaves a_desk_leases a_desk_uses isKept planStands today lack rate free weeks_r weeks_f routes_r routes_f pl_arcs pl_lack pl_least pl_start pl_end pl_cost pl_room pl_idle pl_unmet pl_gain pl_way) res.1 (wX6_least G a_eb a_desk a_desk_weeks a_desk_weeks_a a_desk_routes a_desk_routes_a a_plan a_plan_start a_plan_end a_plan_cost a_plan_room a_plan_idle a_plan_unmet a_plan_gain a_plan_way a_kept a_tape a_text a_mat a_desk_boxes a_desk_words a_desk_offers a_desk_wants a_desk_leaves a_desk_leases a_desk_uses isKept res.2.1 today lack rate free weeks_r weeks_f routes_r routes_f res.2.2.1 res.2.2.2.1 res.2.2.2.2.1 res.2.2.2.2.2.1 res.2.2.2.2.2.2.1 res.2.2.2.2.2.2.2.1 res.2.2.2.2.2.2.2.2.1 res.2.2.2.2.2.2.2.2.2.1 res.2.2.2.2.2.2.2.2.2.2.1 res.2.2.2.2.2.2.2.2.2.2.2.1 res.2.2.2.2.2.2.2.2.2.2.2.2) := by
  refine CtI.mk (cc := cX6_least) (maxL := 1) (ret := (some .int)) (own := RX6) (by decide) rfl rfl (Nat.le_of_ble_eq_true rfl) ?_
  intro p e s m below meth c A X ls hl hW
  obtain ⟨hx, hb, -⟩ := id X.1
  have hl : lv_has ls 1 [(0, .ref a_eb)] := hl
  generalize hH : s.heap = H at hW ⊢
  generalize hLo : ([] : List Loc) = locs at hW ⊢
  rw [fX6_least] at h
  refine lv_aload_n hx hb dX6_least_0 rfl (lv_at hl 0 rfl) ?_
  obtain ⟨o2_planStands, o2_pl_arcs, o2_pl_lack, o2_pl_least, o2_pl_start, o2_pl_end, o2_pl_cost, o2_pl_room, o2_pl_idle, o2_pl_unmet, o2_pl_gain, o2_pl_way, hq, h⟩ := bn12_some h
  refine g_cvv X hW (As := []) (ws' := (wX6_least G a_eb a_desk a_desk_weeks a_desk_weeks_a a_desk_routes a_desk_routes_a a_plan a_plan_start a_plan_end a_plan_cost a_plan_room a_plan_idle a_plan_unmet a_plan_gain a_plan_way a_kept a_tape a_text a_mat a_desk_boxes a_desk_words a_desk_offers a_desk_wants a_desk_leaves a_desk_leases a_desk_uses isKept o2_planStands today lack rate free weeks_r weeks_f routes_r routes_f o2_pl_arcs o2_pl_lack o2_pl_least o2_pl_start o2_pl_end o2_pl_cost o2_pl_room o2_pl_idle o2_pl_unmet o2_pl_gain o2_pl_way)) ckX6_least_X6_makePlan_182 (kcX6_makePlan (l := l) G a_eb a_desk a_desk_weeks a_desk_weeks_a a_desk_routes a_desk_routes_a a_plan a_plan_start a_plan_end a_plan_cost a_plan_room a_plan_idle a_plan_unmet a_plan_gain a_plan_way a_kept a_tape a_text a_mat a_desk_boxes a_desk_words a_desk_offers a_desk_wants a_desk_leaves a_desk_leases a_desk_uses isKept planStands today lack rate free weeks_r weeks_f routes_r routes_f pl_arcs pl_lack pl_least pl_start pl_end pl_cost pl_room pl_idle pl_unmet pl_gain pl_way hq) ⟨rfl, rfl, Nat.le_of_ble_eq_true rfl, Nat.le_of_ble_eq_true rfl⟩ [0, 1, 2, 3, 4, 5, 6, 7, 8, 9, 10, 11, 12, 13, 14] rfl rfl rfl rfl rfl rfl rfl hl.1 (Nat.le_of_ble_eq_true rfl) ⟨Nat.zero_le _, Nat.zero_le _⟩ dX6_least_1 (fun H locs hW => ?_)
  refine lv_aload_n hx hb dX6_least_4 rfl (lv_at hl 0 rfl) ?_
  refine g_get X hW eX6_least_36 0 rfl rfl dX6_least_5 ?_
  refine g_get X hW eX6_least_185 6 rfl rfl dX6_least_8 ?_
  obtain rfl := Option.some.inj h
  exact g_iret X hW dX6_least_11
theorem kcX6_least {l : Launch} (G : Gt) (a_eb a_desk a_desk_weeks a_desk_weeks_a a_desk_routes a_desk_routes_a a_plan a_plan_start a_plan_end a_plan_cost a_plan_room a_plan_idle a_plan_unmet a_plan_gain a_plan_way a_kept a_tape a_text a_mat a_desk_boxes a_desk_words a_desk_offers a_desk_wants a_desk_leaves a_desk_leases a_desk_uses : Nat)  (isKept : Int32) (planStands : Int32) (today : Int32) (lack : Int32) (rate : Int32) (free : Int32) (weeks_r : Int32) (weeks_f : (Nat → Int32)) (routes_r : Int32) (routes_f : (Nat → Int32)) (pl_arcs : Int32) (pl_lack : Int32) (pl_least : Int32) (pl_start : (Nat → Int32)) (pl_end : (Nat → Int32)) (pl_cost : (Nat → Int32)) (pl_room : (Nat → Int32)) (pl_idle : (Nat → Int32)) (pl_unmet : (Nat → Int32)) (pl_gain : (Nat → Int32)) (pl_way : (Nat → Int32)) {r : Int32} {z_planStands : Int32} {z_pl_arcs : Int32} {z_pl_lack : Int32} {z_pl_least : Int32} {z_pl_start : (Nat → Int32)} {z_pl_end : (Nat → Int32)} {z_pl_cost : (Nat → Int32)} {z_pl_room : (Nat → Int32)} {z_pl_idle : (Nat → Int32)} {z_pl_unmet : (Nat → Int32)} {z_pl_gain : (Nat → Int32)} {z_pl_way : (Nat → Int32)} (h : fX6_least planStands lack weeks_r weeks_f routes_r routes_f pl_arcs pl_lack pl_least pl_start pl_end pl_cost pl_room pl_idle pl_unmet pl_gain pl_way = some (r, z_planStands, z_pl_arcs, z_pl_lack, z_pl_least, z_pl_start, z_pl_end, z_pl_cost, z_pl_room, z_pl_idle, z_pl_unmet, z_pl_gain, z_pl_way)) : CtI G l yX6_least wsX6_least rmX6_least [.ref a_eb] (wX6_least G a_eb a_desk a_desk_weeks a_desk_weeks_a a_desk_routes a_desk_routes_a a_plan a_plan_start a_plan_end a_plan_cost a_plan_room a_plan_idle a_plan_unmet a_plan_gain a_plan_way a_kept a_tape a_text a_mat a_desk_boxes a_desk_words a_desk_offers a_desk_wants a_desk_leaves a_desk_leases a_desk_uses isKept planStands today lack rate free weeks_r weeks_f routes_r routes_f pl_arcs pl_lack pl_least pl_start pl_end pl_cost pl_room pl_idle pl_unmet pl_gain pl_way) r (wX6_least G a_eb a_desk a_desk_weeks a_desk_weeks_a a_desk_routes a_desk_routes_a a_plan a_plan_start a_plan_end a_plan_cost a_plan_room a_plan_idle a_plan_unmet a_plan_gain a_plan_way a_kept a_tape a_text a_mat a_desk_boxes a_desk_words a_desk_offers a_desk_wants a_desk_leaves a_desk_leases a_desk_uses isKept z_planStands today lack rate free weeks_r weeks_f routes_r routes_f z_pl_arcs z_pl_lack z_pl_least z_pl_start z_pl_end z_pl_cost z_pl_room z_pl_idle z_pl_unmet z_pl_gain z_pl_way) := k0X6_least G a_eb a_desk a_desk_weeks a_desk_weeks_a a_desk_routes a_desk_routes_a a_plan a_plan_start a_plan_end a_plan_cost a_plan_room a_plan_idle a_plan_unmet a_plan_gain a_plan_way a_kept a_tape a_text a_mat a_desk_boxes a_desk_words a_desk_offers a_desk_wants a_desk_leaves a_desk_leases a_desk_uses isKept planStands today lack rate free weeks_r weeks_f routes_r routes_f pl_arcs pl_lack pl_least pl_start pl_end pl_cost pl_room pl_idle pl_unmet pl_gain pl_way h
end MX6_least
/-! EmptyBoxes.worth -/
section MX6_worth
theorem hdX6_worth : yX6_worth.cls = RX6 ∧ yX6_worth.cls ≠ "java/lang/invoke/MethodHandle" ∧ yX6_worth.cls ≠ "java/lang/invoke/VarHandle" ∧ (parseMethodDescriptor yX6_worth.desc).map (fun d => d.parameters.length) = some 2 := by decide +kernel
abbrev wX6_worth (G : Gt) (a_eb a_desk a_desk_weeks a_desk_weeks_a a_desk_routes a_desk_routes_a a_plan a_plan_start a_plan_end a_plan_cost a_plan_room a_plan_idle a_plan_unmet a_plan_gain a_plan_way a_kept a_tape a_text a_mat a_desk_boxes a_desk_words a_desk_offers a_desk_wants a_desk_leaves a_desk_leases a_desk_uses : Nat) (isKept : Int32) (planStands : Int32) (today : Int32) (lack : Int32) (rate : Int32) (free : Int32) (weeks_r : Int32) (weeks_f : (Nat → Int32)) (routes_r : Int32) (routes_f : (Nat → Int32)) (pl_arcs : Int32) (pl_lack : Int32) (pl_least : Int32) (pl_start : (Nat → Int32)) (pl_end : (Nat → Int32)) (pl_cost : (Nat → Int32)) (pl_room : (Nat → Int32)) (pl_idle : (Nat → Int32)) (pl_unmet : (Nat → Int32)) (pl_gain : (Nat → Int32)) (pl_way : (Nat → Int32)) : va_W := [(a_eb, .inr (6, [.ref a_desk, .ref a_kept, .ref a_tape, .ref a_text, .ref a_plan, .ref a_mat, .int isKept, .int planStands])), (a_desk, .inr (0, [.ref a_desk_boxes, .ref a_desk_words, .ref a_desk_weeks, .ref a_desk_routes, .ref a_desk_offers, .ref a_desk_wants, .ref a_desk_leaves, .ref a_desk_leases, .ref a_desk_uses, .int today, .int lack, .int rate, .int free])), (a_desk_weeks, .inr (4, [.ref a_desk_weeks_a, .int (2 : Int32), .int (30 : Int32), .int weeks_r])), (a_desk_weeks_a, .inl (G.2.1, 60, .inl weeks_f)), (a_desk_routes, .inr (4, [.ref a_desk_routes_a, .int (5 : Int32), .int (10 : Int32), .int routes_r])), (a_desk_routes_a, .inl (G.2.1, 50, .inl routes_f)), (a_plan, .inr (3, [.ref a_plan_start, .ref a_plan_end, .ref a_plan_cost, .ref a_plan_room, .ref a_plan_idle, .ref a_plan_unmet, .ref a_plan_gain, .ref a_plan_way, .int pl_arcs, .int pl_lack, .int pl_least])), (a_plan_start, .inl (G.2.1, 148, .inl pl_start)), (a_plan_end, .inl (G.2.1, 148, .inl pl_end)), (a_plan_cost, .inl (G.2.1, 148, .inl pl_cost)), (a_plan_room, .inl (G.2.1, 148, .inl pl_room)), (a_plan_idle, .inl (G.2.1, 30, .inl pl_idle)), (a_plan_unmet, .inl (G.2.1, 30, .inl pl_unmet)), (a_plan_gain, .inl (G.2.1, 30, .inl pl_gain)), (a_plan_way, .inl (G.2.1, 30, .inl pl_way))]
abbrev rmX6_worth : Room := { frames := 6, cells := 0, slots := 0, locals := 133 }
theorem iX6_worth_X6 : ∀ w ∈ wsX60, w ∈ wsX6_worth := by decide +kernel
theorem eX6_worth_36 : Fk wsX6_worth RX6 36 6 4 := ⟨RX6, TX6, 8, rfl, iX6_worth_X6, by decide, by decide +kernel⟩
theorem ckX6_worth_X3_gainAt_188 : CkV wsX6_worth RX6 188 yX3_gainAt wsX3_gainAt cX3_gainAt 2 (some .int) 1 3 := ⟨RX3, TX3, 11, _, rfl, gX6_worth_X3_gainAt, rfl, hdX3_gainAt⟩
theorem ckX6_worth_X6_isPlace_126 : CkS wsX6_worth RX6 126 yX6_isPlace wsX6_isPlace cX6_isPlace 1 (some .boolean) 1 := ⟨_, gX6_worth_X6_isPlace, rfl, hdX6_isPlace.2⟩
theorem ckX6_worth_X6_isWeek_167 : CkS wsX6_worth RX6 167 yX6_isWeek wsX6_isWeek cX6_isWeek 1 (some .boolean) 1 := ⟨_, gX6_worth_X6_isWeek, rfl, hdX6_isWeek.2⟩
theorem ckX6_worth_X6_knotOf_170 : CkS wsX6_worth RX6 170 yX6_knotOf wsX6_knotOf cX6_knotOf 2 (some .int) 2 := ⟨_, gX6_worth_X6_knotOf, rfl, hdX6_knotOf.2⟩
theorem ckX6_worth_X6_makePlan_182 : CkV wsX6_worth RX6 182 yX6_makePlan wsX6_makePlan cX6_makePlan 1 none 0 6 := ⟨RX6, TX6, 8, _, rfl, gX6_worth_X6_makePlan, rfl, hdX6_makePlan⟩
variable {p : Program} {l : Launch} {e : Env} {s : State} {m : MethodId} {args : Array Value} {below : List Frame} {meth : Method} {c : Code} {A : Nat → Prop} {G : Gt} {a_eb a_desk a_desk_weeks a_desk_weeks_a a_desk_routes a_desk_routes_a a_plan a_plan_start a_plan_end a_plan_cost a_plan_room a_plan_idle a_plan_unmet a_plan_gain a_plan_way a_kept a_tape a_text a_mat a_desk_boxes a_desk_words a_desk_offers a_desk_wants a_desk_leaves a_desk_leases a_desk_uses : Nat} {isKept : Int32} {today : Int32} {lack : Int32} {rate : Int32} {free : Int32} {weeks_r : Int32} {weeks_f : (Nat → Int32)} {routes_r : Int32} {routes_f : (Nat → Int32)} {res : Int32 × Int32 × Int32 × Int32 × Int32 × (Nat → Int32) × (Nat → Int32) × (Nat → Int32) × (Nat → Int32) × (Nat → Int32) × (Nat → Int32) × (Nat → Int32) × (Nat → Int32)}
set_option maxHeartbeats 4000000 in
set_option maxRecDepth 100000 in
theorem k0X6_worth {l : Launch} (G : Gt) (a_eb a_desk a_desk_weeks a_desk_weeks_a a_desk_routes a_desk_routes_a a_plan a_plan_start a_plan_end a_plan_cost a_plan_room a_plan_idle a_plan_unmet a_plan_gain a_plan_way a_kept a_tape a_text a_mat a_desk_boxes a_desk_words a_desk_offers a_desk_wants a_desk_leaves a_desk_leases a_desk_uses : Nat) (v1 : Int32) (v2 : Int32) (isKept : Int32) (planStands : Int32) (today : Int32) (lack : Int32) (rate : Int32) (free : Int32) (weeks_r : Int32) (weeks_f : (Nat → Int32)) (routes_r : Int32) (routes_f : (Nat → Int32)) (pl_arcs : Int32) (pl_lack : Int32) (pl_least : Int32) (pl_start : (Nat → Int32)) (pl_end : (Nat → Int32)) (pl_cost : (Nat → Int32)) (pl_room : (Nat → Int32)) (pl_idle : (Nat → Int32)) (pl_unmet : (Nat → Int32)) (pl_gain : (Nat → Int32)) (pl_way : (Nat → Int32)) {res : Int32 × Int32 × Int32 × Int32 × Int32 × (Nat → Int32) × (Nat → Int32) × (Nat → Int32) × (Nat → Int32) × (Nat → Int32) × (Nat → Int32) × (Nat → Int32) × (Nat → Int32)} (h : fX6_worth v1 v2 planStands lack weeks_r weeks_f routes_r routes_f pl_arcs pl_lack pl_least pl_start pl_end pl_cost pl_room pl_idle pl_unmet pl_gain pl_way = some res) : CtI G l yX6_worth wsX6_worth rmX6_worth [.ref a_eb, .int v1, .int v2] (wX6_worth G a_eb a_desk a_desk_weeks a_desk_weeks_a a_desk_routes a_desk_routes_a a_plan a_plan_start a_plan_end a_plan_cost a_plan_room a_plan_idle a_plan_unmet a_plan_gain a_plan_way a_kept a_tape a_text a_mat a_desk_boxes a_desk_words a_desk_offers a_desk_wants a_desk_leaves a_desk_leases a_desk_uses isKept planStands today lack rate free weeks_r weeks_f routes_r routes_f pl_arcs pl_lack pl_least pl_start pl_end pl_cost pl_room pl_idle pl_unmet pl_gain pl_way) res.1 (wX6_worth G a_eb a_desk a_desk_weeks a_desk_weeks_a a_desk_routes a_desk_routes_a a_plan a_plan_start a_plan_end a_plan_cost a_plan_room a_plan_idle a_plan_unmet a_plan_gain a_plan_way a_kept a_tape a_text a_mat a_desk_boxes a_desk_words a_desk_offers a_desk_wants a_desk_leaves a_desk_leases a_desk_uses isKept res.2.1 today lack rate free weeks_r weeks_f routes_r routes_f res.2.2.1 res.2.2.2.1 res.2.2.2.2.1 res.2.2.2.2.2.1 res.2.2.2.2.2.2.1 res.2.2.2.2.2.2.2.1 res.2.2.2.2.2.2.2.2.1 res.2.2.2.2.2.2.2.2.2.1 res.2.2.2.2.2.2.2.2.2.2.1 res.2.2.2.2.2.2.2.2.2.2.2.1 res.2.2.2.2.2.2.2.2.2.2.2.2) := by
  refine CtI.mk (cc := cX6_worth) (maxL := 3) (ret := (some .int)) (own := RX6) (by decide) rfl rfl (Nat.le_of_ble_eq_true rfl) ?_
  intro p e s m below meth c A X ls hl hW
  obtain ⟨hx, hb, -⟩ := id X.1
  have hl : lv_has ls 3 [(0, .ref a_eb), (1, .int v1), (2, .int v2)] := hl
  generalize hH : s.heap = H at hW ⊢
  generalize hLo : ([] : List Loc) = locs at hW ⊢
  rw [fX6_worth] at h
  refine lv_iload_n hx hb dX6_worth_0 rfl (lv_at hl 1 rfl) ?_
  obtain ⟨r2, hq, h⟩ := bn1_some h
  refine g_csi X hW (As := [.int v1]) (ws' := (wX6_worth G a_eb a_desk a_desk_weeks a_desk_weeks_a a_desk_routes a_desk_routes_a a_plan a_plan_start a_plan_end a_plan_cost a_plan_room a_plan_idle a_plan_unmet a_plan_gain a_plan_way a_kept a_tape a_text a_mat a_desk_boxes a_desk_words a_desk_offers a_desk_wants a_desk_leaves a_desk_leases a_desk_uses isKept planStands today lack rate free weeks_r weeks_f routes_r routes_f pl_arcs pl_lack pl_least pl_start pl_end pl_cost pl_room pl_idle pl_unmet pl_gain pl_way)) ckX6_worth_X6_isPlace_126 (kcX6_isPlace (l := l) G v1 hq) ⟨rfl, rfl, Nat.le_of_ble_eq_true rfl, Nat.le_of_ble_eq_true rfl⟩ [] rfl rfl rfl rfl rfl rfl hl.1 (Nat.le_of_ble_eq_true rfl) ⟨Nat.zero_le _, Nat.zero_le _⟩ dX6_worth_1 (fun H locs hW => ?_)
  refine lv_if_eq (tgt := 14) hx hb dX6_worth_4 (by decide) (fun c3 => ?_) (fun c3 => ?_)
  · have h := (if_pos c3).symm.trans h
    refine lv_iconst hx hb dX6_worth_14 qI_m1 ?_
    obtain rfl := Option.some.inj h
    exact g_iret X hW dX6_worth_15
  · have h := (if_neg c3).symm.trans h
    refine lv_iload_n hx hb dX6_worth_7 rfl (lv_at hl 2 rfl) ?_
    obtain ⟨r7, hq, h⟩ := bn1_some h
    refine g_csi X hW (As := [.int v2]) (ws' := (wX6_worth G a_eb a_desk a_desk_weeks a_desk_weeks_a a_desk_routes a_desk_routes_a a_plan a_plan_start a_plan_end a_plan_cost a_plan_room a_plan_idle a_plan_unmet a_plan_gain a_plan_way a_kept a_tape a_text a_mat a_desk_boxes a_desk_words a_desk_offers a_desk_wants a_desk_leaves a_desk_leases a_desk_uses isKept planStands today lack rate free weeks_r weeks_f routes_r routes_f pl_arcs pl_lack pl_least pl_start pl_end pl_cost pl_room pl_idle pl_unmet pl_gain pl_way)) ckX6_worth_X6_isWeek_167 (kcX6_isWeek (l := l) G v2 hq) ⟨rfl, rfl, Nat.le_of_ble_eq_true rfl, Nat.le_of_ble_eq_true rfl⟩ [] rfl rfl rfl rfl rfl rfl hl.1 (Nat.le_of_ble_eq_true rfl) ⟨Nat.zero_le _, Nat.zero_le _⟩ dX6_worth_8 (fun H locs hW => ?_)
    refine lv_if_ne (tgt := 16) hx hb dX6_worth_11 (by decide) (fun c8 => ?_) (fun c8 => ?_)
    · have h := (if_neg c8).symm.trans h
      refine lv_aload_n hx hb dX6_worth_16 rfl (lv_at hl 0 rfl) ?_
      obtain ⟨o10_planStands, o10_pl_arcs, o10_pl_lack, o10_pl_least, o10_pl_start, o10_pl_end, o10_pl_cost, o10_pl_room, o10_pl_idle, o10_pl_unmet, o10_pl_gain, o10_pl_way, hq, h⟩ := bn12_some h
      refine g_cvv X hW (As := []) (ws' := (wX6_worth G a_eb a_desk a_desk_weeks a_desk_weeks_a a_desk_routes a_desk_routes_a a_plan a_plan_start a_plan_end a_plan_cost a_plan_room a_plan_idle a_plan_unmet a_plan_gain a_plan_way a_kept a_tape a_text a_mat a_desk_boxes a_desk_words a_desk_offers a_desk_wants a_desk_leaves a_desk_leases a_desk_uses isKept o10_planStands today lack rate free weeks_r weeks_f routes_r routes_f o10_pl_arcs o10_pl_lack o10_pl_least o10_pl_start o10_pl_end o10_pl_cost o10_pl_room o10_pl_idle o10_pl_unmet o10_pl_gain o10_pl_way)) ckX6_worth_X6_makePlan_182 (kcX6_makePlan (l := l) G a_eb a_desk a_desk_weeks a_desk_weeks_a a_desk_routes a_desk_routes_a a_plan a_plan_start a_plan_end a_plan_cost a_plan_room a_plan_idle a_plan_unmet a_plan_gain a_plan_way a_kept a_tape a_text a_mat a_desk_boxes a_desk_words a_desk_offers a_desk_wants a_desk_leaves a_desk_leases a_desk_uses isKept planStands today lack rate free weeks_r weeks_f routes_r routes_f pl_arcs pl_lack pl_least pl_start pl_end pl_cost pl_room pl_idle pl_unmet pl_gain pl_way hq) ⟨rfl, rfl, Nat.le_of_ble_eq_true rfl, Nat.le_of_ble_eq_true rfl⟩ [0, 1, 2, 3, 4, 5, 6, 7, 8, 9, 10, 11, 12, 13, 14] rfl rfl rfl rfl rfl rfl rfl hl.1 (Nat.le_of_ble_eq_true rfl) ⟨Nat.zero_le _, Nat.zero_le _⟩ dX6_worth_17 (fun H locs hW => ?_)
      refine lv_aload_n hx hb dX6_worth_20 rfl (lv_at hl 0 rfl) ?_
      refine g_get X hW eX6_worth_36 0 rfl rfl dX6_worth_21 ?_
      refine lv_iload_n hx hb dX6_worth_24 rfl (lv_at hl 1 rfl) ?_
      refine lv_iload_n hx hb dX6_worth_25 rfl (lv_at hl 2 rfl) ?_
      obtain ⟨r15, hq, h⟩ := bn1_some h
      refine g_csi X hW (As := [.int v1, .int v2]) (ws' := (wX6_worth G a_eb a_desk a_desk_weeks a_desk_weeks_a a_desk_routes a_desk_routes_a a_plan a_plan_start a_plan_end a_plan_cost a_plan_room a_plan_idle a_plan_unmet a_plan_gain a_plan_way a_kept a_tape a_text a_mat a_desk_boxes a_desk_words a_desk_offers a_desk_wants a_desk_leaves a_desk_leases a_desk_uses isKept o10_planStands today lack rate free weeks_r weeks_f routes_r routes_f o10_pl_arcs o10_pl_lack o10_pl_least o10_pl_start o10_pl_end o10_pl_cost o10_pl_room o10_pl_idle o10_pl_unmet o10_pl_gain o10_pl_way)) ckX6_worth_X6_knotOf_170 (kcX6_knotOf (l := l) G v1 v2 hq) ⟨rfl, rfl, Nat.le_of_ble_eq_true rfl, Nat.le_of_ble_eq_true rfl⟩ [] rfl rfl rfl rfl rfl rfl hl.1 (Nat.le_of_ble_eq_true rfl) ⟨Nat.zero_le _, Nat.zero_le _⟩ dX6_worth_26 (fun H locs hW => ?_)
      obtain ⟨r16, hq, h⟩ := bn1_some h
      refine g_cvi X hW (As := [.int r15]) (ws' := (wX6_worth G a_eb a_desk a_desk_weeks a_desk_weeks_a a_desk_routes a_desk_routes_a a_plan a_plan_start a_plan_end a_plan_cost a_plan_room a_plan_idle a_plan_unmet a_plan_gain a_plan_way a_kept a_tape a_text a_mat a_desk_boxes a_desk_words a_desk_offers a_desk_wants a_desk_leaves a_desk_leases a_desk_uses isKept o10_planStands today lack rate free weeks_r weeks_f routes_r routes_f o10_pl_arcs o10_pl_lack o10_pl_least o10_pl_start o10_pl_end o10_pl_cost o10_pl_room o10_pl_idle o10_pl_unmet o10_pl_gain o10_pl_way)) ckX6_worth_X3_gainAt_188 (kcX3_gainAt (l := l) G a_plan a_plan_gain a_plan_start a_plan_end a_plan_cost a_plan_room a_plan_idle a_plan_unmet a_plan_way r15 o10_pl_arcs o10_pl_lack o10_pl_least o10_pl_gain hq) ⟨rfl, rfl, Nat.le_of_ble_eq_true rfl, Nat.le_of_ble_eq_true rfl⟩ [6, 13] rfl rfl rfl rfl rfl rfl rfl hl.1 (Nat.le_of_ble_eq_true rfl) ⟨Nat.zero_le _, Nat.zero_le _⟩ dX6_worth_29 (fun H locs hW => ?_)
      obtain rfl := Option.some.inj h
      exact g_iret X hW dX6_worth_32
    · have h := (if_pos c8).symm.trans h
      refine lv_iconst hx hb dX6_worth_14 qI_m1 ?_
      obtain rfl := Option.some.inj h
      exact g_iret X hW dX6_worth_15
theorem kcX6_worth {l : Launch} (G : Gt) (a_eb a_desk a_desk_weeks a_desk_weeks_a a_desk_routes a_desk_routes_a a_plan a_plan_start a_plan_end a_plan_cost a_plan_room a_plan_idle a_plan_unmet a_plan_gain a_plan_way a_kept a_tape a_text a_mat a_desk_boxes a_desk_words a_desk_offers a_desk_wants a_desk_leaves a_desk_leases a_desk_uses : Nat) (v1 : Int32) (v2 : Int32) (isKept : Int32) (planStands : Int32) (today : Int32) (lack : Int32) (rate : Int32) (free : Int32) (weeks_r : Int32) (weeks_f : (Nat → Int32)) (routes_r : Int32) (routes_f : (Nat → Int32)) (pl_arcs : Int32) (pl_lack : Int32) (pl_least : Int32) (pl_start : (Nat → Int32)) (pl_end : (Nat → Int32)) (pl_cost : (Nat → Int32)) (pl_room : (Nat → Int32)) (pl_idle : (Nat → Int32)) (pl_unmet : (Nat → Int32)) (pl_gain : (Nat → Int32)) (pl_way : (Nat → Int32)) {r : Int32} {z_planStands : Int32} {z_pl_arcs : Int32} {z_pl_lack : Int32} {z_pl_least : Int32} {z_pl_start : (Nat → Int32)} {z_pl_end : (Nat → Int32)} {z_pl_cost : (Nat → Int32)} {z_pl_room : (Nat → Int32)} {z_pl_idle : (Nat → Int32)} {z_pl_unmet : (Nat → Int32)} {z_pl_gain : (Nat → Int32)} {z_pl_way : (Nat → Int32)} (h : fX6_worth v1 v2 planStands lack weeks_r weeks_f routes_r routes_f pl_arcs pl_lack pl_least pl_start pl_end pl_cost pl_room pl_idle pl_unmet pl_gain pl_way = some (r, z_planStands, z_pl_arcs, z_pl_lack, z_pl_least, z_pl_start, z_pl_end, z_pl_cost, z_pl_room, z_pl_idle, z_pl_unmet, z_pl_gain, z_pl_way)) : CtI G l yX6_worth wsX6_worth rmX6_worth [.ref a_eb, .int v1, .int v2] (wX6_worth G a_eb a_desk a_desk_weeks a_desk_weeks_a a_desk_routes a_desk_routes_a a_plan a_plan_start a_plan_end a_plan_cost a_plan_room a_plan_idle a_plan_unmet a_plan_gain a_plan_way a_kept a_tape a_text a_mat a_desk_boxes a_desk_words a_desk_offers a_desk_wants a_desk_leaves a_desk_leases a_desk_uses isKept planStands today lack rate free weeks_r weeks_f routes_r routes_f pl_arcs pl_lack pl_least pl_start pl_end pl_cost pl_room pl_idle pl_unmet pl_gain pl_way) r (wX6_worth G a_eb a_desk a_desk_weeks a_desk_weeks_a a_desk_routes a_desk_routes_a a_plan a_plan_start a_plan_end a_plan_cost a_plan_room a_plan_idle a_plan_unmet a_plan_gain a_plan_way a_kept a_tape a_text a_mat a_desk_boxes a_desk_words a_desk_offers a_desk_wants a_desk_leaves a_desk_leases a_desk_uses isKept z_planStands today lack rate free weeks_r weeks_f routes_r routes_f z_pl_arcs z_pl_lack z_pl_least z_pl_start z_pl_end z_pl_cost z_pl_room z_pl_idle z_pl_unmet z_pl_gain z_pl_way) := k0X6_worth G a_eb a_desk a_desk_weeks a_desk_weeks_a a_desk_routes a_desk_routes_a a_plan a_plan_start a_plan_end a_plan_cost a_plan_room a_plan_idle a_plan_unmet a_plan_gain a_plan_way a_kept a_tape a_text a_mat a_desk_boxes a_desk_words a_desk_offers a_desk_wants a_desk_leaves a_desk_leases a_desk_uses v1 v2 isKept planStands today lack rate free weeks_r weeks_f routes_r routes_f pl_arcs pl_lack pl_least pl_start pl_end pl_cost pl_room pl_idle pl_unmet pl_gain pl_way h
end MX6_worth
/-! EmptyBoxes.turn -/
section MX6_turn
theorem hdX6_turn : yX6_turn.cls = RX6 ∧ yX6_turn.cls ≠ "java/lang/invoke/MethodHandle" ∧ yX6_turn.cls ≠ "java/lang/invoke/VarHandle" ∧ (parseMethodDescriptor yX6_turn.desc).map (fun d => d.parameters.length) = some 6 := by decide +kernel
abbrev wX6_turn (G : Gt) (a_eb a_desk a_desk_offers a_desk_offers_a a_desk_wants a_desk_wants_a a_kept a_tape a_text a_plan a_mat a_desk_boxes a_desk_words a_desk_weeks a_desk_routes a_desk_leaves a_desk_leases a_desk_uses : Nat) (isKept : Int32) (planStands : Int32) (today : Int32) (lack : Int32) (rate : Int32) (free : Int32) (offers_r : Int32) (offers_f : (Nat → Int32)) (wants_r : Int32) (wants_f : (Nat → Int32)) : va_W := [(a_eb, .inr (6, [.ref a_desk, .ref a_kept, .ref a_tape, .ref a_text, .ref a_plan, .ref a_mat, .int isKept, .int planStands])), (a_desk, .inr (0, [.ref a_desk_boxes, .ref a_desk_words, .ref a_desk_weeks, .ref a_desk_routes, .ref a_desk_offers, .ref a_desk_wants, .ref a_desk_leaves, .ref a_desk_leases, .ref a_desk_uses, .int today, .int lack, .int rate, .int free])), (a_desk_offers, .inr (4, [.ref a_desk_offers_a, .int (5 : Int32), .int (7 : Int32), .int offers_r])), (a_desk_offers_a, .inl (G.2.1, 35, .inl offers_f)), (a_desk_wants, .inr (4, [.ref a_desk_wants_a, .int (5 : Int32), .int (7 : Int32), .int wants_r])), (a_desk_wants_a, .inl (G.2.1, 35, .inl wants_f))]
abbrev rmX6_turn : Room := { frames := 2, cells := 0, slots := 0, locals := 45 }
theorem iX6_turn_X0 : ∀ w ∈ wsX00, w ∈ wsX6_turn := by decide +kernel
theorem iX6_turn_X6 : ∀ w ∈ wsX60, w ∈ wsX6_turn := by decide +kernel
theorem eX6_turn_12 : Fk wsX6_turn RX6 12 6 0 := ⟨RX6, TX6, 8, rfl, iX6_turn_X6, by decide, by decide +kernel⟩
theorem eX6_turn_195 : Fk wsX6_turn RX6 195 0 5 := ⟨RX0, TX0, 13, rfl, iX6_turn_X0, by decide, by decide +kernel⟩
theorem eX6_turn_198 : Fk wsX6_turn RX6 198 0 4 := ⟨RX0, TX0, 13, rfl, iX6_turn_X0, by decide, by decide +kernel⟩
theorem ckX6_turn_X4_grow_92 : CkV wsX6_turn RX6 92 yX4_grow wsX4_grow cX4_grow 1 (some .int) 0 4 := ⟨RX4, TX4, 4, _, rfl, gX6_turn_X4_grow, rfl, hdX4_grow⟩
theorem ckX6_turn_X4_isFull_86 : CkV wsX6_turn RX6 86 yX4_isFull wsX4_isFull cX4_isFull 1 (some .boolean) 0 4 := ⟨RX4, TX4, 4, _, rfl, gX6_turn_X4_isFull, rfl, hdX4_isFull⟩
theorem ckX6_turn_X4_put_96 : CkV wsX6_turn RX6 96 yX4_put wsX4_put cX4_put 4 none 3 4 := ⟨RX4, TX4, 4, _, rfl, gX6_turn_X4_put, rfl, hdX4_put⟩
theorem ckX6_turn_X6_isDay_135 : CkS wsX6_turn RX6 135 yX6_isDay wsX6_isDay cX6_isDay 1 (some .boolean) 1 := ⟨_, gX6_turn_X6_isDay, rfl, hdX6_isDay.2⟩
theorem ckX6_turn_X6_isKind_66 : CkS wsX6_turn RX6 66 yX6_isKind wsX6_isKind cX6_isKind 1 (some .boolean) 1 := ⟨_, gX6_turn_X6_isKind, rfl, hdX6_isKind.2⟩
theorem ckX6_turn_X6_isLine_69 : CkS wsX6_turn RX6 69 yX6_isLine wsX6_isLine cX6_isLine 1 (some .boolean) 1 := ⟨_, gX6_turn_X6_isLine, rfl, hdX6_isLine.2⟩
theorem ckX6_turn_X6_isPlace_126 : CkS wsX6_turn RX6 126 yX6_isPlace wsX6_isPlace cX6_isPlace 1 (some .boolean) 1 := ⟨_, gX6_turn_X6_isPlace, rfl, hdX6_isPlace.2⟩
variable {p : Program} {l : Launch} {e : Env} {s : State} {m : MethodId} {args : Array Value} {below : List Frame} {meth : Method} {c : Code} {A : Nat → Prop} {G : Gt} {a_eb a_desk a_desk_offers a_desk_offers_a a_desk_wants a_desk_wants_a a_kept a_tape a_text a_plan a_mat a_desk_boxes a_desk_words a_desk_weeks a_desk_routes a_desk_leaves a_desk_leases a_desk_uses : Nat} {isKept : Int32} {planStands : Int32} {today : Int32} {lack : Int32} {rate : Int32} {free : Int32} {res : Int32 × Int32 × (Nat → Int32) × Int32 × (Nat → Int32)}
set_option maxHeartbeats 4000000 in
set_option maxRecDepth 100000 in
theorem k0X6_turn {l : Launch} (G : Gt) (a_eb a_desk a_desk_offers a_desk_offers_a a_desk_wants a_desk_wants_a a_kept a_tape a_text a_plan a_mat a_desk_boxes a_desk_words a_desk_weeks a_desk_routes a_desk_leaves a_desk_leases a_desk_uses : Nat) (v1 : Int32) (v2 : Int32) (v3 : Int32) (v4 : Int32) (v5 : Int32) (v6 : Int32) (isKept : Int32) (planStands : Int32) (today : Int32) (lack : Int32) (rate : Int32) (free : Int32) (offers_r : Int32) (offers_f : (Nat → Int32)) (wants_r : Int32) (wants_f : (Nat → Int32)) {res : Int32 × Int32 × (Nat → Int32) × Int32 × (Nat → Int32)} (h : fX6_turn v1 v2 v3 v4 v5 v6 offers_r offers_f wants_r wants_f = some res) : CtI G l yX6_turn wsX6_turn rmX6_turn [.ref a_eb, .int v1, .int v2, .int v3, .int v4, .int v5, .int v6] (wX6_turn G a_eb a_desk a_desk_offers a_desk_offers_a a_desk_wants a_desk_wants_a a_kept a_tape a_text a_plan a_mat a_desk_boxes a_desk_words a_desk_weeks a_desk_routes a_desk_leaves a_desk_leases a_desk_uses isKept planStands today lack rate free offers_r offers_f wants_r wants_f) res.1 (wX6_turn G a_eb a_desk a_desk_offers a_desk_offers_a a_desk_wants a_desk_wants_a a_kept a_tape a_text a_plan a_mat a_desk_boxes a_desk_words a_desk_weeks a_desk_routes a_desk_leaves a_desk_leases a_desk_uses isKept planStands today lack rate free res.2.1 res.2.2.1 res.2.2.2.1 res.2.2.2.2) := by
  refine CtI.mk (cc := cX6_turn) (maxL := 9) (ret := (some .int)) (own := RX6) (by decide) rfl rfl (Nat.le_of_ble_eq_true rfl) ?_
  intro p e s m below meth c A X ls hl hW
  obtain ⟨hx, hb, -⟩ := id X.1
  have hl : lv_has ls 9 [(0, .ref a_eb), (1, .int v1), (2, .int v2), (3, .int v3), (4, .int v4), (5, .int v5), (6, .int v6)] := hl
  generalize hH : s.heap = H at hW ⊢
  generalize hLo : ([] : List Loc) = locs at hW ⊢
  rw [fX6_turn] at h
  refine lv_iload_n hx hb dX6_turn_0 rfl (lv_at hl 2 rfl) ?_
  obtain ⟨r2, hq, h⟩ := bn1_some h
  refine g_csi X hW (As := [.int v2]) (ws' := (wX6_turn G a_eb a_desk a_desk_offers a_desk_offers_a a_desk_wants a_desk_wants_a a_kept a_tape a_text a_plan a_mat a_desk_boxes a_desk_words a_desk_weeks a_desk_routes a_desk_leaves a_desk_leases a_desk_uses isKept planStands today lack rate free offers_r offers_f wants_r wants_f)) ckX6_turn_X6_isPlace_126 (kcX6_isPlace (l := l) G v2 hq) ⟨rfl, rfl, Nat.le_of_ble_eq_true rfl, Nat.le_of_ble_eq_true rfl⟩ [] rfl rfl rfl rfl rfl rfl hl.1 (Nat.le_of_ble_eq_true rfl) ⟨Nat.zero_le _, Nat.zero_le _⟩ dX6_turn_1 (fun H locs hW => ?_)
  refine lv_if_eq (tgt := 45) hx hb dX6_turn_4 (by decide) (fun c3 => ?_) (fun c3 => ?_)
  · have h := (if_pos c3).symm.trans h
    refine lv_iconst hx hb dX6_turn_45 qI_m1 ?_
    obtain rfl := Option.some.inj h
    exact g_iret X hW dX6_turn_46
  · have h := (if_neg c3).symm.trans h
    refine lv_iload_n hx hb dX6_turn_7 rfl (lv_at hl 3 rfl) ?_
    obtain ⟨r7, hq, h⟩ := bn1_some h
    refine g_csi X hW (As := [.int v3]) (ws' := (wX6_turn G a_eb a_desk a_desk_offers a_desk_offers_a a_desk_wants a_desk_wants_a a_kept a_tape a_text a_plan a_mat a_desk_boxes a_desk_words a_desk_weeks a_desk_routes a_desk_leaves a_desk_leases a_desk_uses isKept planStands today lack rate free offers_r offers_f wants_r wants_f)) ckX6_turn_X6_isLine_69 (kcX6_isLine (l := l) G v3 hq) ⟨rfl, rfl, Nat.le_of_ble_eq_true rfl, Nat.le_of_ble_eq_true rfl⟩ [] rfl rfl rfl rfl rfl rfl hl.1 (Nat.le_of_ble_eq_true rfl) ⟨Nat.zero_le _, Nat.zero_le _⟩ dX6_turn_8 (fun H locs hW => ?_)
    refine lv_if_eq (tgt := 45) hx hb dX6_turn_11 (by decide) (fun c8 => ?_) (fun c8 => ?_)
    · have h := (if_pos c8).symm.trans h
      refine lv_iconst hx hb dX6_turn_45 qI_m1 ?_
      obtain rfl := Option.some.inj h
      exact g_iret X hW dX6_turn_46
    · have h := (if_neg c8).symm.trans h
      refine lv_iload hx hb dX6_turn_14 (lv_at hl 4 rfl) ?_
      obtain ⟨r12, hq, h⟩ := bn1_some h
      refine g_csi X hW (As := [.int v4]) (ws' := (wX6_turn G a_eb a_desk a_desk_offers a_desk_offers_a a_desk_wants a_desk_wants_a a_kept a_tape a_text a_plan a_mat a_desk_boxes a_desk_words a_desk_weeks a_desk_routes a_desk_leaves a_desk_leases a_desk_uses isKept planStands today lack rate free offers_r offers_f wants_r wants_f)) ckX6_turn_X6_isKind_66 (kcX6_isKind (l := l) G v4 hq) ⟨rfl, rfl, Nat.le_of_ble_eq_true rfl, Nat.le_of_ble_eq_true rfl⟩ [] rfl rfl rfl rfl rfl rfl hl.1 (Nat.le_of_ble_eq_true rfl) ⟨Nat.zero_le _, Nat.zero_le _⟩ dX6_turn_16 (fun H locs hW => ?_)
      refine lv_if_eq (tgt := 45) hx hb dX6_turn_19 (by decide) (fun c13 => ?_) (fun c13 => ?_)
      · have h := (if_pos c13).symm.trans h
        refine lv_iconst hx hb dX6_turn_45 qI_m1 ?_
        obtain rfl := Option.some.inj h
        exact g_iret X hW dX6_turn_46
      · have h := (if_neg c13).symm.trans h
        refine lv_iload hx hb dX6_turn_22 (lv_at hl 5 rfl) ?_
        obtain ⟨r17, hq, h⟩ := bn1_some h
        refine g_csi X hW (As := [.int v5]) (ws' := (wX6_turn G a_eb a_desk a_desk_offers a_desk_offers_a a_desk_wants a_desk_wants_a a_kept a_tape a_text a_plan a_mat a_desk_boxes a_desk_words a_desk_weeks a_desk_routes a_desk_leaves a_desk_leases a_desk_uses isKept planStands today lack rate free offers_r offers_f wants_r wants_f)) ckX6_turn_X6_isDay_135 (kcX6_isDay (l := l) G v5 hq) ⟨rfl, rfl, Nat.le_of_ble_eq_true rfl, Nat.le_of_ble_eq_true rfl⟩ [] rfl rfl rfl rfl rfl rfl hl.1 (Nat.le_of_ble_eq_true rfl) ⟨Nat.zero_le _, Nat.zero_le _⟩ dX6_turn_24 (fun H locs hW => ?_)
        refine lv_if_eq (tgt := 45) hx hb dX6_turn_27 (by decide) (fun c18 => ?_) (fun c18 => ?_)
        · have h := (if_pos c18).symm.trans h
          refine lv_iconst hx hb dX6_turn_45 qI_m1 ?_
          obtain rfl := Option.some.inj h
          exact g_iret X hW dX6_turn_46
        · have h := (if_neg c18).symm.trans h
          refine lv_iload hx hb dX6_turn_30 (lv_at hl 6 rfl) ?_
          obtain ⟨r22, hq, h⟩ := bn1_some h
          refine g_csi X hW (As := [.int v6]) (ws' := (wX6_turn G a_eb a_desk a_desk_offers a_desk_offers_a a_desk_wants a_desk_wants_a a_kept a_tape a_text a_plan a_mat a_desk_boxes a_desk_words a_desk_weeks a_desk_routes a_desk_leaves a_desk_leases a_desk_uses isKept planStands today lack rate free offers_r offers_f wants_r wants_f)) ckX6_turn_X6_isDay_135 (kcX6_isDay (l := l) G v6 hq) ⟨rfl, rfl, Nat.le_of_ble_eq_true rfl, Nat.le_of_ble_eq_true rfl⟩ [] rfl rfl rfl rfl rfl rfl hl.1 (Nat.le_of_ble_eq_true rfl) ⟨Nat.zero_le _, Nat.zero_le _⟩ dX6_turn_32 (fun H locs hW => ?_)
          refine lv_if_eq (tgt := 45) hx hb dX6_turn_35 (by decide) (fun c23 => ?_) (fun c23 => ?_)
          · have h := (if_pos c23).symm.trans h
            refine lv_iconst hx hb dX6_turn_45 qI_m1 ?_
            obtain rfl := Option.some.inj h
            exact g_iret X hW dX6_turn_46
          · have h := (if_neg c23).symm.trans h
            refine lv_iload hx hb dX6_turn_38 (lv_at hl 6 rfl) ?_
            refine lv_iload hx hb dX6_turn_40 (lv_at hl 5 rfl) ?_
            refine lv_icmp_ge (tgt := 47) hx hb dX6_turn_42 (by decide) (fun c28 => ?_) (fun c28 => ?_)
            · have h := (if_pos c28).symm.trans h
              refine lv_iload_n hx hb dX6_turn_47 rfl (lv_at hl 1 rfl) ?_
              refine lv_if_eq (tgt := 61) hx hb dX6_turn_48 (by decide) (fun c30 => ?_) (fun c30 => ?_)
              · have h := (if_pos c30).symm.trans h
                refine lv_aload_n hx hb dX6_turn_61 rfl (lv_at hl 0 rfl) ?_
                refine g_get X hW eX6_turn_12 0 rfl rfl dX6_turn_62 ?_
                refine g_get X hW eX6_turn_198 1 rfl rfl dX6_turn_65 ?_
                refine lv_astore (lv' := [(7, .ref a_desk_offers), (0, .ref a_eb), (1, .int v1), (2, .int v2), (3, .int v3), (4, .int v4), (5, .int v5), (6, .int v6)]) hx hb dX6_turn_68 hl (by decide) rfl (fun ls hl => ?_)
                refine lv_aload hx hb dX6_turn_70 (lv_at hl 0 rfl) ?_
                obtain ⟨r36, hq, h⟩ := bn1_some h
                refine g_cvi X hW (As := []) (ws' := (wX6_turn G a_eb a_desk a_desk_offers a_desk_offers_a a_desk_wants a_desk_wants_a a_kept a_tape a_text a_plan a_mat a_desk_boxes a_desk_words a_desk_weeks a_desk_routes a_desk_leaves a_desk_leases a_desk_uses isKept planStands today lack rate free offers_r offers_f wants_r wants_f)) ckX6_turn_X4_isFull_86 (kcX4_isFull (l := l) G a_desk_offers a_desk_offers_a (5 : Int32) (7 : Int32) offers_r hq) ⟨rfl, rfl, Nat.le_of_ble_eq_true rfl, Nat.le_of_ble_eq_true rfl⟩ [2] rfl rfl rfl rfl rfl rfl rfl hl.1 (Nat.le_of_ble_eq_true rfl) ⟨Nat.zero_le _, Nat.zero_le _⟩ dX6_turn_72 (fun H locs hW => ?_)
                refine lv_if_eq (tgt := 81) hx hb dX6_turn_75 (by decide) (fun c37 => ?_) (fun c37 => ?_)
                · have h := (if_pos c37).symm.trans h
                  refine lv_aload hx hb dX6_turn_81 (lv_at hl 0 rfl) ?_
                  obtain ⟨r39, o39_tb_r, hq, h⟩ := bn2_some h
                  refine g_cvi X hW (As := []) (ws' := (wX6_turn G a_eb a_desk a_desk_offers a_desk_offers_a a_desk_wants a_desk_wants_a a_kept a_tape a_text a_plan a_mat a_desk_boxes a_desk_words a_desk_weeks a_desk_routes a_desk_leaves a_desk_leases a_desk_uses isKept planStands today lack rate free o39_tb_r offers_f wants_r wants_f)) ckX6_turn_X4_grow_92 (kcX4_grow (l := l) G a_desk_offers a_desk_offers_a (5 : Int32) (7 : Int32) offers_r hq) ⟨rfl, rfl, Nat.le_of_ble_eq_true rfl, Nat.le_of_ble_eq_true rfl⟩ [2] rfl rfl rfl rfl rfl rfl rfl hl.1 (Nat.le_of_ble_eq_true rfl) ⟨Nat.zero_le _, Nat.zero_le _⟩ dX6_turn_83 (fun H locs hW => ?_)
                  refine lv_istore (lv' := [(8, .int r39), (7, .ref a_desk_offers), (0, .ref a_eb), (1, .int v1), (2, .int v2), (3, .int v3), (4, .int v4), (5, .int v5), (6, .int v6)]) hx hb dX6_turn_86 hl (by decide) rfl (fun ls hl => ?_)
                  refine lv_aload hx hb dX6_turn_88 (lv_at hl 1 rfl) ?_
                  refine lv_iload hx hb dX6_turn_90 (lv_at hl 0 rfl) ?_
                  refine lv_iconst hx hb dX6_turn_92 qI_0 ?_
                  refine lv_iload_n hx hb dX6_turn_93 rfl (lv_at hl 4 rfl) ?_
                  obtain ⟨o45_tb_f, hq, h⟩ := bn1_some h
                  refine g_cvv X hW (As := [.int r39, .int (0 : Int32), .int v2]) (ws' := (wX6_turn G a_eb a_desk a_desk_offers a_desk_offers_a a_desk_wants a_desk_wants_a a_kept a_tape a_text a_plan a_mat a_desk_boxes a_desk_words a_desk_weeks a_desk_routes a_desk_leaves a_desk_leases a_desk_uses isKept planStands today lack rate free o39_tb_r o45_tb_f wants_r wants_f)) ckX6_turn_X4_put_96 (kcX4_put (l := l) G a_desk_offers a_desk_offers_a r39 (0 : Int32) v2 (5 : Int32) (7 : Int32) o39_tb_r 35 offers_f hq) ⟨rfl, rfl, Nat.le_of_ble_eq_true rfl, Nat.le_of_ble_eq_true rfl⟩ [2, 3] rfl rfl rfl rfl rfl rfl rfl hl.1 (Nat.le_of_ble_eq_true rfl) ⟨Nat.zero_le _, Nat.zero_le _⟩ dX6_turn_94 (fun H locs hW => ?_)
                  refine lv_aload hx hb dX6_turn_97 (lv_at hl 1 rfl) ?_
                  refine lv_iload hx hb dX6_turn_99 (lv_at hl 0 rfl) ?_
                  refine lv_iconst hx hb dX6_turn_101 qI_1 ?_
                  refine lv_iload_n hx hb dX6_turn_102 rfl (lv_at hl 5 rfl) ?_
                  obtain ⟨o50_tb_f, hq, h⟩ := bn1_some h
                  refine g_cvv X hW (As := [.int r39, .int (1 : Int32), .int v3]) (ws' := (wX6_turn G a_eb a_desk a_desk_offers a_desk_offers_a a_desk_wants a_desk_wants_a a_kept a_tape a_text a_plan a_mat a_desk_boxes a_desk_words a_desk_weeks a_desk_routes a_desk_leaves a_desk_leases a_desk_uses isKept planStands today lack rate free o39_tb_r o50_tb_f wants_r wants_f)) ckX6_turn_X4_put_96 (kcX4_put (l := l) G a_desk_offers a_desk_offers_a r39 (1 : Int32) v3 (5 : Int32) (7 : Int32) o39_tb_r 35 o45_tb_f hq) ⟨rfl, rfl, Nat.le_of_ble_eq_true rfl, Nat.le_of_ble_eq_true rfl⟩ [2, 3] rfl rfl rfl rfl rfl rfl rfl hl.1 (Nat.le_of_ble_eq_true rfl) ⟨Nat.zero_le _, Nat.zero_le _⟩ dX6_turn_103 (fun H locs hW => ?_)
                  refine lv_aload hx hb dX6_turn_106 (lv_at hl 1 rfl) ?_
                  refine lv_iload hx hb dX6_turn_108 (lv_at hl 0 rfl) ?_
                  refine lv_iconst hx hb dX6_turn_110 qI_2 ?_
                  refine lv_iload hx hb dX6_turn_111 (lv_at hl 6 rfl) ?_
                  obtain ⟨o55_tb_f, hq, h⟩ := bn1_some h
                  refine g_cvv X hW (As := [.int r39, .int (2 : Int32), .int v4]) (ws' := (wX6_turn G a_eb a_desk a_desk_offers a_desk_offers_a a_desk_wants a_desk_wants_a a_kept a_tape a_text a_plan a_mat a_desk_boxes a_desk_words a_desk_weeks a_desk_routes a_desk_leaves a_desk_leases a_desk_uses isKept planStands today lack rate free o39_tb_r o55_tb_f wants_r wants_f)) ckX6_turn_X4_put_96 (kcX4_put (l := l) G a_desk_offers a_desk_offers_a r39 (2 : Int32) v4 (5 : Int32) (7 : Int32) o39_tb_r 35 o50_tb_f hq) ⟨rfl, rfl, Nat.le_of_ble_eq_true rfl, Nat.le_of_ble_eq_true rfl⟩ [2, 3] rfl rfl rfl rfl rfl rfl rfl hl.1 (Nat.le_of_ble_eq_true rfl) ⟨Nat.zero_le _, Nat.zero_le _⟩ dX6_turn_113 (fun H locs hW => ?_)
                  refine lv_aload hx hb dX6_turn_116 (lv_at hl 1 rfl) ?_
                  refine lv_iload hx hb dX6_turn_118 (lv_at hl 0 rfl) ?_
                  refine lv_iconst hx hb dX6_turn_120 qI_3 ?_
                  refine lv_iload hx hb dX6_turn_121 (lv_at hl 7 rfl) ?_
                  obtain ⟨o60_tb_f, hq, h⟩ := bn1_some h
                  refine g_cvv X hW (As := [.int r39, .int (3 : Int32), .int v5]) (ws' := (wX6_turn G a_eb a_desk a_desk_offers a_desk_offers_a a_desk_wants a_desk_wants_a a_kept a_tape a_text a_plan a_mat a_desk_boxes a_desk_words a_desk_weeks a_desk_routes a_desk_leaves a_desk_leases a_desk_uses isKept planStands today lack rate free o39_tb_r o60_tb_f wants_r wants_f)) ckX6_turn_X4_put_96 (kcX4_put (l := l) G a_desk_offers a_desk_offers_a r39 (3 : Int32) v5 (5 : Int32) (7 : Int32) o39_tb_r 35 o55_tb_f hq) ⟨rfl, rfl, Nat.le_of_ble_eq_true rfl, Nat.le_of_ble_eq_true rfl⟩ [2, 3] rfl rfl rfl rfl rfl rfl rfl hl.1 (Nat.le_of_ble_eq_true rfl) ⟨Nat.zero_le _, Nat.zero_le _⟩ dX6_turn_123 (fun H locs hW => ?_)
                  refine lv_aload hx hb dX6_turn_126 (lv_at hl 1 rfl) ?_
                  refine lv_iload hx hb dX6_turn_128 (lv_at hl 0 rfl) ?_
                  refine lv_iconst hx hb dX6_turn_130 qI_4 ?_
                  refine lv_iload hx hb dX6_turn_131 (lv_at hl 8 rfl) ?_
                  obtain ⟨o65_tb_f, hq, h⟩ := bn1_some h
                  refine g_cvv X hW (As := [.int r39, .int (4 : Int32), .int v6]) (ws' := (wX6_turn G a_eb a_desk a_desk_offers a_desk_offers_a a_desk_wants a_desk_wants_a a_kept a_tape a_text a_plan a_mat a_desk_boxes a_desk_words a_desk_weeks a_desk_routes a_desk_leaves a_desk_leases a_desk_uses isKept planStands today lack rate free o39_tb_r o65_tb_f wants_r wants_f)) ckX6_turn_X4_put_96 (kcX4_put (l := l) G a_desk_offers a_desk_offers_a r39 (4 : Int32) v6 (5 : Int32) (7 : Int32) o39_tb_r 35 o60_tb_f hq) ⟨rfl, rfl, Nat.le_of_ble_eq_true rfl, Nat.le_of_ble_eq_true rfl⟩ [2, 3] rfl rfl rfl rfl rfl rfl rfl hl.1 (Nat.le_of_ble_eq_true rfl) ⟨Nat.zero_le _, Nat.zero_le _⟩ dX6_turn_133 (fun H locs hW => ?_)
                  refine lv_iload hx hb dX6_turn_136 (lv_at hl 0 rfl) ?_
                  obtain rfl := Option.some.inj h
                  exact g_iret X hW dX6_turn_138
                · have h := (if_neg c37).symm.trans h
                  refine lv_bipush hx hb dX6_turn_78 qB_m2 ?_
                  obtain rfl := Option.some.inj h
                  exact g_iret X hW dX6_turn_80
              · have h := (if_neg c30).symm.trans h
                refine lv_aload_n hx hb dX6_turn_51 rfl (lv_at hl 0 rfl) ?_
                refine g_get X hW eX6_turn_12 0 rfl rfl dX6_turn_52 ?_
                refine g_get X hW eX6_turn_195 1 rfl rfl dX6_turn_55 ?_
                refine lv_goto (tgt := 68) hx hb dX6_turn_58 (by decide) ?_
                refine lv_astore (lv' := [(7, .ref a_desk_wants), (0, .ref a_eb), (1, .int v1), (2, .int v2), (3, .int v3), (4, .int v4), (5, .int v5), (6, .int v6)]) hx hb dX6_turn_68 hl (by decide) rfl (fun ls hl => ?_)
                refine lv_aload hx hb dX6_turn_70 (lv_at hl 0 rfl) ?_
                obtain ⟨r76, hq, h⟩ := bn1_some h
                refine g_cvi X hW (As := []) (ws' := (wX6_turn G a_eb a_desk a_desk_offers a_desk_offers_a a_desk_wants a_desk_wants_a a_kept a_tape a_text a_plan a_mat a_desk_boxes a_desk_words a_desk_weeks a_desk_routes a_desk_leaves a_desk_leases a_desk_uses isKept planStands today lack rate free offers_r offers_f wants_r wants_f)) ckX6_turn_X4_isFull_86 (kcX4_isFull (l := l) G a_desk_wants a_desk_wants_a (5 : Int32) (7 : Int32) wants_r hq) ⟨rfl, rfl, Nat.le_of_ble_eq_true rfl, Nat.le_of_ble_eq_true rfl⟩ [4] rfl rfl rfl rfl rfl rfl rfl hl.1 (Nat.le_of_ble_eq_true rfl) ⟨Nat.zero_le _, Nat.zero_le _⟩ dX6_turn_72 (fun H locs hW => ?_)
                refine lv_if_eq (tgt := 81) hx hb dX6_turn_75 (by decide) (fun c77 => ?_) (fun c77 => ?_)
                · have h := (if_pos c77).symm.trans h
                  refine lv_aload hx hb dX6_turn_81 (lv_at hl 0 rfl) ?_
                  obtain ⟨r79, o79_tb_r, hq, h⟩ := bn2_some h
                  refine g_cvi X hW (As := []) (ws' := (wX6_turn G a_eb a_desk a_desk_offers a_desk_offers_a a_desk_wants a_desk_wants_a a_kept a_tape a_text a_plan a_mat a_desk_boxes a_desk_words a_desk_weeks a_desk_routes a_desk_leaves a_desk_leases a_desk_uses isKept planStands today lack rate free offers_r offers_f o79_tb_r wants_f)) ckX6_turn_X4_grow_92 (kcX4_grow (l := l) G a_desk_wants a_desk_wants_a (5 : Int32) (7 : Int32) wants_r hq) ⟨rfl, rfl, Nat.le_of_ble_eq_true rfl, Nat.le_of_ble_eq_true rfl⟩ [4] rfl rfl rfl rfl rfl rfl rfl hl.1 (Nat.le_of_ble_eq_true rfl) ⟨Nat.zero_le _, Nat.zero_le _⟩ dX6_turn_83 (fun H locs hW => ?_)
                  refine lv_istore (lv' := [(8, .int r79), (7, .ref a_desk_wants), (0, .ref a_eb), (1, .int v1), (2, .int v2), (3, .int v3), (4, .int v4), (5, .int v5), (6, .int v6)]) hx hb dX6_turn_86 hl (by decide) rfl (fun ls hl => ?_)
                  refine lv_aload hx hb dX6_turn_88 (lv_at hl 1 rfl) ?_
                  refine lv_iload hx hb dX6_turn_90 (lv_at hl 0 rfl) ?_
                  refine lv_iconst hx hb dX6_turn_92 qI_0 ?_
                  refine lv_iload_n hx hb dX6_turn_93 rfl (lv_at hl 4 rfl) ?_
                  obtain ⟨o85_tb_f, hq, h⟩ := bn1_some h
                  refine g_cvv X hW (As := [.int r79, .int (0 : Int32), .int v2]) (ws' := (wX6_turn G a_eb a_desk a_desk_offers a_desk_offers_a a_desk_wants a_desk_wants_a a_kept a_tape a_text a_plan a_mat a_desk_boxes a_desk_words a_desk_weeks a_desk_routes a_desk_leaves a_desk_leases a_desk_uses isKept planStands today lack rate free offers_r offers_f o79_tb_r o85_tb_f)) ckX6_turn_X4_put_96 (kcX4_put (l := l) G a_desk_wants a_desk_wants_a r79 (0 : Int32) v2 (5 : Int32) (7 : Int32) o79_tb_r 35 wants_f hq) ⟨rfl, rfl, Nat.le_of_ble_eq_true rfl, Nat.le_of_ble_eq_true rfl⟩ [4, 5] rfl rfl rfl rfl rfl rfl rfl hl.1 (Nat.le_of_ble_eq_true rfl) ⟨Nat.zero_le _, Nat.zero_le _⟩ dX6_turn_94 (fun H locs hW => ?_)
                  refine lv_aload hx hb dX6_turn_97 (lv_at hl 1 rfl) ?_
                  refine lv_iload hx hb dX6_turn_99 (lv_at hl 0 rfl) ?_
                  refine lv_iconst hx hb dX6_turn_101 qI_1 ?_
                  refine lv_iload_n hx hb dX6_turn_102 rfl (lv_at hl 5 rfl) ?_
                  obtain ⟨o90_tb_f, hq, h⟩ := bn1_some h
                  refine g_cvv X hW (As := [.int r79, .int (1 : Int32), .int v3]) (ws' := (wX6_turn G a_eb a_desk a_desk_offers a_desk_offers_a a_desk_wants a_desk_wants_a a_kept a_tape a_text a_plan a_mat a_desk_boxes a_desk_words a_desk_weeks a_desk_routes a_desk_leaves a_desk_leases a_desk_uses isKept planStands today lack rate free offers_r offers_f o79_tb_r o90_tb_f)) ckX6_turn_X4_put_96 (kcX4_put (l := l) G a_desk_wants a_desk_wants_a r79 (1 : Int32) v3 (5 : Int32) (7 : Int32) o79_tb_r 35 o85_tb_f hq) ⟨rfl, rfl, Nat.le_of_ble_eq_true rfl, Nat.le_of_ble_eq_true rfl⟩ [4, 5] rfl rfl rfl rfl rfl rfl rfl hl.1 (Nat.le_of_ble_eq_true rfl) ⟨Nat.zero_le _, Nat.zero_le _⟩ dX6_turn_103 (fun H locs hW => ?_)
                  refine lv_aload hx hb dX6_turn_106 (lv_at hl 1 rfl) ?_
                  refine lv_iload hx hb dX6_turn_108 (lv_at hl 0 rfl) ?_
                  refine lv_iconst hx hb dX6_turn_110 qI_2 ?_
                  refine lv_iload hx hb dX6_turn_111 (lv_at hl 6 rfl) ?_
                  obtain ⟨o95_tb_f, hq, h⟩ := bn1_some h
                  refine g_cvv X hW (As := [.int r79, .int (2 : Int32), .int v4]) (ws' := (wX6_turn G a_eb a_desk a_desk_offers a_desk_offers_a a_desk_wants a_desk_wants_a a_kept a_tape a_text a_plan a_mat a_desk_boxes a_desk_words a_desk_weeks a_desk_routes a_desk_leaves a_desk_leases a_desk_uses isKept planStands today lack rate free offers_r offers_f o79_tb_r o95_tb_f)) ckX6_turn_X4_put_96 (kcX4_put (l := l) G a_desk_wants a_desk_wants_a r79 (2 : Int32) v4 (5 : Int32) (7 : Int32) o79_tb_r 35 o90_tb_f hq) ⟨rfl, rfl, Nat.le_of_ble_eq_true rfl, Nat.le_of_ble_eq_true rfl⟩ [4, 5] rfl rfl rfl rfl rfl rfl rfl hl.1 (Nat.le_of_ble_eq_true rfl) ⟨Nat.zero_le _, Nat.zero_le _⟩ dX6_turn_113 (fun H locs hW => ?_)
                  refine lv_aload hx hb dX6_turn_116 (lv_at hl 1 rfl) ?_
                  refine lv_iload hx hb dX6_turn_118 (lv_at hl 0 rfl) ?_
                  refine lv_iconst hx hb dX6_turn_120 qI_3 ?_
                  refine lv_iload hx hb dX6_turn_121 (lv_at hl 7 rfl) ?_
                  obtain ⟨o100_tb_f, hq, h⟩ := bn1_some h
                  refine g_cvv X hW (As := [.int r79, .int (3 : Int32), .int v5]) (ws' := (wX6_turn G a_eb a_desk a_desk_offers a_desk_offers_a a_desk_wants a_desk_wants_a a_kept a_tape a_text a_plan a_mat a_desk_boxes a_desk_words a_desk_weeks a_desk_routes a_desk_leaves a_desk_leases a_desk_uses isKept planStands today lack rate free offers_r offers_f o79_tb_r o100_tb_f)) ckX6_turn_X4_put_96 (kcX4_put (l := l) G a_desk_wants a_desk_wants_a r79 (3 : Int32) v5 (5 : Int32) (7 : Int32) o79_tb_r 35 o95_tb_f hq) ⟨rfl, rfl, Nat.le_of_ble_eq_true rfl, Nat.le_of_ble_eq_true rfl⟩ [4, 5] rfl rfl rfl rfl rfl rfl rfl hl.1 (Nat.le_of_ble_eq_true rfl) ⟨Nat.zero_le _, Nat.zero_le _⟩ dX6_turn_123 (fun H locs hW => ?_)
                  refine lv_aload hx hb dX6_turn_126 (lv_at hl 1 rfl) ?_
                  refine lv_iload hx hb dX6_turn_128 (lv_at hl 0 rfl) ?_
                  refine lv_iconst hx hb dX6_turn_130 qI_4 ?_
                  refine lv_iload hx hb dX6_turn_131 (lv_at hl 8 rfl) ?_
                  obtain ⟨o105_tb_f, hq, h⟩ := bn1_some h
                  refine g_cvv X hW (As := [.int r79, .int (4 : Int32), .int v6]) (ws' := (wX6_turn G a_eb a_desk a_desk_offers a_desk_offers_a a_desk_wants a_desk_wants_a a_kept a_tape a_text a_plan a_mat a_desk_boxes a_desk_words a_desk_weeks a_desk_routes a_desk_leaves a_desk_leases a_desk_uses isKept planStands today lack rate free offers_r offers_f o79_tb_r o105_tb_f)) ckX6_turn_X4_put_96 (kcX4_put (l := l) G a_desk_wants a_desk_wants_a r79 (4 : Int32) v6 (5 : Int32) (7 : Int32) o79_tb_r 35 o100_tb_f hq) ⟨rfl, rfl, Nat.le_of_ble_eq_true rfl, Nat.le_of_ble_eq_true rfl⟩ [4, 5] rfl rfl rfl rfl rfl rfl rfl hl.1 (Nat.le_of_ble_eq_true rfl) ⟨Nat.zero_le _, Nat.zero_le _⟩ dX6_turn_133 (fun H locs hW => ?_)
                  refine lv_iload hx hb dX6_turn_136 (lv_at hl 0 rfl) ?_
                  obtain rfl := Option.some.inj h
                  exact g_iret X hW dX6_turn_138
                · have h := (if_neg c77).symm.trans h
                  refine lv_bipush hx hb dX6_turn_78 qB_m2 ?_
                  obtain rfl := Option.some.inj h
                  exact g_iret X hW dX6_turn_80
            · have h := (if_neg c28).symm.trans h
              refine lv_iconst hx hb dX6_turn_45 qI_m1 ?_
              obtain rfl := Option.some.inj h
              exact g_iret X hW dX6_turn_46
theorem kcX6_turn {l : Launch} (G : Gt) (a_eb a_desk a_desk_offers a_desk_offers_a a_desk_wants a_desk_wants_a a_kept a_tape a_text a_plan a_mat a_desk_boxes a_desk_words a_desk_weeks a_desk_routes a_desk_leaves a_desk_leases a_desk_uses : Nat) (v1 : Int32) (v2 : Int32) (v3 : Int32) (v4 : Int32) (v5 : Int32) (v6 : Int32) (isKept : Int32) (planStands : Int32) (today : Int32) (lack : Int32) (rate : Int32) (free : Int32) (offers_r : Int32) (offers_f : (Nat → Int32)) (wants_r : Int32) (wants_f : (Nat → Int32)) {r : Int32} {z_offers_r : Int32} {z_offers_f : (Nat → Int32)} {z_wants_r : Int32} {z_wants_f : (Nat → Int32)} (h : fX6_turn v1 v2 v3 v4 v5 v6 offers_r offers_f wants_r wants_f = some (r, z_offers_r, z_offers_f, z_wants_r, z_wants_f)) : CtI G l yX6_turn wsX6_turn rmX6_turn [.ref a_eb, .int v1, .int v2, .int v3, .int v4, .int v5, .int v6] (wX6_turn G a_eb a_desk a_desk_offers a_desk_offers_a a_desk_wants a_desk_wants_a a_kept a_tape a_text a_plan a_mat a_desk_boxes a_desk_words a_desk_weeks a_desk_routes a_desk_leaves a_desk_leases a_desk_uses isKept planStands today lack rate free offers_r offers_f wants_r wants_f) r (wX6_turn G a_eb a_desk a_desk_offers a_desk_offers_a a_desk_wants a_desk_wants_a a_kept a_tape a_text a_plan a_mat a_desk_boxes a_desk_words a_desk_weeks a_desk_routes a_desk_leaves a_desk_leases a_desk_uses isKept planStands today lack rate free z_offers_r z_offers_f z_wants_r z_wants_f) := k0X6_turn G a_eb a_desk a_desk_offers a_desk_offers_a a_desk_wants a_desk_wants_a a_kept a_tape a_text a_plan a_mat a_desk_boxes a_desk_words a_desk_weeks a_desk_routes a_desk_leaves a_desk_leases a_desk_uses v1 v2 v3 v4 v5 v6 isKept planStands today lack rate free offers_r offers_f wants_r wants_f h
end MX6_turn
/-! EmptyBoxes.hasLeave -/
section MX6_hasLeave
theorem hdX6_hasLeave : yX6_hasLeave.cls = RX6 ∧ yX6_hasLeave.cls ≠ "java/lang/invoke/MethodHandle" ∧ yX6_hasLeave.cls ≠ "java/lang/invoke/VarHandle" ∧ (parseMethodDescriptor yX6_hasLeave.desc).map (fun d => d.parameters.length) = some 2 := by decide +kernel
abbrev wX6_hasLeave (G : Gt) (a_eb a_desk a_desk_leaves a_desk_leaves_a a_kept a_tape a_text a_plan a_mat a_desk_boxes a_desk_words a_desk_weeks a_desk_routes a_desk_offers a_desk_wants a_desk_leases a_desk_uses : Nat) (isKept : Int32) (planStands : Int32) (today : Int32) (lack : Int32) (rate : Int32) (free : Int32) (leaves_r : Int32) (leaves_f : (Nat → Int32)) : va_W := [(a_eb, .inr (6, [.ref a_desk, .ref a_kept, .ref a_tape, .ref a_text, .ref a_plan, .ref a_mat, .int isKept, .int planStands])), (a_desk, .inr (0, [.ref a_desk_boxes, .ref a_desk_words, .ref a_desk_weeks, .ref a_desk_routes, .ref a_desk_offers, .ref a_desk_wants, .ref a_desk_leaves, .ref a_desk_leases, .ref a_desk_uses, .int today, .int lack, .int rate, .int free])), (a_desk_leaves, .inr (4, [.ref a_desk_leaves_a, .int (4 : Int32), .int (4 : Int32), .int leaves_r])), (a_desk_leaves_a, .inl (G.2.1, 16, .inl leaves_f))]
abbrev rmX6_hasLeave : Room := { frames := 2, cells := 0, slots := 0, locals := 44 }
theorem iX6_hasLeave_X0 : ∀ w ∈ wsX00, w ∈ wsX6_hasLeave := by decide +kernel
theorem iX6_hasLeave_X6 : ∀ w ∈ wsX60, w ∈ wsX6_hasLeave := by decide +kernel
theorem eX6_hasLeave_12 : Fk wsX6_hasLeave RX6 12 6 0 := ⟨RX6, TX6, 8, rfl, iX6_hasLeave_X6, by decide, by decide +kernel⟩
theorem eX6_hasLeave_204 : Fk wsX6_hasLeave RX6 204 0 6 := ⟨RX0, TX0, 13, rfl, iX6_hasLeave_X0, by decide, by decide +kernel⟩
theorem ckX6_hasLeave_X4_cell_113 : CkV wsX6_hasLeave RX6 113 yX4_cell wsX4_cell cX4_cell 3 (some .int) 2 4 := ⟨RX4, TX4, 4, _, rfl, gX6_hasLeave_X4_cell, rfl, hdX4_cell⟩
variable {p : Program} {l : Launch} {e : Env} {s : State} {m : MethodId} {args : Array Value} {below : List Frame} {meth : Method} {c : Code} {A : Nat → Prop} {G : Gt} {a_eb a_desk a_desk_leaves a_desk_leaves_a a_kept a_tape a_text a_plan a_mat a_desk_boxes a_desk_words a_desk_weeks a_desk_routes a_desk_offers a_desk_wants a_desk_leases a_desk_uses : Nat} {isKept : Int32} {planStands : Int32} {today : Int32} {lack : Int32} {rate : Int32} {free : Int32} {leaves_r : Int32} {leaves_f : (Nat → Int32)} {res : Int32}
set_option maxHeartbeats 4000000 in
set_option maxRecDepth 100000 in
theorem k0X6_hasLeave {l : Launch} (G : Gt) (a_eb a_desk a_desk_leaves a_desk_leaves_a a_kept a_tape a_text a_plan a_mat a_desk_boxes a_desk_words a_desk_weeks a_desk_routes a_desk_offers a_desk_wants a_desk_leases a_desk_uses : Nat) (v1 : Int32) (v2 : Int32) (isKept : Int32) (planStands : Int32) (today : Int32) (lack : Int32) (rate : Int32) (free : Int32) (leaves_r : Int32) (leaves_f : (Nat → Int32)) {res : Int32} (h : fX6_hasLeave v1 v2 leaves_r leaves_f = some res) : CtI G l yX6_hasLeave wsX6_hasLeave rmX6_hasLeave [.ref a_eb, .int v1, .int v2] (wX6_hasLeave G a_eb a_desk a_desk_leaves a_desk_leaves_a a_kept a_tape a_text a_plan a_mat a_desk_boxes a_desk_words a_desk_weeks a_desk_routes a_desk_offers a_desk_wants a_desk_leases a_desk_uses isKept planStands today lack rate free leaves_r leaves_f) res (wX6_hasLeave G a_eb a_desk a_desk_leaves a_desk_leaves_a a_kept a_tape a_text a_plan a_mat a_desk_boxes a_desk_words a_desk_weeks a_desk_routes a_desk_offers a_desk_wants a_desk_leases a_desk_uses isKept planStands today lack rate free leaves_r leaves_f) := by
  refine CtI.mk (cc := cX6_hasLeave) (maxL := 3) (ret := (some .boolean)) (own := RX6) (by decide) rfl rfl (Nat.le_of_ble_eq_true rfl) ?_
  intro p e s m below meth c A X ls hl hW
  obtain ⟨hx, hb, -⟩ := id X.1
  have hl : lv_has ls 3 [(0, .ref a_eb), (1, .int v1), (2, .int v2)] := hl
  generalize hH : s.heap = H at hW ⊢
  generalize hLo : ([] : List Loc) = locs at hW ⊢
  rw [fX6_hasLeave] at h
  refine lv_aload_n hx hb dX6_hasLeave_0 rfl (lv_at hl 0 rfl) ?_
  refine g_get X hW eX6_hasLeave_12 0 rfl rfl dX6_hasLeave_1 ?_
  refine g_get X hW eX6_hasLeave_204 1 rfl rfl dX6_hasLeave_4 ?_
  refine lv_iload_n hx hb dX6_hasLeave_7 rfl (lv_at hl 1 rfl) ?_
  refine lv_iload_n hx hb dX6_hasLeave_8 rfl (lv_at hl 2 rfl) ?_
  obtain ⟨r6, hq, h⟩ := bn1_some h
  refine g_cvi X hW (As := [.int v1, .int v2]) (ws' := (wX6_hasLeave G a_eb a_desk a_desk_leaves a_desk_leaves_a a_kept a_tape a_text a_plan a_mat a_desk_boxes a_desk_words a_desk_weeks a_desk_routes a_desk_offers a_desk_wants a_desk_leases a_desk_uses isKept planStands today lack rate free leaves_r leaves_f)) ckX6_hasLeave_X4_cell_113 (kcX4_cell (l := l) G a_desk_leaves a_desk_leaves_a v1 v2 (4 : Int32) (4 : Int32) leaves_r 16 leaves_f hq) ⟨rfl, rfl, Nat.le_of_ble_eq_true rfl, Nat.le_of_ble_eq_true rfl⟩ [2, 3] rfl rfl rfl rfl rfl rfl rfl hl.1 (Nat.le_of_ble_eq_true rfl) ⟨Nat.zero_le _, Nat.zero_le _⟩ dX6_hasLeave_9 (fun H locs hW => ?_)
  refine lv_iconst hx hb dX6_hasLeave_12 qI_1 ?_
  refine lv_icmp_ne (tgt := 20) hx hb dX6_hasLeave_13 (by decide) (fun c8 => ?_) (fun c8 => ?_)
  · have h := (if_neg c8).symm.trans h
    refine lv_iconst hx hb dX6_hasLeave_20 qI_0 ?_
    obtain rfl := Option.some.inj h
    exact g_zret X hW rfl dX6_hasLeave_21
  · have h := (if_pos c8).symm.trans h
    refine lv_iconst hx hb dX6_hasLeave_16 qI_1 ?_
    refine lv_goto (tgt := 21) hx hb dX6_hasLeave_17 (by decide) ?_
    obtain rfl := Option.some.inj h
    exact g_zret X hW rfl dX6_hasLeave_21
theorem kcX6_hasLeave {l : Launch} (G : Gt) (a_eb a_desk a_desk_leaves a_desk_leaves_a a_kept a_tape a_text a_plan a_mat a_desk_boxes a_desk_words a_desk_weeks a_desk_routes a_desk_offers a_desk_wants a_desk_leases a_desk_uses : Nat) (v1 : Int32) (v2 : Int32) (isKept : Int32) (planStands : Int32) (today : Int32) (lack : Int32) (rate : Int32) (free : Int32) (leaves_r : Int32) (leaves_f : (Nat → Int32)) {r : Int32}  (h : fX6_hasLeave v1 v2 leaves_r leaves_f = some r) : CtI G l yX6_hasLeave wsX6_hasLeave rmX6_hasLeave [.ref a_eb, .int v1, .int v2] (wX6_hasLeave G a_eb a_desk a_desk_leaves a_desk_leaves_a a_kept a_tape a_text a_plan a_mat a_desk_boxes a_desk_words a_desk_weeks a_desk_routes a_desk_offers a_desk_wants a_desk_leases a_desk_uses isKept planStands today lack rate free leaves_r leaves_f) r (wX6_hasLeave G a_eb a_desk a_desk_leaves a_desk_leaves_a a_kept a_tape a_text a_plan a_mat a_desk_boxes a_desk_words a_desk_weeks a_desk_routes a_desk_offers a_desk_wants a_desk_leases a_desk_uses isKept planStands today lack rate free leaves_r leaves_f) := k0X6_hasLeave G a_eb a_desk a_desk_leaves a_desk_leaves_a a_kept a_tape a_text a_plan a_mat a_desk_boxes a_desk_words a_desk_weeks a_desk_routes a_desk_offers a_desk_wants a_desk_leases a_desk_uses v1 v2 isKept planStands today lack rate free leaves_r leaves_f h
end MX6_hasLeave
/-! EmptyBoxes.leave -/
section MX6_leave
theorem hdX6_leave : yX6_leave.cls = RX6 ∧ yX6_leave.cls ≠ "java/lang/invoke/MethodHandle" ∧ yX6_leave.cls ≠ "java/lang/invoke/VarHandle" ∧ (parseMethodDescriptor yX6_leave.desc).map (fun d => d.parameters.length) = some 3 := by decide +kernel
abbrev wX6_leave (G : Gt) (a_eb a_desk a_desk_leaves a_desk_leaves_a a_kept a_tape a_text a_plan a_mat a_desk_boxes a_desk_words a_desk_weeks a_desk_routes a_desk_offers a_desk_wants a_desk_leases a_desk_uses : Nat) (isKept : Int32) (planStands : Int32) (today : Int32) (lack : Int32) (rate : Int32) (free : Int32) (leaves_r : Int32) (leaves_f : (Nat → Int32)) : va_W := [(a_eb, .inr (6, [.ref a_desk, .ref a_kept, .ref a_tape, .ref a_text, .ref a_plan, .ref a_mat, .int isKept, .int planStands])), (a_desk, .inr (0, [.ref a_desk_boxes, .ref a_desk_words, .ref a_desk_weeks, .ref a_desk_routes, .ref a_desk_offers, .ref a_desk_wants, .ref a_desk_leaves, .ref a_desk_leases, .ref a_desk_uses, .int today, .int lack, .int rate, .int free])), (a_desk_leaves, .inr (4, [.ref a_desk_leaves_a, .int (4 : Int32), .int (4 : Int32), .int leaves_r])), (a_desk_leaves_a, .inl (G.2.1, 16, .inl leaves_f))]
abbrev rmX6_leave : Room := { frames := 3, cells := 0, slots := 0, locals := 66 }
theorem iX6_leave_X0 : ∀ w ∈ wsX00, w ∈ wsX6_leave := by decide +kernel
theorem iX6_leave_X6 : ∀ w ∈ wsX60, w ∈ wsX6_leave := by decide +kernel
theorem eX6_leave_12 : Fk wsX6_leave RX6 12 6 0 := ⟨RX6, TX6, 8, rfl, iX6_leave_X6, by decide, by decide +kernel⟩
theorem eX6_leave_204 : Fk wsX6_leave RX6 204 0 6 := ⟨RX0, TX0, 13, rfl, iX6_leave_X0, by decide, by decide +kernel⟩
theorem ckX6_leave_X4_put_96 : CkV wsX6_leave RX6 96 yX4_put wsX4_put cX4_put 4 none 3 4 := ⟨RX4, TX4, 4, _, rfl, gX6_leave_X4_put, rfl, hdX4_put⟩
theorem ckX6_leave_X6_hasLeave_201 : CkV wsX6_leave RX6 201 yX6_hasLeave wsX6_hasLeave cX6_hasLeave 3 (some .boolean) 2 6 := ⟨RX6, TX6, 8, _, rfl, gX6_leave_X6_hasLeave, rfl, hdX6_hasLeave⟩
theorem ckX6_leave_X6_isLine_69 : CkS wsX6_leave RX6 69 yX6_isLine wsX6_isLine cX6_isLine 1 (some .boolean) 1 := ⟨_, gX6_leave_X6_isLine, rfl, hdX6_isLine.2⟩
variable {p : Program} {l : Launch} {e : Env} {s : State} {m : MethodId} {args : Array Value} {below : List Frame} {meth : Method} {c : Code} {A : Nat → Prop} {G : Gt} {a_eb a_desk a_desk_leaves a_desk_leaves_a a_kept a_tape a_text a_plan a_mat a_desk_boxes a_desk_words a_desk_weeks a_desk_routes a_desk_offers a_desk_wants a_desk_leases a_desk_uses : Nat} {isKept : Int32} {planStands : Int32} {today : Int32} {lack : Int32} {rate : Int32} {free : Int32} {leaves_r : Int32} {res : Int32 × (Nat → Int32)}
set_option maxHeartbeats 4000000 in
set_option maxRecDepth 100000 in
theorem tX6_leave_72 (X : Bx p s m args meth c cX6_leave 4 wsX6_leave RX6 (some .int)) (t1 : Int32) (t2 : Int32) (t3 : Int32) (leaves_f : (Nat → Int32))   (h : fX6_leave_72 t1 t2 t3 leaves_r leaves_f = some res) : ∀ (H : Heap) (locs : List Loc), Wo G A s (wX6_leave G a_eb a_desk a_desk_leaves a_desk_leaves_a a_kept a_tape a_text a_plan a_mat a_desk_boxes a_desk_words a_desk_weeks a_desk_routes a_desk_offers a_desk_wants a_desk_leases a_desk_uses isKept planStands today lack rate free leaves_r leaves_f) H locs → ∀ ls : Array Slot, lv_has ls 4 [] → W p l e rmX6_leave s m args below meth c H locs 0 0 (QI G A below args s res.1 (wX6_leave G a_eb a_desk a_desk_leaves a_desk_leaves_a a_kept a_tape a_text a_plan a_mat a_desk_boxes a_desk_words a_desk_weeks a_desk_routes a_desk_offers a_desk_wants a_desk_leases a_desk_uses isKept planStands today lack rate free leaves_r res.2)) (F0 m 72 ls [.int t3, .int t2, .int t1, .ref a_desk_leaves]) := by
  obtain ⟨hx, hb, -⟩ := id X.1
  intro H locs hW ls hl
  rw [fX6_leave_72] at h
  obtain ⟨o1_tb_f, hq, h⟩ := bn1_some h
  refine g_cvv X hW (As := [.int t1, .int t2, .int t3]) (ws' := (wX6_leave G a_eb a_desk a_desk_leaves a_desk_leaves_a a_kept a_tape a_text a_plan a_mat a_desk_boxes a_desk_words a_desk_weeks a_desk_routes a_desk_offers a_desk_wants a_desk_leases a_desk_uses isKept planStands today lack rate free leaves_r o1_tb_f)) ckX6_leave_X4_put_96 (kcX4_put (l := l) G a_desk_leaves a_desk_leaves_a t1 t2 t3 (4 : Int32) (4 : Int32) leaves_r 16 leaves_f hq) ⟨rfl, rfl, Nat.le_of_ble_eq_true rfl, Nat.le_of_ble_eq_true rfl⟩ [2, 3] rfl rfl rfl rfl rfl rfl rfl hl.1 (Nat.le_of_ble_eq_true rfl) ⟨Nat.zero_le _, Nat.zero_le _⟩ dX6_leave_72 (fun H locs hW => ?_)
  refine lv_iconst hx hb dX6_leave_75 qI_1 ?_
  obtain rfl := Option.some.inj h
  exact g_iret X hW dX6_leave_76
set_option maxHeartbeats 4000000 in
set_option maxRecDepth 100000 in
theorem tX6_leave_51 (X : Bx p s m args meth c cX6_leave 4 wsX6_leave RX6 (some .int)) (v1 : Int32) (v2 : Int32) (v3 : Int32) (t1 : Int32) (t2 : Int32) (t3 : Int32) (leaves_f : (Nat → Int32))   (h : fX6_leave_51 v1 v2 v3 t1 t2 t3 leaves_r leaves_f = some res) : ∀ (H : Heap) (locs : List Loc), Wo G A s (wX6_leave G a_eb a_desk a_desk_leaves a_desk_leaves_a a_kept a_tape a_text a_plan a_mat a_desk_boxes a_desk_words a_desk_weeks a_desk_routes a_desk_offers a_desk_wants a_desk_leases a_desk_uses isKept planStands today lack rate free leaves_r leaves_f) H locs → ∀ ls : Array Slot, lv_has ls 4 [(0, .ref a_eb), (1, .int v1), (2, .int v2), (3, .int v3)] → W p l e rmX6_leave s m args below meth c H locs 0 0 (QI G A below args s res.1 (wX6_leave G a_eb a_desk a_desk_leaves a_desk_leaves_a a_kept a_tape a_text a_plan a_mat a_desk_boxes a_desk_words a_desk_weeks a_desk_routes a_desk_offers a_desk_wants a_desk_leases a_desk_uses isKept planStands today lack rate free leaves_r res.2)) (F0 m 51 ls [.int t3, .int t2, .int t1, .ref a_desk_leaves]) := by
  obtain ⟨hx, hb, -⟩ := id X.1
  intro H locs hW ls hl
  rw [fX6_leave_51] at h
  obtain ⟨o4_tb_f, hq, h⟩ := bn1_some h
  refine g_cvv X hW (As := [.int t1, .int t2, .int t3]) (ws' := (wX6_leave G a_eb a_desk a_desk_leaves a_desk_leaves_a a_kept a_tape a_text a_plan a_mat a_desk_boxes a_desk_words a_desk_weeks a_desk_routes a_desk_offers a_desk_wants a_desk_leases a_desk_uses isKept planStands today lack rate free leaves_r o4_tb_f)) ckX6_leave_X4_put_96 (kcX4_put (l := l) G a_desk_leaves a_desk_leaves_a t1 t2 t3 (4 : Int32) (4 : Int32) leaves_r 16 leaves_f hq) ⟨rfl, rfl, Nat.le_of_ble_eq_true rfl, Nat.le_of_ble_eq_true rfl⟩ [2, 3] rfl rfl rfl rfl rfl rfl rfl hl.1 (Nat.le_of_ble_eq_true rfl) ⟨Nat.zero_le _, Nat.zero_le _⟩ dX6_leave_51 (fun H locs hW => ?_)
  refine lv_aload_n hx hb dX6_leave_54 rfl (lv_at hl 0 rfl) ?_
  refine g_get X hW eX6_leave_12 0 rfl rfl dX6_leave_55 ?_
  refine g_get X hW eX6_leave_204 1 rfl rfl dX6_leave_58 ?_
  refine lv_iload_n hx hb dX6_leave_61 rfl (lv_at hl 2 rfl) ?_
  refine lv_iload_n hx hb dX6_leave_62 rfl (lv_at hl 1 rfl) ?_
  refine lv_iload_n hx hb dX6_leave_63 rfl (lv_at hl 3 rfl) ?_
  refine lv_if_eq (tgt := 71) hx hb dX6_leave_64 (by decide) (fun c11 => ?_) (fun c11 => ?_)
  · have h := (if_pos c11).symm.trans h
    refine lv_iconst hx hb dX6_leave_71 qI_0 ?_
    exact tX6_leave_72 X v2 v1 (0 : Int32) o4_tb_f h H locs hW ls (lv_sub hl [] rfl)
  · have h := (if_neg c11).symm.trans h
    refine lv_iconst hx hb dX6_leave_67 qI_1 ?_
    refine lv_goto (tgt := 72) hx hb dX6_leave_68 (by decide) ?_
    exact tX6_leave_72 X v2 v1 (1 : Int32) o4_tb_f h H locs hW ls (lv_sub hl [] rfl)
set_option maxHeartbeats 4000000 in
set_option maxRecDepth 100000 in
theorem k0X6_leave {l : Launch} (G : Gt) (a_eb a_desk a_desk_leaves a_desk_leaves_a a_kept a_tape a_text a_plan a_mat a_desk_boxes a_desk_words a_desk_weeks a_desk_routes a_desk_offers a_desk_wants a_desk_leases a_desk_uses : Nat) (v1 : Int32) (v2 : Int32) (v3 : Int32) (isKept : Int32) (planStands : Int32) (today : Int32) (lack : Int32) (rate : Int32) (free : Int32) (leaves_r : Int32) (leaves_f : (Nat → Int32)) {res : Int32 × (Nat → Int32)} (h : fX6_leave v1 v2 v3 leaves_r leaves_f = some res) : CtI G l yX6_leave wsX6_leave rmX6_leave [.ref a_eb, .int v1, .int v2, .int v3] (wX6_leave G a_eb a_desk a_desk_leaves a_desk_leaves_a a_kept a_tape a_text a_plan a_mat a_desk_boxes a_desk_words a_desk_weeks a_desk_routes a_desk_offers a_desk_wants a_desk_leases a_desk_uses isKept planStands today lack rate free leaves_r leaves_f) res.1 (wX6_leave G a_eb a_desk a_desk_leaves a_desk_leaves_a a_kept a_tape a_text a_plan a_mat a_desk_boxes a_desk_words a_desk_weeks a_desk_routes a_desk_offers a_desk_wants a_desk_leases a_desk_uses isKept planStands today lack rate free leaves_r res.2) := by
  refine CtI.mk (cc := cX6_leave) (maxL := 4) (ret := (some .int)) (own := RX6) (by decide) rfl rfl (Nat.le_of_ble_eq_true rfl) ?_
  intro p e s m below meth c A X ls hl hW
  obtain ⟨hx, hb, -⟩ := id X.1
  have hl : lv_has ls 4 [(0, .ref a_eb), (1, .int v1), (2, .int v2), (3, .int v3)] := hl
  generalize hH : s.heap = H at hW ⊢
  generalize hLo : ([] : List Loc) = locs at hW ⊢
  rw [fX6_leave] at h
  refine lv_iload_n hx hb dX6_leave_0 rfl (lv_at hl 1 rfl) ?_
  obtain ⟨r16, hq, h⟩ := bn1_some h
  refine g_csi X hW (As := [.int v1]) (ws' := (wX6_leave G a_eb a_desk a_desk_leaves a_desk_leaves_a a_kept a_tape a_text a_plan a_mat a_desk_boxes a_desk_words a_desk_weeks a_desk_routes a_desk_offers a_desk_wants a_desk_leases a_desk_uses isKept planStands today lack rate free leaves_r leaves_f)) ckX6_leave_X6_isLine_69 (kcX6_isLine (l := l) G v1 hq) ⟨rfl, rfl, Nat.le_of_ble_eq_true rfl, Nat.le_of_ble_eq_true rfl⟩ [] rfl rfl rfl rfl rfl rfl hl.1 (Nat.le_of_ble_eq_true rfl) ⟨Nat.zero_le _, Nat.zero_le _⟩ dX6_leave_1 (fun H locs hW => ?_)
  refine lv_if_eq (tgt := 19) hx hb dX6_leave_4 (by decide) (fun c17 => ?_) (fun c17 => ?_)
  · have h := (if_pos c17).symm.trans h
    refine lv_iconst hx hb dX6_leave_19 qI_m1 ?_
    obtain rfl := Option.some.inj h
    exact g_iret X hW dX6_leave_20
  · have h := (if_neg c17).symm.trans h
    refine lv_iload_n hx hb dX6_leave_7 rfl (lv_at hl 2 rfl) ?_
    obtain ⟨r21, hq, h⟩ := bn1_some h
    refine g_csi X hW (As := [.int v2]) (ws' := (wX6_leave G a_eb a_desk a_desk_leaves a_desk_leaves_a a_kept a_tape a_text a_plan a_mat a_desk_boxes a_desk_words a_desk_weeks a_desk_routes a_desk_offers a_desk_wants a_desk_leases a_desk_uses isKept planStands today lack rate free leaves_r leaves_f)) ckX6_leave_X6_isLine_69 (kcX6_isLine (l := l) G v2 hq) ⟨rfl, rfl, Nat.le_of_ble_eq_true rfl, Nat.le_of_ble_eq_true rfl⟩ [] rfl rfl rfl rfl rfl rfl hl.1 (Nat.le_of_ble_eq_true rfl) ⟨Nat.zero_le _, Nat.zero_le _⟩ dX6_leave_8 (fun H locs hW => ?_)
    refine lv_if_eq (tgt := 19) hx hb dX6_leave_11 (by decide) (fun c22 => ?_) (fun c22 => ?_)
    · have h := (if_pos c22).symm.trans h
      refine lv_iconst hx hb dX6_leave_19 qI_m1 ?_
      obtain rfl := Option.some.inj h
      exact g_iret X hW dX6_leave_20
    · have h := (if_neg c22).symm.trans h
      refine lv_iload_n hx hb dX6_leave_14 rfl (lv_at hl 1 rfl) ?_
      refine lv_iload_n hx hb dX6_leave_15 rfl (lv_at hl 2 rfl) ?_
      refine lv_icmp_ne (tgt := 21) hx hb dX6_leave_16 (by decide) (fun c27 => ?_) (fun c27 => ?_)
      · have h := (if_neg c27).symm.trans h
        refine lv_aload_n hx hb dX6_leave_21 rfl (lv_at hl 0 rfl) ?_
        refine lv_iload_n hx hb dX6_leave_22 rfl (lv_at hl 1 rfl) ?_
        refine lv_iload_n hx hb dX6_leave_23 rfl (lv_at hl 2 rfl) ?_
        obtain ⟨r31, hq, h⟩ := bn1_some h
        refine g_cvi X hW (As := [.int v1, .int v2]) (ws' := (wX6_leave G a_eb a_desk a_desk_leaves a_desk_leaves_a a_kept a_tape a_text a_plan a_mat a_desk_boxes a_desk_words a_desk_weeks a_desk_routes a_desk_offers a_desk_wants a_desk_leases a_desk_uses isKept planStands today lack rate free leaves_r leaves_f)) ckX6_leave_X6_hasLeave_201 (kcX6_hasLeave (l := l) G a_eb a_desk a_desk_leaves a_desk_leaves_a a_kept a_tape a_text a_plan a_mat a_desk_boxes a_desk_words a_desk_weeks a_desk_routes a_desk_offers a_desk_wants a_desk_leases a_desk_uses v1 v2 isKept planStands today lack rate free leaves_r leaves_f hq) ⟨rfl, rfl, Nat.le_of_ble_eq_true rfl, Nat.le_of_ble_eq_true rfl⟩ [0, 1, 2, 3] rfl rfl rfl rfl rfl rfl rfl hl.1 (Nat.le_of_ble_eq_true rfl) ⟨Nat.zero_le _, Nat.zero_le _⟩ dX6_leave_24 (fun H locs hW => ?_)
        refine lv_iload_n hx hb dX6_leave_27 rfl (lv_at hl 3 rfl) ?_
        refine lv_icmp_ne (tgt := 33) hx hb dX6_leave_28 (by decide) (fun c33 => ?_) (fun c33 => ?_)
        · have h := (if_neg c33).symm.trans h
          refine lv_aload_n hx hb dX6_leave_33 rfl (lv_at hl 0 rfl) ?_
          refine g_get X hW eX6_leave_12 0 rfl rfl dX6_leave_34 ?_
          refine g_get X hW eX6_leave_204 1 rfl rfl dX6_leave_37 ?_
          refine lv_iload_n hx hb dX6_leave_40 rfl (lv_at hl 1 rfl) ?_
          refine lv_iload_n hx hb dX6_leave_41 rfl (lv_at hl 2 rfl) ?_
          refine lv_iload_n hx hb dX6_leave_42 rfl (lv_at hl 3 rfl) ?_
          refine lv_if_eq (tgt := 50) hx hb dX6_leave_43 (by decide) (fun c40 => ?_) (fun c40 => ?_)
          · have h := (if_pos c40).symm.trans h
            refine lv_iconst hx hb dX6_leave_50 qI_0 ?_
            exact tX6_leave_51 X v1 v2 v3 v1 v2 (0 : Int32) leaves_f h H locs hW ls hl
          · have h := (if_neg c40).symm.trans h
            refine lv_iconst hx hb dX6_leave_46 qI_1 ?_
            refine lv_goto (tgt := 51) hx hb dX6_leave_47 (by decide) ?_
            exact tX6_leave_51 X v1 v2 v3 v1 v2 (1 : Int32) leaves_f h H locs hW ls hl
        · have h := (if_pos c33).symm.trans h
          refine lv_iconst hx hb dX6_leave_31 qI_0 ?_
          obtain rfl := Option.some.inj h
          exact g_iret X hW dX6_leave_32
      · have h := (if_pos c27).symm.trans h
        refine lv_iconst hx hb dX6_leave_19 qI_m1 ?_
        obtain rfl := Option.some.inj h
        exact g_iret X hW dX6_leave_20
theorem kcX6_leave {l : Launch} (G : Gt) (a_eb a_desk a_desk_leaves a_desk_leaves_a a_kept a_tape a_text a_plan a_mat a_desk_boxes a_desk_words a_desk_weeks a_desk_routes a_desk_offers a_desk_wants a_desk_leases a_desk_uses : Nat) (v1 : Int32) (v2 : Int32) (v3 : Int32) (isKept : Int32) (planStands : Int32) (today : Int32) (lack : Int32) (rate : Int32) (free : Int32) (leaves_r : Int32) (leaves_f : (Nat → Int32)) {r : Int32} {z_leaves_f : (Nat → Int32)} (h : fX6_leave v1 v2 v3 leaves_r leaves_f = some (r, z_leaves_f)) : CtI G l yX6_leave wsX6_leave rmX6_leave [.ref a_eb, .int v1, .int v2, .int v3] (wX6_leave G a_eb a_desk a_desk_leaves a_desk_leaves_a a_kept a_tape a_text a_plan a_mat a_desk_boxes a_desk_words a_desk_weeks a_desk_routes a_desk_offers a_desk_wants a_desk_leases a_desk_uses isKept planStands today lack rate free leaves_r leaves_f) r (wX6_leave G a_eb a_desk a_desk_leaves a_desk_leaves_a a_kept a_tape a_text a_plan a_mat a_desk_boxes a_desk_words a_desk_weeks a_desk_routes a_desk_offers a_desk_wants a_desk_leases a_desk_uses isKept planStands today lack rate free leaves_r z_leaves_f) := k0X6_leave G a_eb a_desk a_desk_leaves a_desk_leaves_a a_kept a_tape a_text a_plan a_mat a_desk_boxes a_desk_words a_desk_weeks a_desk_routes a_desk_offers a_desk_wants a_desk_leases a_desk_uses v1 v2 v3 isKept planStands today lack rate free leaves_r leaves_f h
end MX6_leave
/-! EmptyBoxes.isSharing -/
section MX6_isSharing
theorem hdX6_isSharing : yX6_isSharing.cls = RX6 ∧ yX6_isSharing.cls ≠ "java/lang/invoke/MethodHandle" ∧ yX6_isSharing.cls ≠ "java/lang/invoke/VarHandle" ∧ (parseMethodDescriptor yX6_isSharing.desc).map (fun d => d.parameters.length) = some 2 := by decide +kernel
abbrev wX6_isSharing (G : Gt) (a_eb a_desk a_desk_leaves a_desk_leaves_a a_kept a_tape a_text a_plan a_mat a_desk_boxes a_desk_words a_desk_weeks a_desk_routes a_desk_offers a_desk_wants a_desk_leases a_desk_uses : Nat) (isKept : Int32) (planStands : Int32) (today : Int32) (lack : Int32) (rate : Int32) (free : Int32) (leaves_r : Int32) (leaves_f : (Nat → Int32)) : va_W := [(a_eb, .inr (6, [.ref a_desk, .ref a_kept, .ref a_tape, .ref a_text, .ref a_plan, .ref a_mat, .int isKept, .int planStands])), (a_desk, .inr (0, [.ref a_desk_boxes, .ref a_desk_words, .ref a_desk_weeks, .ref a_desk_routes, .ref a_desk_offers, .ref a_desk_wants, .ref a_desk_leaves, .ref a_desk_leases, .ref a_desk_uses, .int today, .int lack, .int rate, .int free])), (a_desk_leaves, .inr (4, [.ref a_desk_leaves_a, .int (4 : Int32), .int (4 : Int32), .int leaves_r])), (a_desk_leaves_a, .inl (G.2.1, 16, .inl leaves_f))]
abbrev rmX6_isSharing : Room := { frames := 3, cells := 0, slots := 0, locals := 66 }
theorem ckX6_isSharing_X6_hasLeave_201 : CkV wsX6_isSharing RX6 201 yX6_hasLeave wsX6_hasLeave cX6_hasLeave 3 (some .boolean) 2 6 := ⟨RX6, TX6, 8, _, rfl, gX6_isSharing_X6_hasLeave, rfl, hdX6_hasLeave⟩
variable {p : Program} {l : Launch} {e : Env} {s : State} {m : MethodId} {args : Array Value} {below : List Frame} {meth : Method} {c : Code} {A : Nat → Prop} {G : Gt} {a_eb a_desk a_desk_leaves a_desk_leaves_a a_kept a_tape a_text a_plan a_mat a_desk_boxes a_desk_words a_desk_weeks a_desk_routes a_desk_offers a_desk_wants a_desk_leases a_desk_uses : Nat} {isKept : Int32} {planStands : Int32} {today : Int32} {lack : Int32} {rate : Int32} {free : Int32} {leaves_r : Int32} {leaves_f : (Nat → Int32)} {res : Int32}
set_option maxHeartbeats 4000000 in
set_option maxRecDepth 100000 in
theorem k0X6_isSharing {l : Launch} (G : Gt) (a_eb a_desk a_desk_leaves a_desk_leaves_a a_kept a_tape a_text a_plan a_mat a_desk_boxes a_desk_words a_desk_weeks a_desk_routes a_desk_offers a_desk_wants a_desk_leases a_desk_uses : Nat) (v1 : Int32) (v2 : Int32) (isKept : Int32) (planStands : Int32) (today : Int32) (lack : Int32) (rate : Int32) (free : Int32) (leaves_r : Int32) (leaves_f : (Nat → Int32)) {res : Int32} (h : fX6_isSharing v1 v2 leaves_r leaves_f = some res) : CtI G l yX6_isSharing wsX6_isSharing rmX6_isSharing [.ref a_eb, .int v1, .int v2] (wX6_isSharing G a_eb a_desk a_desk_leaves a_desk_leaves_a a_kept a_tape a_text a_plan a_mat a_desk_boxes a_desk_words a_desk_weeks a_desk_routes a_desk_offers a_desk_wants a_desk_leases a_desk_uses isKept planStands today lack rate free leaves_r leaves_f) res (wX6_isSharing G a_eb a_desk a_desk_leaves a_desk_leaves_a a_kept a_tape a_text a_plan a_mat a_desk_boxes a_desk_words a_desk_weeks a_desk_routes a_desk_offers a_desk_wants a_desk_leases a_desk_uses isKept planStands today lack rate free leaves_r leaves_f) := by
  refine CtI.mk (cc := cX6_isSharing) (maxL := 3) (ret := (some .boolean)) (own := RX6) (by decide) rfl rfl (Nat.le_of_ble_eq_true rfl) ?_
  intro p e s m below meth c A X ls hl hW
  obtain ⟨hx, hb, -⟩ := id X.1
  have hl : lv_has ls 3 [(0, .ref a_eb), (1, .int v1), (2, .int v2)] := hl
  generalize hH : s.heap = H at hW ⊢
  generalize hLo : ([] : List Loc) = locs at hW ⊢
  rw [fX6_isSharing] at h
  refine lv_iload_n hx hb dX6_isSharing_0 rfl (lv_at hl 1 rfl) ?_
  refine lv_iload_n hx hb dX6_isSharing_1 rfl (lv_at hl 2 rfl) ?_
  refine lv_icmp_eq (tgt := 14) hx hb dX6_isSharing_2 (by decide) (fun c3 => ?_) (fun c3 => ?_)
  · have h := (if_pos c3).symm.trans h
    refine lv_iconst hx hb dX6_isSharing_14 qI_1 ?_
    refine lv_goto (tgt := 19) hx hb dX6_isSharing_15 (by decide) ?_
    obtain rfl := Option.some.inj h
    exact g_zret X hW rfl dX6_isSharing_19
  · have h := (if_neg c3).symm.trans h
    refine lv_aload_n hx hb dX6_isSharing_5 rfl (lv_at hl 0 rfl) ?_
    refine lv_iload_n hx hb dX6_isSharing_6 rfl (lv_at hl 1 rfl) ?_
    refine lv_iload_n hx hb dX6_isSharing_7 rfl (lv_at hl 2 rfl) ?_
    obtain ⟨r10, hq, h⟩ := bn1_some h
    refine g_cvi X hW (As := [.int v1, .int v2]) (ws' := (wX6_isSharing G a_eb a_desk a_desk_leaves a_desk_leaves_a a_kept a_tape a_text a_plan a_mat a_desk_boxes a_desk_words a_desk_weeks a_desk_routes a_desk_offers a_desk_wants a_desk_leases a_desk_uses isKept planStands today lack rate free leaves_r leaves_f)) ckX6_isSharing_X6_hasLeave_201 (kcX6_hasLeave (l := l) G a_eb a_desk a_desk_leaves a_desk_leaves_a a_kept a_tape a_text a_plan a_mat a_desk_boxes a_desk_words a_desk_weeks a_desk_routes a_desk_offers a_desk_wants a_desk_leases a_desk_uses v1 v2 isKept planStands today lack rate free leaves_r leaves_f hq) ⟨rfl, rfl, Nat.le_of_ble_eq_true rfl, Nat.le_of_ble_eq_true rfl⟩ [0, 1, 2, 3] rfl rfl rfl rfl rfl rfl rfl hl.1 (Nat.le_of_ble_eq_true rfl) ⟨Nat.zero_le _, Nat.zero_le _⟩ dX6_isSharing_8 (fun H locs hW => ?_)
    refine lv_if_eq (tgt := 18) hx hb dX6_isSharing_11 (by decide) (fun c11 => ?_) (fun c11 => ?_)
    · have h := (if_pos c11).symm.trans h
      refine lv_iconst hx hb dX6_isSharing_18 qI_0 ?_
      obtain rfl := Option.some.inj h
      exact g_zret X hW rfl dX6_isSharing_19
    · have h := (if_neg c11).symm.trans h
      refine lv_iconst hx hb dX6_isSharing_14 qI_1 ?_
      refine lv_goto (tgt := 19) hx hb dX6_isSharing_15 (by decide) ?_
      obtain rfl := Option.some.inj h
      exact g_zret X hW rfl dX6_isSharing_19
theorem kcX6_isSharing {l : Launch} (G : Gt) (a_eb a_desk a_desk_leaves a_desk_leaves_a a_kept a_tape a_text a_plan a_mat a_desk_boxes a_desk_words a_desk_weeks a_desk_routes a_desk_offers a_desk_wants a_desk_leases a_desk_uses : Nat) (v1 : Int32) (v2 : Int32) (isKept : Int32) (planStands : Int32) (today : Int32) (lack : Int32) (rate : Int32) (free : Int32) (leaves_r : Int32) (leaves_f : (Nat → Int32)) {r : Int32}  (h : fX6_isSharing v1 v2 leaves_r leaves_f = some r) : CtI G l yX6_isSharing wsX6_isSharing rmX6_isSharing [.ref a_eb, .int v1, .int v2] (wX6_isSharing G a_eb a_desk a_desk_leaves a_desk_leaves_a a_kept a_tape a_text a_plan a_mat a_desk_boxes a_desk_words a_desk_weeks a_desk_routes a_desk_offers a_desk_wants a_desk_leases a_desk_uses isKept planStands today lack rate free leaves_r leaves_f) r (wX6_isSharing G a_eb a_desk a_desk_leaves a_desk_leaves_a a_kept a_tape a_text a_plan a_mat a_desk_boxes a_desk_words a_desk_weeks a_desk_routes a_desk_offers a_desk_wants a_desk_leases a_desk_uses isKept planStands today lack rate free leaves_r leaves_f) := k0X6_isSharing G a_eb a_desk a_desk_leaves a_desk_leaves_a a_kept a_tape a_text a_plan a_mat a_desk_boxes a_desk_words a_desk_weeks a_desk_routes a_desk_offers a_desk_wants a_desk_leases a_desk_uses v1 v2 isKept planStands today lack rate free leaves_r leaves_f h
end MX6_isSharing
/-! EmptyBoxes.isJoined -/
section MX6_isJoined
theorem hdX6_isJoined : yX6_isJoined.cls = RX6 ∧ yX6_isJoined.cls ≠ "java/lang/invoke/MethodHandle" ∧ yX6_isJoined.cls ≠ "java/lang/invoke/VarHandle" ∧ (parseMethodDescriptor yX6_isJoined.desc).map (fun d => d.parameters.length) = some 2 := by decide +kernel
abbrev wX6_isJoined (G : Gt) (a_eb a_desk a_desk_routes a_desk_routes_a a_kept a_tape a_text a_plan a_mat a_desk_boxes a_desk_words a_desk_weeks a_desk_offers a_desk_wants a_desk_leaves a_desk_leases a_desk_uses : Nat) (isKept : Int32) (planStands : Int32) (today : Int32) (lack : Int32) (rate : Int32) (free : Int32) (routes_r : Int32) (routes_f : (Nat → Int32)) : va_W := [(a_eb, .inr (6, [.ref a_desk, .ref a_kept, .ref a_tape, .ref a_text, .ref a_plan, .ref a_mat, .int isKept, .int planStands])), (a_desk, .inr (0, [.ref a_desk_boxes, .ref a_desk_words, .ref a_desk_weeks, .ref a_desk_routes, .ref a_desk_offers, .ref a_desk_wants, .ref a_desk_leaves, .ref a_desk_leases, .ref a_desk_uses, .int today, .int lack, .int rate, .int free])), (a_desk_routes, .inr (4, [.ref a_desk_routes_a, .int (5 : Int32), .int (10 : Int32), .int routes_r])), (a_desk_routes_a, .inl (G.2.1, 50, .inl routes_f))]
abbrev rmX6_isJoined : Room := { frames := 2, cells := 0, slots := 0, locals := 44 }
theorem iX6_isJoined_X0 : ∀ w ∈ wsX00, w ∈ wsX6_isJoined := by decide +kernel
theorem iX6_isJoined_X6 : ∀ w ∈ wsX60, w ∈ wsX6_isJoined := by decide +kernel
theorem eX6_isJoined_12 : Fk wsX6_isJoined RX6 12 6 0 := ⟨RX6, TX6, 8, rfl, iX6_isJoined_X6, by decide, by decide +kernel⟩
theorem eX6_isJoined_176 : Fk wsX6_isJoined RX6 176 0 3 := ⟨RX0, TX0, 13, rfl, iX6_isJoined_X0, by decide, by decide +kernel⟩
theorem ckX6_isJoined_X4_cell_113 : CkV wsX6_isJoined RX6 113 yX4_cell wsX4_cell cX4_cell 3 (some .int) 2 4 := ⟨RX4, TX4, 4, _, rfl, gX6_isJoined_X4_cell, rfl, hdX4_cell⟩
theorem ckX6_isJoined_X4_size_117 : CkV wsX6_isJoined RX6 117 yX4_size wsX4_size cX4_size 1 (some .int) 0 4 := ⟨RX4, TX4, 4, _, rfl, gX6_isJoined_X4_size, rfl, hdX4_size⟩
variable {p : Program} {l : Launch} {e : Env} {s : State} {m : MethodId} {args : Array Value} {below : List Frame} {meth : Method} {c : Code} {A : Nat → Prop} {G : Gt} {a_eb a_desk a_desk_routes a_desk_routes_a a_kept a_tape a_text a_plan a_mat a_desk_boxes a_desk_words a_desk_weeks a_desk_offers a_desk_wants a_desk_leaves a_desk_leases a_desk_uses : Nat} {isKept : Int32} {planStands : Int32} {today : Int32} {lack : Int32} {rate : Int32} {free : Int32} {routes_r : Int32} {routes_f : (Nat → Int32)} {res : Int32}
set_option maxHeartbeats 4000000 in
set_option maxRecDepth 100000 in
theorem tX6_isJoined_92 (X : Bx p s m args meth c cX6_isJoined 7 wsX6_isJoined RX6 (some .boolean)) (v1 : Int32) (v2 : Int32) (v4 : Int32) (t0 : Int32) (k_14 : Int32 → Int32 → Option (Int32)) (Hk_14 : ∀ (v3 : Int32) (v4 : Int32), k_14 v3 v4 = some res → ∀ (H : Heap) (locs : List Loc), Wo G A s (wX6_isJoined G a_eb a_desk a_desk_routes a_desk_routes_a a_kept a_tape a_text a_plan a_mat a_desk_boxes a_desk_words a_desk_weeks a_desk_offers a_desk_wants a_desk_leaves a_desk_leases a_desk_uses isKept planStands today lack rate free routes_r routes_f) H locs → ∀ ls : Array Slot, lv_has ls 7 [(0, .ref a_eb), (1, .int v1), (2, .int v2), (3, .int v3), (4, .int v4)] → W p l e rmX6_isJoined s m args below meth c H locs 0 0 (QI G A below args s res (wX6_isJoined G a_eb a_desk a_desk_routes a_desk_routes_a a_kept a_tape a_text a_plan a_mat a_desk_boxes a_desk_words a_desk_weeks a_desk_offers a_desk_wants a_desk_leaves a_desk_leases a_desk_uses isKept planStands today lack rate free routes_r routes_f)) (F0 m 14 ls [])) (h : fX6_isJoined_92 k_14 v4 t0 = some res) : ∀ (H : Heap) (locs : List Loc), Wo G A s (wX6_isJoined G a_eb a_desk a_desk_routes a_desk_routes_a a_kept a_tape a_text a_plan a_mat a_desk_boxes a_desk_words a_desk_weeks a_desk_offers a_desk_wants a_desk_leaves a_desk_leases a_desk_uses isKept planStands today lack rate free routes_r routes_f) H locs → ∀ ls : Array Slot, lv_has ls 7 [(0, .ref a_eb), (1, .int v1), (2, .int v2), (4, .int v4)] → W p l e rmX6_isJoined s m args below meth c H locs 0 0 (QI G A below args s res (wX6_isJoined G a_eb a_desk a_desk_routes a_desk_routes_a a_kept a_tape a_text a_plan a_mat a_desk_boxes a_desk_words a_desk_weeks a_desk_offers a_desk_wants a_desk_leaves a_desk_leases a_desk_uses isKept planStands today lack rate free routes_r routes_f)) (F0 m 92 ls [.int t0]) := by
  obtain ⟨hx, hb, -⟩ := id X.1
  intro H locs hW ls hl
  rw [fX6_isJoined_92] at h
  refine lv_istore_n (lv' := [(3, .int t0), (0, .ref a_eb), (1, .int v1), (2, .int v2), (4, .int v4)]) hx hb dX6_isJoined_92 rfl hl (by decide) rfl (fun ls hl => ?_)
  refine lv_iinc (v := (v4 + (1 : Int32))) (lv' := [(4, .int (v4 + (1 : Int32))), (3, .int t0), (0, .ref a_eb), (1, .int v1), (2, .int v2)]) hx hb dX6_isJoined_93 hl (k := 4) rfl (congrArg (fun z => v4 + z) qI_1) (by decide) rfl (fun ls hl => ?_)
  refine lv_goto (tgt := 14) hx hb dX6_isJoined_96 (by decide) ?_
  exact Hk_14 t0 (v4 + (1 : Int32)) h H locs hW ls (lv_sub hl [2, 3, 4, 1, 0] rfl)
set_option maxHeartbeats 4000000 in
set_option maxRecDepth 100000 in
theorem tX6_isJoined_91 (X : Bx p s m args meth c cX6_isJoined 7 wsX6_isJoined RX6 (some .boolean)) (v1 : Int32) (v2 : Int32) (v4 : Int32) (k_14 : Int32 → Int32 → Option (Int32)) (Hk_14 : ∀ (v3 : Int32) (v4 : Int32), k_14 v3 v4 = some res → ∀ (H : Heap) (locs : List Loc), Wo G A s (wX6_isJoined G a_eb a_desk a_desk_routes a_desk_routes_a a_kept a_tape a_text a_plan a_mat a_desk_boxes a_desk_words a_desk_weeks a_desk_offers a_desk_wants a_desk_leaves a_desk_leases a_desk_uses isKept planStands today lack rate free routes_r routes_f) H locs → ∀ ls : Array Slot, lv_has ls 7 [(0, .ref a_eb), (1, .int v1), (2, .int v2), (3, .int v3), (4, .int v4)] → W p l e rmX6_isJoined s m args below meth c H locs 0 0 (QI G A below args s res (wX6_isJoined G a_eb a_desk a_desk_routes a_desk_routes_a a_kept a_tape a_text a_plan a_mat a_desk_boxes a_desk_words a_desk_weeks a_desk_offers a_desk_wants a_desk_leaves a_desk_leases a_desk_uses isKept planStands today lack rate free routes_r routes_f)) (F0 m 14 ls [])) (h : fX6_isJoined_91 k_14 v4 = some res) : ∀ (H : Heap) (locs : List Loc), Wo G A s (wX6_isJoined G a_eb a_desk a_desk_routes a_desk_routes_a a_kept a_tape a_text a_plan a_mat a_desk_boxes a_desk_words a_desk_weeks a_desk_offers a_desk_wants a_desk_leaves a_desk_leases a_desk_uses isKept planStands today lack rate free routes_r routes_f) H locs → ∀ ls : Array Slot, lv_has ls 7 [(0, .ref a_eb), (1, .int v1), (2, .int v2), (4, .int v4)] → W p l e rmX6_isJoined s m args below meth c H locs 0 0 (QI G A below args s res (wX6_isJoined G a_eb a_desk a_desk_routes a_desk_routes_a a_kept a_tape a_text a_plan a_mat a_desk_boxes a_desk_words a_desk_weeks a_desk_offers a_desk_wants a_desk_leaves a_desk_leases a_desk_uses isKept planStands today lack rate free routes_r routes_f)) (F0 m 91 ls []) := by
  obtain ⟨hx, hb, -⟩ := id X.1
  intro H locs hW ls hl
  rw [fX6_isJoined_91] at h
  refine lv_iconst hx hb dX6_isJoined_91 qI_0 ?_
  exact tX6_isJoined_92 X v1 v2 v4 (0 : Int32) k_14 Hk_14 h H locs hW ls hl
set_option maxHeartbeats 4000000 in
set_option maxRecDepth 100000 in
theorem tX6_isJoined_87 (X : Bx p s m args meth c cX6_isJoined 7 wsX6_isJoined RX6 (some .boolean)) (v1 : Int32) (v2 : Int32) (v4 : Int32) (k_14 : Int32 → Int32 → Option (Int32)) (Hk_14 : ∀ (v3 : Int32) (v4 : Int32), k_14 v3 v4 = some res → ∀ (H : Heap) (locs : List Loc), Wo G A s (wX6_isJoined G a_eb a_desk a_desk_routes a_desk_routes_a a_kept a_tape a_text a_plan a_mat a_desk_boxes a_desk_words a_desk_weeks a_desk_offers a_desk_wants a_desk_leaves a_desk_leases a_desk_uses isKept planStands today lack rate free routes_r routes_f) H locs → ∀ ls : Array Slot, lv_has ls 7 [(0, .ref a_eb), (1, .int v1), (2, .int v2), (3, .int v3), (4, .int v4)] → W p l e rmX6_isJoined s m args below meth c H locs 0 0 (QI G A below args s res (wX6_isJoined G a_eb a_desk a_desk_routes a_desk_routes_a a_kept a_tape a_text a_plan a_mat a_desk_boxes a_desk_words a_desk_weeks a_desk_offers a_desk_wants a_desk_leaves a_desk_leases a_desk_uses isKept planStands today lack rate free routes_r routes_f)) (F0 m 14 ls [])) (h : fX6_isJoined_87 k_14 v4 = some res) : ∀ (H : Heap) (locs : List Loc), Wo G A s (wX6_isJoined G a_eb a_desk a_desk_routes a_desk_routes_a a_kept a_tape a_text a_plan a_mat a_desk_boxes a_desk_words a_desk_weeks a_desk_offers a_desk_wants a_desk_leaves a_desk_leases a_desk_uses isKept planStands today lack rate free routes_r routes_f) H locs → ∀ ls : Array Slot, lv_has ls 7 [(0, .ref a_eb), (1, .int v1), (2, .int v2), (4, .int v4)] → W p l e rmX6_isJoined s m args below meth c H locs 0 0 (QI G A below args s res (wX6_isJoined G a_eb a_desk a_desk_routes a_desk_routes_a a_kept a_tape a_text a_plan a_mat a_desk_boxes a_desk_words a_desk_weeks a_desk_offers a_desk_wants a_desk_leaves a_desk_leases a_desk_uses isKept planStands today lack rate free routes_r routes_f)) (F0 m 87 ls []) := by
  obtain ⟨hx, hb, -⟩ := id X.1
  intro H locs hW ls hl
  rw [fX6_isJoined_87] at h
  refine lv_iconst hx hb dX6_isJoined_87 qI_1 ?_
  refine lv_goto (tgt := 92) hx hb dX6_isJoined_88 (by decide) ?_
  exact tX6_isJoined_92 X v1 v2 v4 (1 : Int32) k_14 Hk_14 h H locs hW ls hl
set_option maxHeartbeats 4000000 in
set_option maxRecDepth 100000 in
theorem tX6_isJoined_75 (X : Bx p s m args meth c cX6_isJoined 7 wsX6_isJoined RX6 (some .boolean)) (v1 : Int32) (v2 : Int32) (v4 : Int32) (v5 : Int32) (v6 : Int32) (k_14 : Int32 → Int32 → Option (Int32)) (Hk_14 : ∀ (v3 : Int32) (v4 : Int32), k_14 v3 v4 = some res → ∀ (H : Heap) (locs : List Loc), Wo G A s (wX6_isJoined G a_eb a_desk a_desk_routes a_desk_routes_a a_kept a_tape a_text a_plan a_mat a_desk_boxes a_desk_words a_desk_weeks a_desk_offers a_desk_wants a_desk_leaves a_desk_leases a_desk_uses isKept planStands today lack rate free routes_r routes_f) H locs → ∀ ls : Array Slot, lv_has ls 7 [(0, .ref a_eb), (1, .int v1), (2, .int v2), (3, .int v3), (4, .int v4)] → W p l e rmX6_isJoined s m args below meth c H locs 0 0 (QI G A below args s res (wX6_isJoined G a_eb a_desk a_desk_routes a_desk_routes_a a_kept a_tape a_text a_plan a_mat a_desk_boxes a_desk_words a_desk_weeks a_desk_offers a_desk_wants a_desk_leaves a_desk_leases a_desk_uses isKept planStands today lack rate free routes_r routes_f)) (F0 m 14 ls [])) (h : fX6_isJoined_75 k_14 v1 v2 v4 v5 v6 = some res) : ∀ (H : Heap) (locs : List Loc), Wo G A s (wX6_isJoined G a_eb a_desk a_desk_routes a_desk_routes_a a_kept a_tape a_text a_plan a_mat a_desk_boxes a_desk_words a_desk_weeks a_desk_offers a_desk_wants a_desk_leaves a_desk_leases a_desk_uses isKept planStands today lack rate free routes_r routes_f) H locs → ∀ ls : Array Slot, lv_has ls 7 [(0, .ref a_eb), (1, .int v1), (2, .int v2), (4, .int v4), (5, .int v5), (6, .int v6)] → W p l e rmX6_isJoined s m args below meth c H locs 0 0 (QI G A below args s res (wX6_isJoined G a_eb a_desk a_desk_routes a_desk_routes_a a_kept a_tape a_text a_plan a_mat a_desk_boxes a_desk_words a_desk_weeks a_desk_offers a_desk_wants a_desk_leaves a_desk_leases a_desk_uses isKept planStands today lack rate free routes_r routes_f)) (F0 m 75 ls []) := by
  obtain ⟨hx, hb, -⟩ := id X.1
  intro H locs hW ls hl
  rw [fX6_isJoined_75] at h
  refine lv_iload hx hb dX6_isJoined_75 (lv_at hl 4 rfl) ?_
  refine lv_iload_n hx hb dX6_isJoined_77 rfl (lv_at hl 2 rfl) ?_
  refine lv_icmp_ne (tgt := 91) hx hb dX6_isJoined_78 (by decide) (fun c9 => ?_) (fun c9 => ?_)
  · have h := (if_neg c9).symm.trans h
    exact tX6_isJoined_91 X v1 v2 v4 k_14 Hk_14 h H locs hW ls (lv_sub hl [0, 1, 2, 3] rfl)
  · have h := (if_pos c9).symm.trans h
    refine lv_iload hx hb dX6_isJoined_81 (lv_at hl 5 rfl) ?_
    refine lv_iload_n hx hb dX6_isJoined_83 rfl (lv_at hl 1 rfl) ?_
    refine lv_icmp_ne (tgt := 91) hx hb dX6_isJoined_84 (by decide) (fun c12 => ?_) (fun c12 => ?_)
    · have h := (if_neg c12).symm.trans h
      exact tX6_isJoined_91 X v1 v2 v4 k_14 Hk_14 h H locs hW ls (lv_sub hl [0, 1, 2, 3] rfl)
    · have h := (if_pos c12).symm.trans h
      exact tX6_isJoined_87 X v1 v2 v4 k_14 Hk_14 h H locs hW ls (lv_sub hl [0, 1, 2, 3] rfl)
set_option maxHeartbeats 4000000 in
set_option maxRecDepth 100000 in
theorem tX6_isJoined_14 (X : Bx p s m args meth c cX6_isJoined 7 wsX6_isJoined RX6 (some .boolean)) (v1 : Int32) (v2 : Int32)   : ∀ (n : Nat) (v3 : Int32) (v4 : Int32), fX6_isJoined_14 v1 v2 routes_r routes_f n v3 v4 = some res → ∀ (H : Heap) (locs : List Loc), Wo G A s (wX6_isJoined G a_eb a_desk a_desk_routes a_desk_routes_a a_kept a_tape a_text a_plan a_mat a_desk_boxes a_desk_words a_desk_weeks a_desk_offers a_desk_wants a_desk_leaves a_desk_leases a_desk_uses isKept planStands today lack rate free routes_r routes_f) H locs → ∀ ls : Array Slot, lv_has ls 7 [(0, .ref a_eb), (1, .int v1), (2, .int v2), (3, .int v3), (4, .int v4)] → W p l e rmX6_isJoined s m args below meth c H locs 0 0 (QI G A below args s res (wX6_isJoined G a_eb a_desk a_desk_routes a_desk_routes_a a_kept a_tape a_text a_plan a_mat a_desk_boxes a_desk_words a_desk_weeks a_desk_offers a_desk_wants a_desk_leaves a_desk_leases a_desk_uses isKept planStands today lack rate free routes_r routes_f)) (F0 m 14 ls []) := by
  obtain ⟨hx, hb, -⟩ := id X.1
  intro n
  induction n with
  | zero => intro v3 v4 h; rw [fX6_isJoined_14] at h; cases h
  | succ n ih =>
    intro v3 v4 h H locs hW ls hl
    rw [fX6_isJoined_14] at h
    refine lv_iload hx hb dX6_isJoined_14 (lv_at hl 4 rfl) ?_
    refine lv_aload_n hx hb dX6_isJoined_16 rfl (lv_at hl 0 rfl) ?_
    refine g_get X hW eX6_isJoined_12 0 rfl rfl dX6_isJoined_17 ?_
    refine g_get X hW eX6_isJoined_176 1 rfl rfl dX6_isJoined_20 ?_
    obtain ⟨r17, hq, h⟩ := bn1_some h
    refine g_cvi X hW (As := []) (ws' := (wX6_isJoined G a_eb a_desk a_desk_routes a_desk_routes_a a_kept a_tape a_text a_plan a_mat a_desk_boxes a_desk_words a_desk_weeks a_desk_offers a_desk_wants a_desk_leaves a_desk_leases a_desk_uses isKept planStands today lack rate free routes_r routes_f)) ckX6_isJoined_X4_size_117 (kcX4_size (l := l) G a_desk_routes a_desk_routes_a (5 : Int32) (10 : Int32) routes_r hq) ⟨rfl, rfl, Nat.le_of_ble_eq_true rfl, Nat.le_of_ble_eq_true rfl⟩ [2] rfl rfl rfl rfl rfl rfl rfl hl.1 (Nat.le_of_ble_eq_true rfl) ⟨Nat.zero_le _, Nat.zero_le _⟩ dX6_isJoined_23 (fun H locs hW => ?_)
    refine lv_icmp_ge (tgt := 99) hx hb dX6_isJoined_26 (by decide) (fun c18 => ?_) (fun c18 => ?_)
    · have h := (if_pos c18).symm.trans h
      refine lv_iload_n hx hb dX6_isJoined_99 rfl (lv_at hl 3 rfl) ?_
      obtain ⟨g20, h⟩ := gd_some h
      obtain rfl := Option.some.inj h
      exact g_zret X hW g20 dX6_isJoined_100
    · have h := (if_neg c18).symm.trans h
      refine lv_iload_n hx hb dX6_isJoined_29 rfl (lv_at hl 3 rfl) ?_
      refine lv_if_ne (tgt := 99) hx hb dX6_isJoined_30 (by decide) (fun c22 => ?_) (fun c22 => ?_)
      · have h := (if_neg c22).symm.trans h
        refine lv_iload_n hx hb dX6_isJoined_99 rfl (lv_at hl 3 rfl) ?_
        obtain ⟨g24, h⟩ := gd_some h
        obtain rfl := Option.some.inj h
        exact g_zret X hW g24 dX6_isJoined_100
      · have h := (if_pos c22).symm.trans h
        refine lv_aload_n hx hb dX6_isJoined_33 rfl (lv_at hl 0 rfl) ?_
        refine g_get X hW eX6_isJoined_12 0 rfl rfl dX6_isJoined_34 ?_
        refine g_get X hW eX6_isJoined_176 1 rfl rfl dX6_isJoined_37 ?_
        refine lv_iload hx hb dX6_isJoined_40 (lv_at hl 4 rfl) ?_
        refine lv_iconst hx hb dX6_isJoined_42 qI_0 ?_
        obtain ⟨r30, hq, h⟩ := bn1_some h
        refine g_cvi X hW (As := [.int v4, .int (0 : Int32)]) (ws' := (wX6_isJoined G a_eb a_desk a_desk_routes a_desk_routes_a a_kept a_tape a_text a_plan a_mat a_desk_boxes a_desk_words a_desk_weeks a_desk_offers a_desk_wants a_desk_leaves a_desk_leases a_desk_uses isKept planStands today lack rate free routes_r routes_f)) ckX6_isJoined_X4_cell_113 (kcX4_cell (l := l) G a_desk_routes a_desk_routes_a v4 (0 : Int32) (5 : Int32) (10 : Int32) routes_r 50 routes_f hq) ⟨rfl, rfl, Nat.le_of_ble_eq_true rfl, Nat.le_of_ble_eq_true rfl⟩ [2, 3] rfl rfl rfl rfl rfl rfl rfl hl.1 (Nat.le_of_ble_eq_true rfl) ⟨Nat.zero_le _, Nat.zero_le _⟩ dX6_isJoined_43 (fun H locs hW => ?_)
        refine lv_istore (lv' := [(5, .int r30), (0, .ref a_eb), (1, .int v1), (2, .int v2), (3, .int v3), (4, .int v4)]) hx hb dX6_isJoined_46 hl (by decide) rfl (fun ls hl => ?_)
        refine lv_aload_n hx hb dX6_isJoined_48 rfl (lv_at hl 1 rfl) ?_
        refine g_get X hW eX6_isJoined_12 0 rfl rfl dX6_isJoined_49 ?_
        refine g_get X hW eX6_isJoined_176 1 rfl rfl dX6_isJoined_52 ?_
        refine lv_iload hx hb dX6_isJoined_55 (lv_at hl 5 rfl) ?_
        refine lv_iconst hx hb dX6_isJoined_57 qI_1 ?_
        obtain ⟨r37, hq, h⟩ := bn1_some h
        refine g_cvi X hW (As := [.int v4, .int (1 : Int32)]) (ws' := (wX6_isJoined G a_eb a_desk a_desk_routes a_desk_routes_a a_kept a_tape a_text a_plan a_mat a_desk_boxes a_desk_words a_desk_weeks a_desk_offers a_desk_wants a_desk_leaves a_desk_leases a_desk_uses isKept planStands today lack rate free routes_r routes_f)) ckX6_isJoined_X4_cell_113 (kcX4_cell (l := l) G a_desk_routes a_desk_routes_a v4 (1 : Int32) (5 : Int32) (10 : Int32) routes_r 50 routes_f hq) ⟨rfl, rfl, Nat.le_of_ble_eq_true rfl, Nat.le_of_ble_eq_true rfl⟩ [2, 3] rfl rfl rfl rfl rfl rfl rfl hl.1 (Nat.le_of_ble_eq_true rfl) ⟨Nat.zero_le _, Nat.zero_le _⟩ dX6_isJoined_58 (fun H locs hW => ?_)
        refine lv_istore (lv' := [(6, .int r37), (5, .int r30), (0, .ref a_eb), (1, .int v1), (2, .int v2), (3, .int v3), (4, .int v4)]) hx hb dX6_isJoined_61 hl (by decide) rfl (fun ls hl => ?_)
        refine lv_iload hx hb dX6_isJoined_63 (lv_at hl 1 rfl) ?_
        refine lv_iload_n hx hb dX6_isJoined_65 rfl (lv_at hl 3 rfl) ?_
        refine lv_icmp_ne (tgt := 75) hx hb dX6_isJoined_66 (by decide) (fun c41 => ?_) (fun c41 => ?_)
        · have h := (if_neg c41).symm.trans h
          exact tX6_isJoined_75 X v1 v2 v4 r30 r37 (fun v3 v4 => fX6_isJoined_14 v1 v2 routes_r routes_f n v3 v4) ih h H locs hW ls (lv_sub hl [2, 3, 4, 6, 1, 0] rfl)
        · have h := (if_pos c41).symm.trans h
          refine lv_iload hx hb dX6_isJoined_69 (lv_at hl 0 rfl) ?_
          refine lv_iload_n hx hb dX6_isJoined_71 rfl (lv_at hl 4 rfl) ?_
          refine lv_icmp_eq (tgt := 87) hx hb dX6_isJoined_72 (by decide) (fun c44 => ?_) (fun c44 => ?_)
          · have h := (if_pos c44).symm.trans h
            exact tX6_isJoined_87 X v1 v2 v4 (fun v3 v4 => fX6_isJoined_14 v1 v2 routes_r routes_f n v3 v4) ih h H locs hW ls (lv_sub hl [2, 3, 4, 6] rfl)
          · have h := (if_neg c44).symm.trans h
            exact tX6_isJoined_75 X v1 v2 v4 r30 r37 (fun v3 v4 => fX6_isJoined_14 v1 v2 routes_r routes_f n v3 v4) ih h H locs hW ls (lv_sub hl [2, 3, 4, 6, 1, 0] rfl)
set_option maxHeartbeats 4000000 in
set_option maxRecDepth 100000 in
theorem tX6_isJoined_10 (X : Bx p s m args meth c cX6_isJoined 7 wsX6_isJoined RX6 (some .boolean)) (v1 : Int32) (v2 : Int32) (t0 : Int32)   (h : fX6_isJoined_10 v1 v2 t0 routes_r routes_f = some res) : ∀ (H : Heap) (locs : List Loc), Wo G A s (wX6_isJoined G a_eb a_desk a_desk_routes a_desk_routes_a a_kept a_tape a_text a_plan a_mat a_desk_boxes a_desk_words a_desk_weeks a_desk_offers a_desk_wants a_desk_leaves a_desk_leases a_desk_uses isKept planStands today lack rate free routes_r routes_f) H locs → ∀ ls : Array Slot, lv_has ls 7 [(0, .ref a_eb), (1, .int v1), (2, .int v2)] → W p l e rmX6_isJoined s m args below meth c H locs 0 0 (QI G A below args s res (wX6_isJoined G a_eb a_desk a_desk_routes a_desk_routes_a a_kept a_tape a_text a_plan a_mat a_desk_boxes a_desk_words a_desk_weeks a_desk_offers a_desk_wants a_desk_leaves a_desk_leases a_desk_uses isKept planStands today lack rate free routes_r routes_f)) (F0 m 10 ls [.int t0]) := by
  obtain ⟨hx, hb, -⟩ := id X.1
  intro H locs hW ls hl
  rw [fX6_isJoined_10] at h
  refine lv_istore_n (lv' := [(3, .int t0), (0, .ref a_eb), (1, .int v1), (2, .int v2)]) hx hb dX6_isJoined_10 rfl hl (by decide) rfl (fun ls hl => ?_)
  refine lv_iconst hx hb dX6_isJoined_11 qI_0 ?_
  refine lv_istore (lv' := [(4, .int (0 : Int32)), (3, .int t0), (0, .ref a_eb), (1, .int v1), (2, .int v2)]) hx hb dX6_isJoined_12 hl (by decide) rfl (fun ls hl => ?_)
  exact tX6_isJoined_14 X v1 v2 FU t0 (0 : Int32) h H locs hW ls (lv_sub hl [2, 3, 4, 1, 0] rfl)
set_option maxHeartbeats 4000000 in
set_option maxRecDepth 100000 in
theorem k0X6_isJoined {l : Launch} (G : Gt) (a_eb a_desk a_desk_routes a_desk_routes_a a_kept a_tape a_text a_plan a_mat a_desk_boxes a_desk_words a_desk_weeks a_desk_offers a_desk_wants a_desk_leaves a_desk_leases a_desk_uses : Nat) (v1 : Int32) (v2 : Int32) (isKept : Int32) (planStands : Int32) (today : Int32) (lack : Int32) (rate : Int32) (free : Int32) (routes_r : Int32) (routes_f : (Nat → Int32)) {res : Int32} (h : fX6_isJoined v1 v2 routes_r routes_f = some res) : CtI G l yX6_isJoined wsX6_isJoined rmX6_isJoined [.ref a_eb, .int v1, .int v2] (wX6_isJoined G a_eb a_desk a_desk_routes a_desk_routes_a a_kept a_tape a_text a_plan a_mat a_desk_boxes a_desk_words a_desk_weeks a_desk_offers a_desk_wants a_desk_leaves a_desk_leases a_desk_uses isKept planStands today lack rate free routes_r routes_f) res (wX6_isJoined G a_eb a_desk a_desk_routes a_desk_routes_a a_kept a_tape a_text a_plan a_mat a_desk_boxes a_desk_words a_desk_weeks a_desk_offers a_desk_wants a_desk_leaves a_desk_leases a_desk_uses isKept planStands today lack rate free routes_r routes_f) := by
  refine CtI.mk (cc := cX6_isJoined) (maxL := 7) (ret := (some .boolean)) (own := RX6) (by decide) rfl rfl (Nat.le_of_ble_eq_true rfl) ?_
  intro p e s m below meth c A X ls hl hW
  obtain ⟨hx, hb, -⟩ := id X.1
  have hl : lv_has ls 7 [(0, .ref a_eb), (1, .int v1), (2, .int v2)] := hl
  generalize hH : s.heap = H at hW ⊢
  generalize hLo : ([] : List Loc) = locs at hW ⊢
  rw [fX6_isJoined] at h
  refine lv_iload_n hx hb dX6_isJoined_0 rfl (lv_at hl 1 rfl) ?_
  refine lv_iload_n hx hb dX6_isJoined_1 rfl (lv_at hl 2 rfl) ?_
  refine lv_icmp_ne (tgt := 9) hx hb dX6_isJoined_2 (by decide) (fun c50 => ?_) (fun c50 => ?_)
  · have h := (if_neg c50).symm.trans h
    refine lv_iconst hx hb dX6_isJoined_9 qI_0 ?_
    exact tX6_isJoined_10 X v1 v2 (0 : Int32) h H locs hW ls hl
  · have h := (if_pos c50).symm.trans h
    refine lv_iconst hx hb dX6_isJoined_5 qI_1 ?_
    refine lv_goto (tgt := 10) hx hb dX6_isJoined_6 (by decide) ?_
    exact tX6_isJoined_10 X v1 v2 (1 : Int32) h H locs hW ls hl
theorem kcX6_isJoined {l : Launch} (G : Gt) (a_eb a_desk a_desk_routes a_desk_routes_a a_kept a_tape a_text a_plan a_mat a_desk_boxes a_desk_words a_desk_weeks a_desk_offers a_desk_wants a_desk_leaves a_desk_leases a_desk_uses : Nat) (v1 : Int32) (v2 : Int32) (isKept : Int32) (planStands : Int32) (today : Int32) (lack : Int32) (rate : Int32) (free : Int32) (routes_r : Int32) (routes_f : (Nat → Int32)) {r : Int32}  (h : fX6_isJoined v1 v2 routes_r routes_f = some r) : CtI G l yX6_isJoined wsX6_isJoined rmX6_isJoined [.ref a_eb, .int v1, .int v2] (wX6_isJoined G a_eb a_desk a_desk_routes a_desk_routes_a a_kept a_tape a_text a_plan a_mat a_desk_boxes a_desk_words a_desk_weeks a_desk_offers a_desk_wants a_desk_leaves a_desk_leases a_desk_uses isKept planStands today lack rate free routes_r routes_f) r (wX6_isJoined G a_eb a_desk a_desk_routes a_desk_routes_a a_kept a_tape a_text a_plan a_mat a_desk_boxes a_desk_words a_desk_weeks a_desk_offers a_desk_wants a_desk_leaves a_desk_leases a_desk_uses isKept planStands today lack rate free routes_r routes_f) := k0X6_isJoined G a_eb a_desk a_desk_routes a_desk_routes_a a_kept a_tape a_text a_plan a_mat a_desk_boxes a_desk_words a_desk_weeks a_desk_offers a_desk_wants a_desk_leaves a_desk_leases a_desk_uses v1 v2 isKept planStands today lack rate free routes_r routes_f h
end MX6_isJoined
/-! EmptyBoxes.isSuited -/
section MX6_isSuited
theorem hdX6_isSuited : yX6_isSuited.cls = RX6 ∧ yX6_isSuited.cls ≠ "java/lang/invoke/MethodHandle" ∧ yX6_isSuited.cls ≠ "java/lang/invoke/VarHandle" ∧ (parseMethodDescriptor yX6_isSuited.desc).map (fun d => d.parameters.length) = some 2 := by decide +kernel
abbrev wX6_isSuited (G : Gt) (a_eb a_desk a_desk_routes a_desk_routes_a a_desk_offers a_desk_offers_a a_desk_wants a_desk_wants_a a_desk_leaves a_desk_leaves_a a_kept a_tape a_text a_plan a_mat a_desk_boxes a_desk_words a_desk_weeks a_desk_leases a_desk_uses : Nat) (isKept : Int32) (planStands : Int32) (today : Int32) (lack : Int32) (rate : Int32) (free : Int32) (routes_r : Int32) (routes_f : (Nat → Int32)) (offers_r : Int32) (offers_f : (Nat → Int32)) (wants_r : Int32) (wants_f : (Nat → Int32)) (leaves_r : Int32) (leaves_f : (Nat → Int32)) : va_W := [(a_eb, .inr (6, [.ref a_desk, .ref a_kept, .ref a_tape, .ref a_text, .ref a_plan, .ref a_mat, .int isKept, .int planStands])), (a_desk, .inr (0, [.ref a_desk_boxes, .ref a_desk_words, .ref a_desk_weeks, .ref a_desk_routes, .ref a_desk_offers, .ref a_desk_wants, .ref a_desk_leaves, .ref a_desk_leases, .ref a_desk_uses, .int today, .int lack, .int rate, .int free])), (a_desk_routes, .inr (4, [.ref a_desk_routes_a, .int (5 : Int32), .int (10 : Int32), .int routes_r])), (a_desk_routes_a, .inl (G.2.1, 50, .inl routes_f)), (a_desk_offers, .inr (4, [.ref a_desk_offers_a, .int (5 : Int32), .int (7 : Int32), .int offers_r])), (a_desk_offers_a, .inl (G.2.1, 35, .inl offers_f)), (a_desk_wants, .inr (4, [.ref a_desk_wants_a, .int (5 : Int32), .int (7 : Int32), .int wants_r])), (a_desk_wants_a, .inl (G.2.1, 35, .inl wants_f)), (a_desk_leaves, .inr (4, [.ref a_desk_leaves_a, .int (4 : Int32), .int (4 : Int32), .int leaves_r])), (a_desk_leaves_a, .inl (G.2.1, 16, .inl leaves_f))]
abbrev rmX6_isSuited : Room := { frames := 4, cells := 0, slots := 0, locals := 88 }
theorem iX6_isSuited_X0 : ∀ w ∈ wsX00, w ∈ wsX6_isSuited := by decide +kernel
theorem iX6_isSuited_X6 : ∀ w ∈ wsX60, w ∈ wsX6_isSuited := by decide +kernel
theorem eX6_isSuited_12 : Fk wsX6_isSuited RX6 12 6 0 := ⟨RX6, TX6, 8, rfl, iX6_isSuited_X6, by decide, by decide +kernel⟩
theorem eX6_isSuited_195 : Fk wsX6_isSuited RX6 195 0 5 := ⟨RX0, TX0, 13, rfl, iX6_isSuited_X0, by decide, by decide +kernel⟩
theorem eX6_isSuited_198 : Fk wsX6_isSuited RX6 198 0 4 := ⟨RX0, TX0, 13, rfl, iX6_isSuited_X0, by decide, by decide +kernel⟩
theorem ckX6_isSuited_X4_cell_113 : CkV wsX6_isSuited RX6 113 yX4_cell wsX4_cell cX4_cell 3 (some .int) 2 4 := ⟨RX4, TX4, 4, _, rfl, gX6_isSuited_X4_cell, rfl, hdX4_cell⟩
theorem ckX6_isSuited_X6_isJoined_228 : CkV wsX6_isSuited RX6 228 yX6_isJoined wsX6_isJoined cX6_isJoined 7 (some .boolean) 2 6 := ⟨RX6, TX6, 8, _, rfl, gX6_isSuited_X6_isJoined, rfl, hdX6_isJoined⟩
theorem ckX6_isSuited_X6_isSharing_225 : CkV wsX6_isSuited RX6 225 yX6_isSharing wsX6_isSharing cX6_isSharing 3 (some .boolean) 2 6 := ⟨RX6, TX6, 8, _, rfl, gX6_isSuited_X6_isSharing, rfl, hdX6_isSharing⟩
variable {p : Program} {l : Launch} {e : Env} {s : State} {m : MethodId} {args : Array Value} {below : List Frame} {meth : Method} {c : Code} {A : Nat → Prop} {G : Gt} {a_eb a_desk a_desk_routes a_desk_routes_a a_desk_offers a_desk_offers_a a_desk_wants a_desk_wants_a a_desk_leaves a_desk_leaves_a a_kept a_tape a_text a_plan a_mat a_desk_boxes a_desk_words a_desk_weeks a_desk_leases a_desk_uses : Nat} {isKept : Int32} {planStands : Int32} {today : Int32} {lack : Int32} {rate : Int32} {free : Int32} {routes_r : Int32} {routes_f : (Nat → Int32)} {offers_r : Int32} {offers_f : (Nat → Int32)} {wants_r : Int32} {wants_f : (Nat → Int32)} {leaves_r : Int32} {leaves_f : (Nat → Int32)} {res : Int32}
set_option maxHeartbeats 4000000 in
set_option maxRecDepth 100000 in
theorem k0X6_isSuited {l : Launch} (G : Gt) (a_eb a_desk a_desk_routes a_desk_routes_a a_desk_offers a_desk_offers_a a_desk_wants a_desk_wants_a a_desk_leaves a_desk_leaves_a a_kept a_tape a_text a_plan a_mat a_desk_boxes a_desk_words a_desk_weeks a_desk_leases a_desk_uses : Nat) (v1 : Int32) (v2 : Int32) (isKept : Int32) (planStands : Int32) (today : Int32) (lack : Int32) (rate : Int32) (free : Int32) (routes_r : Int32) (routes_f : (Nat → Int32)) (offers_r : Int32) (offers_f : (Nat → Int32)) (wants_r : Int32) (wants_f : (Nat → Int32)) (leaves_r : Int32) (leaves_f : (Nat → Int32)) {res : Int32} (h : fX6_isSuited v1 v2 routes_r routes_f offers_r offers_f wants_r wants_f leaves_r leaves_f = some res) : CtI G l yX6_isSuited wsX6_isSuited rmX6_isSuited [.ref a_eb, .int v1, .int v2] (wX6_isSuited G a_eb a_desk a_desk_routes a_desk_routes_a a_desk_offers a_desk_offers_a a_desk_wants a_desk_wants_a a_desk_leaves a_desk_leaves_a a_kept a_tape a_text a_plan a_mat a_desk_boxes a_desk_words a_desk_weeks a_desk_leases a_desk_uses isKept planStands today lack rate free routes_r routes_f offers_r offers_f wants_r wants_f leaves_r leaves_f) res (wX6_isSuited G a_eb a_desk a_desk_routes a_desk_routes_a a_desk_offers a_desk_offers_a a_desk_wants a_desk_wants_a a_desk_leaves a_desk_leaves_a a_kept a_tape a_text a_plan a_mat a_desk_boxes a_desk_words a_desk_weeks a_desk_leases a_desk_uses isKept planStands today lack rate free routes_r routes_f offers_r offers_f wants_r wants_f leaves_r leaves_f) := by
  refine CtI.mk (cc := cX6_isSuited) (maxL := 3) (ret := (some .boolean)) (own := RX6) (by decide) rfl rfl (Nat.le_of_ble_eq_true rfl) ?_
  intro p e s m below meth c A X ls hl hW
  obtain ⟨hx, hb, -⟩ := id X.1
  have hl : lv_has ls 3 [(0, .ref a_eb), (1, .int v1), (2, .int v2)] := hl
  generalize hH : s.heap = H at hW ⊢
  generalize hLo : ([] : List Loc) = locs at hW ⊢
  rw [fX6_isSuited] at h
  refine lv_aload_n hx hb dX6_isSuited_0 rfl (lv_at hl 0 rfl) ?_
  refine g_get X hW eX6_isSuited_12 0 rfl rfl dX6_isSuited_1 ?_
  refine g_get X hW eX6_isSuited_198 1 rfl rfl dX6_isSuited_4 ?_
  refine lv_iload_n hx hb dX6_isSuited_7 rfl (lv_at hl 1 rfl) ?_
  refine lv_iconst hx hb dX6_isSuited_8 qI_2 ?_
  obtain ⟨r6, hq, h⟩ := bn1_some h
  refine g_cvi X hW (As := [.int v1, .int (2 : Int32)]) (ws' := (wX6_isSuited G a_eb a_desk a_desk_routes a_desk_routes_a a_desk_offers a_desk_offers_a a_desk_wants a_desk_wants_a a_desk_leaves a_desk_leaves_a a_kept a_tape a_text a_plan a_mat a_desk_boxes a_desk_words a_desk_weeks a_desk_leases a_desk_uses isKept planStands today lack rate free routes_r routes_f offers_r offers_f wants_r wants_f leaves_r leaves_f)) ckX6_isSuited_X4_cell_113 (kcX4_cell (l := l) G a_desk_offers a_desk_offers_a v1 (2 : Int32) (5 : Int32) (7 : Int32) offers_r 35 offers_f hq) ⟨rfl, rfl, Nat.le_of_ble_eq_true rfl, Nat.le_of_ble_eq_true rfl⟩ [4, 5] rfl rfl rfl rfl rfl rfl rfl hl.1 (Nat.le_of_ble_eq_true rfl) ⟨Nat.zero_le _, Nat.zero_le _⟩ dX6_isSuited_9 (fun H locs hW => ?_)
  refine lv_aload_n hx hb dX6_isSuited_12 rfl (lv_at hl 0 rfl) ?_
  refine g_get X hW eX6_isSuited_12 0 rfl rfl dX6_isSuited_13 ?_
  refine g_get X hW eX6_isSuited_195 1 rfl rfl dX6_isSuited_16 ?_
  refine lv_iload_n hx hb dX6_isSuited_19 rfl (lv_at hl 2 rfl) ?_
  refine lv_iconst hx hb dX6_isSuited_20 qI_2 ?_
  obtain ⟨r12, hq, h⟩ := bn1_some h
  refine g_cvi X hW (As := [.int v2, .int (2 : Int32)]) (ws' := (wX6_isSuited G a_eb a_desk a_desk_routes a_desk_routes_a a_desk_offers a_desk_offers_a a_desk_wants a_desk_wants_a a_desk_leaves a_desk_leaves_a a_kept a_tape a_text a_plan a_mat a_desk_boxes a_desk_words a_desk_weeks a_desk_leases a_desk_uses isKept planStands today lack rate free routes_r routes_f offers_r offers_f wants_r wants_f leaves_r leaves_f)) ckX6_isSuited_X4_cell_113 (kcX4_cell (l := l) G a_desk_wants a_desk_wants_a v2 (2 : Int32) (5 : Int32) (7 : Int32) wants_r 35 wants_f hq) ⟨rfl, rfl, Nat.le_of_ble_eq_true rfl, Nat.le_of_ble_eq_true rfl⟩ [6, 7] rfl rfl rfl rfl rfl rfl rfl hl.1 (Nat.le_of_ble_eq_true rfl) ⟨Nat.zero_le _, Nat.zero_le _⟩ dX6_isSuited_21 (fun H locs hW => ?_)
  refine lv_icmp_ne (tgt := 147) hx hb dX6_isSuited_24 (by decide) (fun c13 => ?_) (fun c13 => ?_)
  · have h := (if_neg c13).symm.trans h
    refine lv_iconst hx hb dX6_isSuited_147 qI_0 ?_
    obtain rfl := Option.some.inj h
    exact g_zret X hW rfl dX6_isSuited_148
  · have h := (if_pos c13).symm.trans h
    refine lv_aload_n hx hb dX6_isSuited_27 rfl (lv_at hl 0 rfl) ?_
    refine lv_aload_n hx hb dX6_isSuited_28 rfl (lv_at hl 0 rfl) ?_
    refine g_get X hW eX6_isSuited_12 0 rfl rfl dX6_isSuited_29 ?_
    refine g_get X hW eX6_isSuited_198 1 rfl rfl dX6_isSuited_32 ?_
    refine lv_iload_n hx hb dX6_isSuited_35 rfl (lv_at hl 1 rfl) ?_
    refine lv_iconst hx hb dX6_isSuited_36 qI_1 ?_
    obtain ⟨r22, hq, h⟩ := bn1_some h
    refine g_cvi X hW (As := [.int v1, .int (1 : Int32)]) (ws' := (wX6_isSuited G a_eb a_desk a_desk_routes a_desk_routes_a a_desk_offers a_desk_offers_a a_desk_wants a_desk_wants_a a_desk_leaves a_desk_leaves_a a_kept a_tape a_text a_plan a_mat a_desk_boxes a_desk_words a_desk_weeks a_desk_leases a_desk_uses isKept planStands today lack rate free routes_r routes_f offers_r offers_f wants_r wants_f leaves_r leaves_f)) ckX6_isSuited_X4_cell_113 (kcX4_cell (l := l) G a_desk_offers a_desk_offers_a v1 (1 : Int32) (5 : Int32) (7 : Int32) offers_r 35 offers_f hq) ⟨rfl, rfl, Nat.le_of_ble_eq_true rfl, Nat.le_of_ble_eq_true rfl⟩ [4, 5] rfl rfl rfl rfl rfl rfl rfl hl.1 (Nat.le_of_ble_eq_true rfl) ⟨Nat.zero_le _, Nat.zero_le _⟩ dX6_isSuited_37 (fun H locs hW => ?_)
    refine lv_aload_n hx hb dX6_isSuited_40 rfl (lv_at hl 0 rfl) ?_
    refine g_get X hW eX6_isSuited_12 0 rfl rfl dX6_isSuited_41 ?_
    refine g_get X hW eX6_isSuited_195 1 rfl rfl dX6_isSuited_44 ?_
    refine lv_iload_n hx hb dX6_isSuited_47 rfl (lv_at hl 2 rfl) ?_
    refine lv_iconst hx hb dX6_isSuited_48 qI_1 ?_
    obtain ⟨r28, hq, h⟩ := bn1_some h
    refine g_cvi X hW (As := [.int v2, .int (1 : Int32)]) (ws' := (wX6_isSuited G a_eb a_desk a_desk_routes a_desk_routes_a a_desk_offers a_desk_offers_a a_desk_wants a_desk_wants_a a_desk_leaves a_desk_leaves_a a_kept a_tape a_text a_plan a_mat a_desk_boxes a_desk_words a_desk_weeks a_desk_leases a_desk_uses isKept planStands today lack rate free routes_r routes_f offers_r offers_f wants_r wants_f leaves_r leaves_f)) ckX6_isSuited_X4_cell_113 (kcX4_cell (l := l) G a_desk_wants a_desk_wants_a v2 (1 : Int32) (5 : Int32) (7 : Int32) wants_r 35 wants_f hq) ⟨rfl, rfl, Nat.le_of_ble_eq_true rfl, Nat.le_of_ble_eq_true rfl⟩ [6, 7] rfl rfl rfl rfl rfl rfl rfl hl.1 (Nat.le_of_ble_eq_true rfl) ⟨Nat.zero_le _, Nat.zero_le _⟩ dX6_isSuited_49 (fun H locs hW => ?_)
    obtain ⟨r29, hq, h⟩ := bn1_some h
    refine g_cvi X hW (As := [.int r22, .int r28]) (ws' := (wX6_isSuited G a_eb a_desk a_desk_routes a_desk_routes_a a_desk_offers a_desk_offers_a a_desk_wants a_desk_wants_a a_desk_leaves a_desk_leaves_a a_kept a_tape a_text a_plan a_mat a_desk_boxes a_desk_words a_desk_weeks a_desk_leases a_desk_uses isKept planStands today lack rate free routes_r routes_f offers_r offers_f wants_r wants_f leaves_r leaves_f)) ckX6_isSuited_X6_isSharing_225 (kcX6_isSharing (l := l) G a_eb a_desk a_desk_leaves a_desk_leaves_a a_kept a_tape a_text a_plan a_mat a_desk_boxes a_desk_words a_desk_weeks a_desk_routes a_desk_offers a_desk_wants a_desk_leases a_desk_uses r22 r28 isKept planStands today lack rate free leaves_r leaves_f hq) ⟨rfl, rfl, Nat.le_of_ble_eq_true rfl, Nat.le_of_ble_eq_true rfl⟩ [0, 1, 8, 9] rfl rfl rfl rfl rfl rfl rfl hl.1 (Nat.le_of_ble_eq_true rfl) ⟨Nat.zero_le _, Nat.zero_le _⟩ dX6_isSuited_52 (fun H locs hW => ?_)
    refine lv_if_eq (tgt := 147) hx hb dX6_isSuited_55 (by decide) (fun c30 => ?_) (fun c30 => ?_)
    · have h := (if_pos c30).symm.trans h
      refine lv_iconst hx hb dX6_isSuited_147 qI_0 ?_
      obtain rfl := Option.some.inj h
      exact g_zret X hW rfl dX6_isSuited_148
    · have h := (if_neg c30).symm.trans h
      refine lv_aload_n hx hb dX6_isSuited_58 rfl (lv_at hl 0 rfl) ?_
      refine g_get X hW eX6_isSuited_12 0 rfl rfl dX6_isSuited_59 ?_
      refine g_get X hW eX6_isSuited_198 1 rfl rfl dX6_isSuited_62 ?_
      refine lv_iload_n hx hb dX6_isSuited_65 rfl (lv_at hl 1 rfl) ?_
      refine lv_iconst hx hb dX6_isSuited_66 qI_3 ?_
      obtain ⟨r38, hq, h⟩ := bn1_some h
      refine g_cvi X hW (As := [.int v1, .int (3 : Int32)]) (ws' := (wX6_isSuited G a_eb a_desk a_desk_routes a_desk_routes_a a_desk_offers a_desk_offers_a a_desk_wants a_desk_wants_a a_desk_leaves a_desk_leaves_a a_kept a_tape a_text a_plan a_mat a_desk_boxes a_desk_words a_desk_weeks a_desk_leases a_desk_uses isKept planStands today lack rate free routes_r routes_f offers_r offers_f wants_r wants_f leaves_r leaves_f)) ckX6_isSuited_X4_cell_113 (kcX4_cell (l := l) G a_desk_offers a_desk_offers_a v1 (3 : Int32) (5 : Int32) (7 : Int32) offers_r 35 offers_f hq) ⟨rfl, rfl, Nat.le_of_ble_eq_true rfl, Nat.le_of_ble_eq_true rfl⟩ [4, 5] rfl rfl rfl rfl rfl rfl rfl hl.1 (Nat.le_of_ble_eq_true rfl) ⟨Nat.zero_le _, Nat.zero_le _⟩ dX6_isSuited_67 (fun H locs hW => ?_)
      refine lv_aload_n hx hb dX6_isSuited_70 rfl (lv_at hl 0 rfl) ?_
      refine g_get X hW eX6_isSuited_12 0 rfl rfl dX6_isSuited_71 ?_
      refine g_get X hW eX6_isSuited_195 1 rfl rfl dX6_isSuited_74 ?_
      refine lv_iload_n hx hb dX6_isSuited_77 rfl (lv_at hl 2 rfl) ?_
      refine lv_iconst hx hb dX6_isSuited_78 qI_4 ?_
      obtain ⟨r44, hq, h⟩ := bn1_some h
      refine g_cvi X hW (As := [.int v2, .int (4 : Int32)]) (ws' := (wX6_isSuited G a_eb a_desk a_desk_routes a_desk_routes_a a_desk_offers a_desk_offers_a a_desk_wants a_desk_wants_a a_desk_leaves a_desk_leaves_a a_kept a_tape a_text a_plan a_mat a_desk_boxes a_desk_words a_desk_weeks a_desk_leases a_desk_uses isKept planStands today lack rate free routes_r routes_f offers_r offers_f wants_r wants_f leaves_r leaves_f)) ckX6_isSuited_X4_cell_113 (kcX4_cell (l := l) G a_desk_wants a_desk_wants_a v2 (4 : Int32) (5 : Int32) (7 : Int32) wants_r 35 wants_f hq) ⟨rfl, rfl, Nat.le_of_ble_eq_true rfl, Nat.le_of_ble_eq_true rfl⟩ [6, 7] rfl rfl rfl rfl rfl rfl rfl hl.1 (Nat.le_of_ble_eq_true rfl) ⟨Nat.zero_le _, Nat.zero_le _⟩ dX6_isSuited_79 (fun H locs hW => ?_)
      refine lv_icmp_gt (tgt := 147) hx hb dX6_isSuited_82 (by decide) (fun c45 => ?_) (fun c45 => ?_)
      · have h := (if_pos c45).symm.trans h
        refine lv_iconst hx hb dX6_isSuited_147 qI_0 ?_
        obtain rfl := Option.some.inj h
        exact g_zret X hW rfl dX6_isSuited_148
      · have h := (if_neg c45).symm.trans h
        refine lv_aload_n hx hb dX6_isSuited_85 rfl (lv_at hl 0 rfl) ?_
        refine g_get X hW eX6_isSuited_12 0 rfl rfl dX6_isSuited_86 ?_
        refine g_get X hW eX6_isSuited_195 1 rfl rfl dX6_isSuited_89 ?_
        refine lv_iload_n hx hb dX6_isSuited_92 rfl (lv_at hl 2 rfl) ?_
        refine lv_iconst hx hb dX6_isSuited_93 qI_3 ?_
        obtain ⟨r53, hq, h⟩ := bn1_some h
        refine g_cvi X hW (As := [.int v2, .int (3 : Int32)]) (ws' := (wX6_isSuited G a_eb a_desk a_desk_routes a_desk_routes_a a_desk_offers a_desk_offers_a a_desk_wants a_desk_wants_a a_desk_leaves a_desk_leaves_a a_kept a_tape a_text a_plan a_mat a_desk_boxes a_desk_words a_desk_weeks a_desk_leases a_desk_uses isKept planStands today lack rate free routes_r routes_f offers_r offers_f wants_r wants_f leaves_r leaves_f)) ckX6_isSuited_X4_cell_113 (kcX4_cell (l := l) G a_desk_wants a_desk_wants_a v2 (3 : Int32) (5 : Int32) (7 : Int32) wants_r 35 wants_f hq) ⟨rfl, rfl, Nat.le_of_ble_eq_true rfl, Nat.le_of_ble_eq_true rfl⟩ [6, 7] rfl rfl rfl rfl rfl rfl rfl hl.1 (Nat.le_of_ble_eq_true rfl) ⟨Nat.zero_le _, Nat.zero_le _⟩ dX6_isSuited_94 (fun H locs hW => ?_)
        refine lv_aload_n hx hb dX6_isSuited_97 rfl (lv_at hl 0 rfl) ?_
        refine g_get X hW eX6_isSuited_12 0 rfl rfl dX6_isSuited_98 ?_
        refine g_get X hW eX6_isSuited_198 1 rfl rfl dX6_isSuited_101 ?_
        refine lv_iload_n hx hb dX6_isSuited_104 rfl (lv_at hl 1 rfl) ?_
        refine lv_iconst hx hb dX6_isSuited_105 qI_4 ?_
        obtain ⟨r59, hq, h⟩ := bn1_some h
        refine g_cvi X hW (As := [.int v1, .int (4 : Int32)]) (ws' := (wX6_isSuited G a_eb a_desk a_desk_routes a_desk_routes_a a_desk_offers a_desk_offers_a a_desk_wants a_desk_wants_a a_desk_leaves a_desk_leaves_a a_kept a_tape a_text a_plan a_mat a_desk_boxes a_desk_words a_desk_weeks a_desk_leases a_desk_uses isKept planStands today lack rate free routes_r routes_f offers_r offers_f wants_r wants_f leaves_r leaves_f)) ckX6_isSuited_X4_cell_113 (kcX4_cell (l := l) G a_desk_offers a_desk_offers_a v1 (4 : Int32) (5 : Int32) (7 : Int32) offers_r 35 offers_f hq) ⟨rfl, rfl, Nat.le_of_ble_eq_true rfl, Nat.le_of_ble_eq_true rfl⟩ [4, 5] rfl rfl rfl rfl rfl rfl rfl hl.1 (Nat.le_of_ble_eq_true rfl) ⟨Nat.zero_le _, Nat.zero_le _⟩ dX6_isSuited_106 (fun H locs hW => ?_)
        refine lv_icmp_gt (tgt := 147) hx hb dX6_isSuited_109 (by decide) (fun c60 => ?_) (fun c60 => ?_)
        · have h := (if_pos c60).symm.trans h
          refine lv_iconst hx hb dX6_isSuited_147 qI_0 ?_
          obtain rfl := Option.some.inj h
          exact g_zret X hW rfl dX6_isSuited_148
        · have h := (if_neg c60).symm.trans h
          refine lv_aload_n hx hb dX6_isSuited_112 rfl (lv_at hl 0 rfl) ?_
          refine lv_aload_n hx hb dX6_isSuited_113 rfl (lv_at hl 0 rfl) ?_
          refine g_get X hW eX6_isSuited_12 0 rfl rfl dX6_isSuited_114 ?_
          refine g_get X hW eX6_isSuited_198 1 rfl rfl dX6_isSuited_117 ?_
          refine lv_iload_n hx hb dX6_isSuited_120 rfl (lv_at hl 1 rfl) ?_
          refine lv_iconst hx hb dX6_isSuited_121 qI_0 ?_
          obtain ⟨r69, hq, h⟩ := bn1_some h
          refine g_cvi X hW (As := [.int v1, .int (0 : Int32)]) (ws' := (wX6_isSuited G a_eb a_desk a_desk_routes a_desk_routes_a a_desk_offers a_desk_offers_a a_desk_wants a_desk_wants_a a_desk_leaves a_desk_leaves_a a_kept a_tape a_text a_plan a_mat a_desk_boxes a_desk_words a_desk_weeks a_desk_leases a_desk_uses isKept planStands today lack rate free routes_r routes_f offers_r offers_f wants_r wants_f leaves_r leaves_f)) ckX6_isSuited_X4_cell_113 (kcX4_cell (l := l) G a_desk_offers a_desk_offers_a v1 (0 : Int32) (5 : Int32) (7 : Int32) offers_r 35 offers_f hq) ⟨rfl, rfl, Nat.le_of_ble_eq_true rfl, Nat.le_of_ble_eq_true rfl⟩ [4, 5] rfl rfl rfl rfl rfl rfl rfl hl.1 (Nat.le_of_ble_eq_true rfl) ⟨Nat.zero_le _, Nat.zero_le _⟩ dX6_isSuited_122 (fun H locs hW => ?_)
          refine lv_aload_n hx hb dX6_isSuited_125 rfl (lv_at hl 0 rfl) ?_
          refine g_get X hW eX6_isSuited_12 0 rfl rfl dX6_isSuited_126 ?_
          refine g_get X hW eX6_isSuited_195 1 rfl rfl dX6_isSuited_129 ?_
          refine lv_iload_n hx hb dX6_isSuited_132 rfl (lv_at hl 2 rfl) ?_
          refine lv_iconst hx hb dX6_isSuited_133 qI_0 ?_
          obtain ⟨r75, hq, h⟩ := bn1_some h
          refine g_cvi X hW (As := [.int v2, .int (0 : Int32)]) (ws' := (wX6_isSuited G a_eb a_desk a_desk_routes a_desk_routes_a a_desk_offers a_desk_offers_a a_desk_wants a_desk_wants_a a_desk_leaves a_desk_leaves_a a_kept a_tape a_text a_plan a_mat a_desk_boxes a_desk_words a_desk_weeks a_desk_leases a_desk_uses isKept planStands today lack rate free routes_r routes_f offers_r offers_f wants_r wants_f leaves_r leaves_f)) ckX6_isSuited_X4_cell_113 (kcX4_cell (l := l) G a_desk_wants a_desk_wants_a v2 (0 : Int32) (5 : Int32) (7 : Int32) wants_r 35 wants_f hq) ⟨rfl, rfl, Nat.le_of_ble_eq_true rfl, Nat.le_of_ble_eq_true rfl⟩ [6, 7] rfl rfl rfl rfl rfl rfl rfl hl.1 (Nat.le_of_ble_eq_true rfl) ⟨Nat.zero_le _, Nat.zero_le _⟩ dX6_isSuited_134 (fun H locs hW => ?_)
          obtain ⟨r76, hq, h⟩ := bn1_some h
          refine g_cvi X hW (As := [.int r69, .int r75]) (ws' := (wX6_isSuited G a_eb a_desk a_desk_routes a_desk_routes_a a_desk_offers a_desk_offers_a a_desk_wants a_desk_wants_a a_desk_leaves a_desk_leaves_a a_kept a_tape a_text a_plan a_mat a_desk_boxes a_desk_words a_desk_weeks a_desk_leases a_desk_uses isKept planStands today lack rate free routes_r routes_f offers_r offers_f wants_r wants_f leaves_r leaves_f)) ckX6_isSuited_X6_isJoined_228 (kcX6_isJoined (l := l) G a_eb a_desk a_desk_routes a_desk_routes_a a_kept a_tape a_text a_plan a_mat a_desk_boxes a_desk_words a_desk_weeks a_desk_offers a_desk_wants a_desk_leaves a_desk_leases a_desk_uses r69 r75 isKept planStands today lack rate free routes_r routes_f hq) ⟨rfl, rfl, Nat.le_of_ble_eq_true rfl, Nat.le_of_ble_eq_true rfl⟩ [0, 1, 2, 3] rfl rfl rfl rfl rfl rfl rfl hl.1 (Nat.le_of_ble_eq_true rfl) ⟨Nat.zero_le _, Nat.zero_le _⟩ dX6_isSuited_137 (fun H locs hW => ?_)
          refine lv_if_eq (tgt := 147) hx hb dX6_isSuited_140 (by decide) (fun c77 => ?_) (fun c77 => ?_)
          · have h := (if_pos c77).symm.trans h
            refine lv_iconst hx hb dX6_isSuited_147 qI_0 ?_
            obtain rfl := Option.some.inj h
            exact g_zret X hW rfl dX6_isSuited_148
          · have h := (if_neg c77).symm.trans h
            refine lv_iconst hx hb dX6_isSuited_143 qI_1 ?_
            refine lv_goto (tgt := 148) hx hb dX6_isSuited_144 (by decide) ?_
            obtain rfl := Option.some.inj h
            exact g_zret X hW rfl dX6_isSuited_148
theorem kcX6_isSuited {l : Launch} (G : Gt) (a_eb a_desk a_desk_routes a_desk_routes_a a_desk_offers a_desk_offers_a a_desk_wants a_desk_wants_a a_desk_leaves a_desk_leaves_a a_kept a_tape a_text a_plan a_mat a_desk_boxes a_desk_words a_desk_weeks a_desk_leases a_desk_uses : Nat) (v1 : Int32) (v2 : Int32) (isKept : Int32) (planStands : Int32) (today : Int32) (lack : Int32) (rate : Int32) (free : Int32) (routes_r : Int32) (routes_f : (Nat → Int32)) (offers_r : Int32) (offers_f : (Nat → Int32)) (wants_r : Int32) (wants_f : (Nat → Int32)) (leaves_r : Int32) (leaves_f : (Nat → Int32)) {r : Int32}  (h : fX6_isSuited v1 v2 routes_r routes_f offers_r offers_f wants_r wants_f leaves_r leaves_f = some r) : CtI G l yX6_isSuited wsX6_isSuited rmX6_isSuited [.ref a_eb, .int v1, .int v2] (wX6_isSuited G a_eb a_desk a_desk_routes a_desk_routes_a a_desk_offers a_desk_offers_a a_desk_wants a_desk_wants_a a_desk_leaves a_desk_leaves_a a_kept a_tape a_text a_plan a_mat a_desk_boxes a_desk_words a_desk_weeks a_desk_leases a_desk_uses isKept planStands today lack rate free routes_r routes_f offers_r offers_f wants_r wants_f leaves_r leaves_f) r (wX6_isSuited G a_eb a_desk a_desk_routes a_desk_routes_a a_desk_offers a_desk_offers_a a_desk_wants a_desk_wants_a a_desk_leaves a_desk_leaves_a a_kept a_tape a_text a_plan a_mat a_desk_boxes a_desk_words a_desk_weeks a_desk_leases a_desk_uses isKept planStands today lack rate free routes_r routes_f offers_r offers_f wants_r wants_f leaves_r leaves_f) := k0X6_isSuited G a_eb a_desk a_desk_routes a_desk_routes_a a_desk_offers a_desk_offers_a a_desk_wants a_desk_wants_a a_desk_leaves a_desk_leaves_a a_kept a_tape a_text a_plan a_mat a_desk_boxes a_desk_words a_desk_weeks a_desk_leases a_desk_uses v1 v2 isKept planStands today lack rate free routes_r routes_f offers_r offers_f wants_r wants_f leaves_r leaves_f h
end MX6_isSuited
/-! EmptyBoxes.suits -/
section MX6_suits
theorem hdX6_suits : yX6_suits.cls = RX6 ∧ yX6_suits.cls ≠ "java/lang/invoke/MethodHandle" ∧ yX6_suits.cls ≠ "java/lang/invoke/VarHandle" ∧ (parseMethodDescriptor yX6_suits.desc).map (fun d => d.parameters.length) = some 2 := by decide +kernel
abbrev wX6_suits (G : Gt) (a_eb a_desk a_desk_routes a_desk_routes_a a_desk_offers a_desk_offers_a a_desk_wants a_desk_wants_a a_desk_leaves a_desk_leaves_a a_kept a_tape a_text a_plan a_mat a_desk_boxes a_desk_words a_desk_weeks a_desk_leases a_desk_uses : Nat) (isKept : Int32) (planStands : Int32) (today : Int32) (lack : Int32) (rate : Int32) (free : Int32) (routes_r : Int32) (routes_f : (Nat → Int32)) (offers_r : Int32) (offers_f : (Nat → Int32)) (wants_r : Int32) (wants_f : (Nat → Int32)) (leaves_r : Int32) (leaves_f : (Nat → Int32)) : va_W := [(a_eb, .inr (6, [.ref a_desk, .ref a_kept, .ref a_tape, .ref a_text, .ref a_plan, .ref a_mat, .int isKept, .int planStands])), (a_desk, .inr (0, [.ref a_desk_boxes, .ref a_desk_words, .ref a_desk_weeks, .ref a_desk_routes, .ref a_desk_offers, .ref a_desk_wants, .ref a_desk_leaves, .ref a_desk_leases, .ref a_desk_uses, .int today, .int lack, .int rate, .int free])), (a_desk_routes, .inr (4, [.ref a_desk_routes_a, .int (5 : Int32), .int (10 : Int32), .int routes_r])), (a_desk_routes_a, .inl (G.2.1, 50, .inl routes_f)), (a_desk_offers, .inr (4, [.ref a_desk_offers_a, .int (5 : Int32), .int (7 : Int32), .int offers_r])), (a_desk_offers_a, .inl (G.2.1, 35, .inl offers_f)), (a_desk_wants, .inr (4, [.ref a_desk_wants_a, .int (5 : Int32), .int (7 : Int32), .int wants_r])), (a_desk_wants_a, .inl (G.2.1, 35, .inl wants_f)), (a_desk_leaves, .inr (4, [.ref a_desk_leaves_a, .int (4 : Int32), .int (4 : Int32), .int leaves_r])), (a_desk_leaves_a, .inl (G.2.1, 16, .inl leaves_f))]
abbrev rmX6_suits : Room := { frames := 5, cells := 0, slots := 0, locals := 110 }
theorem iX6_suits_X0 : ∀ w ∈ wsX00, w ∈ wsX6_suits := by decide +kernel
theorem iX6_suits_X6 : ∀ w ∈ wsX60, w ∈ wsX6_suits := by decide +kernel
theorem eX6_suits_12 : Fk wsX6_suits RX6 12 6 0 := ⟨RX6, TX6, 8, rfl, iX6_suits_X6, by decide, by decide +kernel⟩
theorem eX6_suits_195 : Fk wsX6_suits RX6 195 0 5 := ⟨RX0, TX0, 13, rfl, iX6_suits_X0, by decide, by decide +kernel⟩
theorem eX6_suits_198 : Fk wsX6_suits RX6 198 0 4 := ⟨RX0, TX0, 13, rfl, iX6_suits_X0, by decide, by decide +kernel⟩
theorem ckX6_suits_X4_has_110 : CkV wsX6_suits RX6 110 yX4_has wsX4_has cX4_has 2 (some .boolean) 1 4 := ⟨RX4, TX4, 4, _, rfl, gX6_suits_X4_has, rfl, hdX4_has⟩
theorem ckX6_suits_X6_isSuited_207 : CkV wsX6_suits RX6 207 yX6_isSuited wsX6_isSuited cX6_isSuited 3 (some .boolean) 2 6 := ⟨RX6, TX6, 8, _, rfl, gX6_suits_X6_isSuited, rfl, hdX6_isSuited⟩
variable {p : Program} {l : Launch} {e : Env} {s : State} {m : MethodId} {args : Array Value} {below : List Frame} {meth : Method} {c : Code} {A : Nat → Prop} {G : Gt} {a_eb a_desk a_desk_routes a_desk_routes_a a_desk_offers a_desk_offers_a a_desk_wants a_desk_wants_a a_desk_leaves a_desk_leaves_a a_kept a_tape a_text a_plan a_mat a_desk_boxes a_desk_words a_desk_weeks a_desk_leases a_desk_uses : Nat} {isKept : Int32} {planStands : Int32} {today : Int32} {lack : Int32} {rate : Int32} {free : Int32} {routes_r : Int32} {routes_f : (Nat → Int32)} {offers_r : Int32} {offers_f : (Nat → Int32)} {wants_r : Int32} {wants_f : (Nat → Int32)} {leaves_r : Int32} {leaves_f : (Nat → Int32)} {res : Int32}
set_option maxHeartbeats 4000000 in
set_option maxRecDepth 100000 in
theorem k0X6_suits {l : Launch} (G : Gt) (a_eb a_desk a_desk_routes a_desk_routes_a a_desk_offers a_desk_offers_a a_desk_wants a_desk_wants_a a_desk_leaves a_desk_leaves_a a_kept a_tape a_text a_plan a_mat a_desk_boxes a_desk_words a_desk_weeks a_desk_leases a_desk_uses : Nat) (v1 : Int32) (v2 : Int32) (isKept : Int32) (planStands : Int32) (today : Int32) (lack : Int32) (rate : Int32) (free : Int32) (routes_r : Int32) (routes_f : (Nat → Int32)) (offers_r : Int32) (offers_f : (Nat → Int32)) (wants_r : Int32) (wants_f : (Nat → Int32)) (leaves_r : Int32) (leaves_f : (Nat → Int32)) {res : Int32} (h : fX6_suits v1 v2 routes_r routes_f offers_r offers_f wants_r wants_f leaves_r leaves_f = some res) : CtI G l yX6_suits wsX6_suits rmX6_suits [.ref a_eb, .int v1, .int v2] (wX6_suits G a_eb a_desk a_desk_routes a_desk_routes_a a_desk_offers a_desk_offers_a a_desk_wants a_desk_wants_a a_desk_leaves a_desk_leaves_a a_kept a_tape a_text a_plan a_mat a_desk_boxes a_desk_words a_desk_weeks a_desk_leases a_desk_uses isKept planStands today lack rate free routes_r routes_f offers_r offers_f wants_r wants_f leaves_r leaves_f) res (wX6_suits G a_eb a_desk a_desk_routes a_desk_routes_a a_desk_offers a_desk_offers_a a_desk_wants a_desk_wants_a a_desk_leaves a_desk_leaves_a a_kept a_tape a_text a_plan a_mat a_desk_boxes a_desk_words a_desk_weeks a_desk_leases a_desk_uses isKept planStands today lack rate free routes_r routes_f offers_r offers_f wants_r wants_f leaves_r leaves_f) := by
  refine CtI.mk (cc := cX6_suits) (maxL := 3) (ret := (some .int)) (own := RX6) (by decide) rfl rfl (Nat.le_of_ble_eq_true rfl) ?_
  intro p e s m below meth c A X ls hl hW
  obtain ⟨hx, hb, -⟩ := id X.1
  have hl : lv_has ls 3 [(0, .ref a_eb), (1, .int v1), (2, .int v2)] := hl
  generalize hH : s.heap = H at hW ⊢
  generalize hLo : ([] : List Loc) = locs at hW ⊢
  rw [fX6_suits] at h
  refine lv_aload_n hx hb dX6_suits_0 rfl (lv_at hl 0 rfl) ?_
  refine g_get X hW eX6_suits_12 0 rfl rfl dX6_suits_1 ?_
  refine g_get X hW eX6_suits_198 1 rfl rfl dX6_suits_4 ?_
  refine lv_iload_n hx hb dX6_suits_7 rfl (lv_at hl 1 rfl) ?_
  obtain ⟨r5, hq, h⟩ := bn1_some h
  refine g_cvi X hW (As := [.int v1]) (ws' := (wX6_suits G a_eb a_desk a_desk_routes a_desk_routes_a a_desk_offers a_desk_offers_a a_desk_wants a_desk_wants_a a_desk_leaves a_desk_leaves_a a_kept a_tape a_text a_plan a_mat a_desk_boxes a_desk_words a_desk_weeks a_desk_leases a_desk_uses isKept planStands today lack rate free routes_r routes_f offers_r offers_f wants_r wants_f leaves_r leaves_f)) ckX6_suits_X4_has_110 (kcX4_has (l := l) G a_desk_offers a_desk_offers_a v1 (5 : Int32) (7 : Int32) offers_r hq) ⟨rfl, rfl, Nat.le_of_ble_eq_true rfl, Nat.le_of_ble_eq_true rfl⟩ [4] rfl rfl rfl rfl rfl rfl rfl hl.1 (Nat.le_of_ble_eq_true rfl) ⟨Nat.zero_le _, Nat.zero_le _⟩ dX6_suits_8 (fun H locs hW => ?_)
  refine lv_if_eq (tgt := 28) hx hb dX6_suits_11 (by decide) (fun c6 => ?_) (fun c6 => ?_)
  · have h := (if_pos c6).symm.trans h
    refine lv_iconst hx hb dX6_suits_28 qI_m1 ?_
    obtain rfl := Option.some.inj h
    exact g_iret X hW dX6_suits_29
  · have h := (if_neg c6).symm.trans h
    refine lv_aload_n hx hb dX6_suits_14 rfl (lv_at hl 0 rfl) ?_
    refine g_get X hW eX6_suits_12 0 rfl rfl dX6_suits_15 ?_
    refine g_get X hW eX6_suits_195 1 rfl rfl dX6_suits_18 ?_
    refine lv_iload_n hx hb dX6_suits_21 rfl (lv_at hl 2 rfl) ?_
    obtain ⟨r13, hq, h⟩ := bn1_some h
    refine g_cvi X hW (As := [.int v2]) (ws' := (wX6_suits G a_eb a_desk a_desk_routes a_desk_routes_a a_desk_offers a_desk_offers_a a_desk_wants a_desk_wants_a a_desk_leaves a_desk_leaves_a a_kept a_tape a_text a_plan a_mat a_desk_boxes a_desk_words a_desk_weeks a_desk_leases a_desk_uses isKept planStands today lack rate free routes_r routes_f offers_r offers_f wants_r wants_f leaves_r leaves_f)) ckX6_suits_X4_has_110 (kcX4_has (l := l) G a_desk_wants a_desk_wants_a v2 (5 : Int32) (7 : Int32) wants_r hq) ⟨rfl, rfl, Nat.le_of_ble_eq_true rfl, Nat.le_of_ble_eq_true rfl⟩ [6] rfl rfl rfl rfl rfl rfl rfl hl.1 (Nat.le_of_ble_eq_true rfl) ⟨Nat.zero_le _, Nat.zero_le _⟩ dX6_suits_22 (fun H locs hW => ?_)
    refine lv_if_ne (tgt := 30) hx hb dX6_suits_25 (by decide) (fun c14 => ?_) (fun c14 => ?_)
    · have h := (if_neg c14).symm.trans h
      refine lv_aload_n hx hb dX6_suits_30 rfl (lv_at hl 0 rfl) ?_
      refine lv_iload_n hx hb dX6_suits_31 rfl (lv_at hl 1 rfl) ?_
      refine lv_iload_n hx hb dX6_suits_32 rfl (lv_at hl 2 rfl) ?_
      obtain ⟨r18, hq, h⟩ := bn1_some h
      refine g_cvi X hW (As := [.int v1, .int v2]) (ws' := (wX6_suits G a_eb a_desk a_desk_routes a_desk_routes_a a_desk_offers a_desk_offers_a a_desk_wants a_desk_wants_a a_desk_leaves a_desk_leaves_a a_kept a_tape a_text a_plan a_mat a_desk_boxes a_desk_words a_desk_weeks a_desk_leases a_desk_uses isKept planStands today lack rate free routes_r routes_f offers_r offers_f wants_r wants_f leaves_r leaves_f)) ckX6_suits_X6_isSuited_207 (kcX6_isSuited (l := l) G a_eb a_desk a_desk_routes a_desk_routes_a a_desk_offers a_desk_offers_a a_desk_wants a_desk_wants_a a_desk_leaves a_desk_leaves_a a_kept a_tape a_text a_plan a_mat a_desk_boxes a_desk_words a_desk_weeks a_desk_leases a_desk_uses v1 v2 isKept planStands today lack rate free routes_r routes_f offers_r offers_f wants_r wants_f leaves_r leaves_f hq) ⟨rfl, rfl, Nat.le_of_ble_eq_true rfl, Nat.le_of_ble_eq_true rfl⟩ [0, 1, 2, 3, 4, 5, 6, 7, 8, 9] rfl rfl rfl rfl rfl rfl rfl hl.1 (Nat.le_of_ble_eq_true rfl) ⟨Nat.zero_le _, Nat.zero_le _⟩ dX6_suits_33 (fun H locs hW => ?_)
      refine lv_if_eq (tgt := 43) hx hb dX6_suits_36 (by decide) (fun c19 => ?_) (fun c19 => ?_)
      · have h := (if_pos c19).symm.trans h
        refine lv_iconst hx hb dX6_suits_43 qI_0 ?_
        obtain rfl := Option.some.inj h
        exact g_iret X hW dX6_suits_44
      · have h := (if_neg c19).symm.trans h
        refine lv_iconst hx hb dX6_suits_39 qI_1 ?_
        refine lv_goto (tgt := 44) hx hb dX6_suits_40 (by decide) ?_
        obtain rfl := Option.some.inj h
        exact g_iret X hW dX6_suits_44
    · have h := (if_pos c14).symm.trans h
      refine lv_iconst hx hb dX6_suits_28 qI_m1 ?_
      obtain rfl := Option.some.inj h
      exact g_iret X hW dX6_suits_29
theorem kcX6_suits {l : Launch} (G : Gt) (a_eb a_desk a_desk_routes a_desk_routes_a a_desk_offers a_desk_offers_a a_desk_wants a_desk_wants_a a_desk_leaves a_desk_leaves_a a_kept a_tape a_text a_plan a_mat a_desk_boxes a_desk_words a_desk_weeks a_desk_leases a_desk_uses : Nat) (v1 : Int32) (v2 : Int32) (isKept : Int32) (planStands : Int32) (today : Int32) (lack : Int32) (rate : Int32) (free : Int32) (routes_r : Int32) (routes_f : (Nat → Int32)) (offers_r : Int32) (offers_f : (Nat → Int32)) (wants_r : Int32) (wants_f : (Nat → Int32)) (leaves_r : Int32) (leaves_f : (Nat → Int32)) {r : Int32}  (h : fX6_suits v1 v2 routes_r routes_f offers_r offers_f wants_r wants_f leaves_r leaves_f = some r) : CtI G l yX6_suits wsX6_suits rmX6_suits [.ref a_eb, .int v1, .int v2] (wX6_suits G a_eb a_desk a_desk_routes a_desk_routes_a a_desk_offers a_desk_offers_a a_desk_wants a_desk_wants_a a_desk_leaves a_desk_leaves_a a_kept a_tape a_text a_plan a_mat a_desk_boxes a_desk_words a_desk_weeks a_desk_leases a_desk_uses isKept planStands today lack rate free routes_r routes_f offers_r offers_f wants_r wants_f leaves_r leaves_f) r (wX6_suits G a_eb a_desk a_desk_routes a_desk_routes_a a_desk_offers a_desk_offers_a a_desk_wants a_desk_wants_a a_desk_leaves a_desk_leaves_a a_kept a_tape a_text a_plan a_mat a_desk_boxes a_desk_words a_desk_weeks a_desk_leases a_desk_uses isKept planStands today lack rate free routes_r routes_f offers_r offers_f wants_r wants_f leaves_r leaves_f) := k0X6_suits G a_eb a_desk a_desk_routes a_desk_routes_a a_desk_offers a_desk_offers_a a_desk_wants a_desk_wants_a a_desk_leaves a_desk_leaves_a a_kept a_tape a_text a_plan a_mat a_desk_boxes a_desk_words a_desk_weeks a_desk_leases a_desk_uses v1 v2 isKept planStands today lack rate free routes_r routes_f offers_r offers_f wants_r wants_f leaves_r leaves_f h
end MX6_suits
/-! EmptyBoxes.gapBetween -/
section MX6_gapBetween
theorem hdX6_gapBetween : yX6_gapBetween.cls = RX6 ∧ yX6_gapBetween.cls ≠ "java/lang/invoke/MethodHandle" ∧ yX6_gapBetween.cls ≠ "java/lang/invoke/VarHandle" ∧ (parseMethodDescriptor yX6_gapBetween.desc).map (fun d => d.parameters.length) = some 2 := by decide +kernel
abbrev wX6_gapBetween (G : Gt) (a_eb a_desk a_desk_offers a_desk_offers_a a_desk_wants a_desk_wants_a a_kept a_tape a_text a_plan a_mat a_desk_boxes a_desk_words a_desk_weeks a_desk_routes a_desk_leaves a_desk_leases a_desk_uses : Nat) (isKept : Int32) (planStands : Int32) (today : Int32) (lack : Int32) (rate : Int32) (free : Int32) (offers_r : Int32) (offers_f : (Nat → Int32)) (wants_r : Int32) (wants_f : (Nat → Int32)) : va_W := [(a_eb, .inr (6, [.ref a_desk, .ref a_kept, .ref a_tape, .ref a_text, .ref a_plan, .ref a_mat, .int isKept, .int planStands])), (a_desk, .inr (0, [.ref a_desk_boxes, .ref a_desk_words, .ref a_desk_weeks, .ref a_desk_routes, .ref a_desk_offers, .ref a_desk_wants, .ref a_desk_leaves, .ref a_desk_leases, .ref a_desk_uses, .int today, .int lack, .int rate, .int free])), (a_desk_offers, .inr (4, [.ref a_desk_offers_a, .int (5 : Int32), .int (7 : Int32), .int offers_r])), (a_desk_offers_a, .inl (G.2.1, 35, .inl offers_f)), (a_desk_wants, .inr (4, [.ref a_desk_wants_a, .int (5 : Int32), .int (7 : Int32), .int wants_r])), (a_desk_wants_a, .inl (G.2.1, 35, .inl wants_f))]
abbrev rmX6_gapBetween : Room := { frames := 2, cells := 0, slots := 0, locals := 44 }
theorem iX6_gapBetween_X0 : ∀ w ∈ wsX00, w ∈ wsX6_gapBetween := by decide +kernel
theorem iX6_gapBetween_X6 : ∀ w ∈ wsX60, w ∈ wsX6_gapBetween := by decide +kernel
theorem eX6_gapBetween_12 : Fk wsX6_gapBetween RX6 12 6 0 := ⟨RX6, TX6, 8, rfl, iX6_gapBetween_X6, by decide, by decide +kernel⟩
theorem eX6_gapBetween_195 : Fk wsX6_gapBetween RX6 195 0 5 := ⟨RX0, TX0, 13, rfl, iX6_gapBetween_X0, by decide, by decide +kernel⟩
theorem eX6_gapBetween_198 : Fk wsX6_gapBetween RX6 198 0 4 := ⟨RX0, TX0, 13, rfl, iX6_gapBetween_X0, by decide, by decide +kernel⟩
theorem ckX6_gapBetween_X4_cell_113 : CkV wsX6_gapBetween RX6 113 yX4_cell wsX4_cell cX4_cell 3 (some .int) 2 4 := ⟨RX4, TX4, 4, _, rfl, gX6_gapBetween_X4_cell, rfl, hdX4_cell⟩
theorem cmX6_gapBetween_243 : CkM wsX6_gapBetween RX6 243 Lib.Math.abs.name Lib.Math.abs.code 1 := by decide +kernel
variable {p : Program} {l : Launch} {e : Env} {s : State} {m : MethodId} {args : Array Value} {below : List Frame} {meth : Method} {c : Code} {A : Nat → Prop} {G : Gt} {a_eb a_desk a_desk_offers a_desk_offers_a a_desk_wants a_desk_wants_a a_kept a_tape a_text a_plan a_mat a_desk_boxes a_desk_words a_desk_weeks a_desk_routes a_desk_leaves a_desk_leases a_desk_uses : Nat} {isKept : Int32} {planStands : Int32} {today : Int32} {lack : Int32} {rate : Int32} {free : Int32} {offers_r : Int32} {offers_f : (Nat → Int32)} {wants_r : Int32} {wants_f : (Nat → Int32)} {res : Int32}
set_option maxHeartbeats 4000000 in
set_option maxRecDepth 100000 in
theorem k0X6_gapBetween {l : Launch} (G : Gt) (a_eb a_desk a_desk_offers a_desk_offers_a a_desk_wants a_desk_wants_a a_kept a_tape a_text a_plan a_mat a_desk_boxes a_desk_words a_desk_weeks a_desk_routes a_desk_leaves a_desk_leases a_desk_uses : Nat) (v1 : Int32) (v2 : Int32) (isKept : Int32) (planStands : Int32) (today : Int32) (lack : Int32) (rate : Int32) (free : Int32) (offers_r : Int32) (offers_f : (Nat → Int32)) (wants_r : Int32) (wants_f : (Nat → Int32)) {res : Int32} (h : fX6_gapBetween v1 v2 offers_r offers_f wants_r wants_f = some res) : CtI G l yX6_gapBetween wsX6_gapBetween rmX6_gapBetween [.ref a_eb, .int v1, .int v2] (wX6_gapBetween G a_eb a_desk a_desk_offers a_desk_offers_a a_desk_wants a_desk_wants_a a_kept a_tape a_text a_plan a_mat a_desk_boxes a_desk_words a_desk_weeks a_desk_routes a_desk_leaves a_desk_leases a_desk_uses isKept planStands today lack rate free offers_r offers_f wants_r wants_f) res (wX6_gapBetween G a_eb a_desk a_desk_offers a_desk_offers_a a_desk_wants a_desk_wants_a a_kept a_tape a_text a_plan a_mat a_desk_boxes a_desk_words a_desk_weeks a_desk_routes a_desk_leaves a_desk_leases a_desk_uses isKept planStands today lack rate free offers_r offers_f wants_r wants_f) := by
  refine CtI.mk (cc := cX6_gapBetween) (maxL := 3) (ret := (some .int)) (own := RX6) (by decide) rfl rfl (Nat.le_of_ble_eq_true rfl) ?_
  intro p e s m below meth c A X ls hl hW
  obtain ⟨hx, hb, -⟩ := id X.1
  have hl : lv_has ls 3 [(0, .ref a_eb), (1, .int v1), (2, .int v2)] := hl
  generalize hH : s.heap = H at hW ⊢
  generalize hLo : ([] : List Loc) = locs at hW ⊢
  rw [fX6_gapBetween] at h
  refine lv_aload_n hx hb dX6_gapBetween_0 rfl (lv_at hl 0 rfl) ?_
  refine g_get X hW eX6_gapBetween_12 0 rfl rfl dX6_gapBetween_1 ?_
  refine g_get X hW eX6_gapBetween_198 1 rfl rfl dX6_gapBetween_4 ?_
  refine lv_iload_n hx hb dX6_gapBetween_7 rfl (lv_at hl 1 rfl) ?_
  refine lv_iconst hx hb dX6_gapBetween_8 qI_3 ?_
  obtain ⟨r6, hq, h⟩ := bn1_some h
  refine g_cvi X hW (As := [.int v1, .int (3 : Int32)]) (ws' := (wX6_gapBetween G a_eb a_desk a_desk_offers a_desk_offers_a a_desk_wants a_desk_wants_a a_kept a_tape a_text a_plan a_mat a_desk_boxes a_desk_words a_desk_weeks a_desk_routes a_desk_leaves a_desk_leases a_desk_uses isKept planStands today lack rate free offers_r offers_f wants_r wants_f)) ckX6_gapBetween_X4_cell_113 (kcX4_cell (l := l) G a_desk_offers a_desk_offers_a v1 (3 : Int32) (5 : Int32) (7 : Int32) offers_r 35 offers_f hq) ⟨rfl, rfl, Nat.le_of_ble_eq_true rfl, Nat.le_of_ble_eq_true rfl⟩ [2, 3] rfl rfl rfl rfl rfl rfl rfl hl.1 (Nat.le_of_ble_eq_true rfl) ⟨Nat.zero_le _, Nat.zero_le _⟩ dX6_gapBetween_9 (fun H locs hW => ?_)
  refine lv_aload_n hx hb dX6_gapBetween_12 rfl (lv_at hl 0 rfl) ?_
  refine g_get X hW eX6_gapBetween_12 0 rfl rfl dX6_gapBetween_13 ?_
  refine g_get X hW eX6_gapBetween_195 1 rfl rfl dX6_gapBetween_16 ?_
  refine lv_iload_n hx hb dX6_gapBetween_19 rfl (lv_at hl 2 rfl) ?_
  refine lv_iconst hx hb dX6_gapBetween_20 qI_3 ?_
  obtain ⟨r12, hq, h⟩ := bn1_some h
  refine g_cvi X hW (As := [.int v2, .int (3 : Int32)]) (ws' := (wX6_gapBetween G a_eb a_desk a_desk_offers a_desk_offers_a a_desk_wants a_desk_wants_a a_kept a_tape a_text a_plan a_mat a_desk_boxes a_desk_words a_desk_weeks a_desk_routes a_desk_leaves a_desk_leases a_desk_uses isKept planStands today lack rate free offers_r offers_f wants_r wants_f)) ckX6_gapBetween_X4_cell_113 (kcX4_cell (l := l) G a_desk_wants a_desk_wants_a v2 (3 : Int32) (5 : Int32) (7 : Int32) wants_r 35 wants_f hq) ⟨rfl, rfl, Nat.le_of_ble_eq_true rfl, Nat.le_of_ble_eq_true rfl⟩ [4, 5] rfl rfl rfl rfl rfl rfl rfl hl.1 (Nat.le_of_ble_eq_true rfl) ⟨Nat.zero_le _, Nat.zero_le _⟩ dX6_gapBetween_21 (fun H locs hW => ?_)
  refine lv_isub hx hb dX6_gapBetween_24 ?_
  refine g_mabs X cmX6_gapBetween_243 hl.1 (Nat.le_of_ble_eq_true rfl) (Nat.le_of_ble_eq_true rfl) ⟨Nat.zero_le _, Nat.zero_le _⟩ dX6_gapBetween_25 ?_
  obtain rfl := Option.some.inj h
  exact g_iret X hW dX6_gapBetween_28
theorem kcX6_gapBetween {l : Launch} (G : Gt) (a_eb a_desk a_desk_offers a_desk_offers_a a_desk_wants a_desk_wants_a a_kept a_tape a_text a_plan a_mat a_desk_boxes a_desk_words a_desk_weeks a_desk_routes a_desk_leaves a_desk_leases a_desk_uses : Nat) (v1 : Int32) (v2 : Int32) (isKept : Int32) (planStands : Int32) (today : Int32) (lack : Int32) (rate : Int32) (free : Int32) (offers_r : Int32) (offers_f : (Nat → Int32)) (wants_r : Int32) (wants_f : (Nat → Int32)) {r : Int32}  (h : fX6_gapBetween v1 v2 offers_r offers_f wants_r wants_f = some r) : CtI G l yX6_gapBetween wsX6_gapBetween rmX6_gapBetween [.ref a_eb, .int v1, .int v2] (wX6_gapBetween G a_eb a_desk a_desk_offers a_desk_offers_a a_desk_wants a_desk_wants_a a_kept a_tape a_text a_plan a_mat a_desk_boxes a_desk_words a_desk_weeks a_desk_routes a_desk_leaves a_desk_leases a_desk_uses isKept planStands today lack rate free offers_r offers_f wants_r wants_f) r (wX6_gapBetween G a_eb a_desk a_desk_offers a_desk_offers_a a_desk_wants a_desk_wants_a a_kept a_tape a_text a_plan a_mat a_desk_boxes a_desk_words a_desk_weeks a_desk_routes a_desk_leaves a_desk_leases a_desk_uses isKept planStands today lack rate free offers_r offers_f wants_r wants_f) := k0X6_gapBetween G a_eb a_desk a_desk_offers a_desk_offers_a a_desk_wants a_desk_wants_a a_kept a_tape a_text a_plan a_mat a_desk_boxes a_desk_words a_desk_weeks a_desk_routes a_desk_leaves a_desk_leases a_desk_uses v1 v2 isKept planStands today lack rate free offers_r offers_f wants_r wants_f h
end MX6_gapBetween
/-! EmptyBoxes.makeMatch -/
section MX6_makeMatch
theorem hdX6_makeMatch : yX6_makeMatch.cls = RX6 ∧ yX6_makeMatch.cls ≠ "java/lang/invoke/MethodHandle" ∧ yX6_makeMatch.cls ≠ "java/lang/invoke/VarHandle" ∧ (parseMethodDescriptor yX6_makeMatch.desc).map (fun d => d.parameters.length) = some 0 := by decide +kernel
abbrev wX6_makeMatch (G : Gt) (a_eb a_desk a_desk_routes a_desk_routes_a a_desk_offers a_desk_offers_a a_desk_wants a_desk_wants_a a_desk_leaves a_desk_leaves_a a_mat a_mat_score a_mat_best a_mat_given a_kept a_tape a_text a_plan a_desk_boxes a_desk_words a_desk_weeks a_desk_leases a_desk_uses : Nat) (isKept : Int32) (planStands : Int32) (today : Int32) (lack : Int32) (rate : Int32) (free : Int32) (routes_r : Int32) (routes_f : (Nat → Int32)) (offers_r : Int32) (offers_f : (Nat → Int32)) (wants_r : Int32) (wants_f : (Nat → Int32)) (leaves_r : Int32) (leaves_f : (Nat → Int32)) (mt_offers : Int32) (mt_wants : Int32) (mt_pairs : Int32) (mt_gap : Int32) (mt_score : (Nat → Int32)) (mt_best : (Nat → Int32)) (mt_given : (Nat → Int32)) : va_W := [(a_eb, .inr (6, [.ref a_desk, .ref a_kept, .ref a_tape, .ref a_text, .ref a_plan, .ref a_mat, .int isKept, .int planStands])), (a_desk, .inr (0, [.ref a_desk_boxes, .ref a_desk_words, .ref a_desk_weeks, .ref a_desk_routes, .ref a_desk_offers, .ref a_desk_wants, .ref a_desk_leaves, .ref a_desk_leases, .ref a_desk_uses, .int today, .int lack, .int rate, .int free])), (a_desk_routes, .inr (4, [.ref a_desk_routes_a, .int (5 : Int32), .int (10 : Int32), .int routes_r])), (a_desk_routes_a, .inl (G.2.1, 50, .inl routes_f)), (a_desk_offers, .inr (4, [.ref a_desk_offers_a, .int (5 : Int32), .int (7 : Int32), .int offers_r])), (a_desk_offers_a, .inl (G.2.1, 35, .inl offers_f)), (a_desk_wants, .inr (4, [.ref a_desk_wants_a, .int (5 : Int32), .int (7 : Int32), .int wants_r])), (a_desk_wants_a, .inl (G.2.1, 35, .inl wants_f)), (a_desk_leaves, .inr (4, [.ref a_desk_leaves_a, .int (4 : Int32), .int (4 : Int32), .int leaves_r])), (a_desk_leaves_a, .inl (G.2.1, 16, .inl leaves_f)), (a_mat, .inr (2, [.ref a_mat_score, .ref a_mat_best, .ref a_mat_given, .int mt_offers, .int mt_wants, .int mt_pairs, .int mt_gap])), (a_mat_score, .inl (G.2.1, 49, .inl mt_score)), (a_mat_best, .inl (G.2.1, 1024, .inl mt_best)), (a_mat_given, .inl (G.2.1, 7, .inl mt_given))]
abbrev rmX6_makeMatch : Room := { frames := 5, cells := 0, slots := 0, locals := 110 }
theorem iX6_makeMatch_X0 : ∀ w ∈ wsX00, w ∈ wsX6_makeMatch := by decide +kernel
theorem iX6_makeMatch_X6 : ∀ w ∈ wsX60, w ∈ wsX6_makeMatch := by decide +kernel
theorem eX6_makeMatch_12 : Fk wsX6_makeMatch RX6 12 6 0 := ⟨RX6, TX6, 8, rfl, iX6_makeMatch_X6, by decide, by decide +kernel⟩
theorem eX6_makeMatch_195 : Fk wsX6_makeMatch RX6 195 0 5 := ⟨RX0, TX0, 13, rfl, iX6_makeMatch_X0, by decide, by decide +kernel⟩
theorem eX6_makeMatch_198 : Fk wsX6_makeMatch RX6 198 0 4 := ⟨RX0, TX0, 13, rfl, iX6_makeMatch_X0, by decide, by decide +kernel⟩
theorem eX6_makeMatch_43 : Fk wsX6_makeMatch RX6 43 6 5 := ⟨RX6, TX6, 8, rfl, iX6_makeMatch_X6, by decide, by decide +kernel⟩
theorem ckX6_makeMatch_X2_allow_238 : CkV wsX6_makeMatch RX6 238 yX2_allow wsX2_allow cX2_allow 4 none 3 2 := ⟨RX2, TX2, 7, _, rfl, gX6_makeMatch_X2_allow, rfl, hdX2_allow⟩
theorem ckX6_makeMatch_X2_begin_231 : CkV wsX6_makeMatch RX6 231 yX2_begin wsX2_begin cX2_begin 4 none 2 2 := ⟨RX2, TX2, 7, _, rfl, gX6_makeMatch_X2_begin, rfl, hdX2_begin⟩
theorem ckX6_makeMatch_X2_solve_241 : CkV wsX6_makeMatch RX6 241 yX2_solve wsX2_solve cX2_solve 3 none 0 2 := ⟨RX2, TX2, 7, _, rfl, gX6_makeMatch_X2_solve, rfl, hdX2_solve⟩
theorem ckX6_makeMatch_X4_size_117 : CkV wsX6_makeMatch RX6 117 yX4_size wsX4_size cX4_size 1 (some .int) 0 4 := ⟨RX4, TX4, 4, _, rfl, gX6_makeMatch_X4_size, rfl, hdX4_size⟩
theorem ckX6_makeMatch_X6_gapBetween_235 : CkV wsX6_makeMatch RX6 235 yX6_gapBetween wsX6_gapBetween cX6_gapBetween 3 (some .int) 2 6 := ⟨RX6, TX6, 8, _, rfl, gX6_makeMatch_X6_gapBetween, rfl, hdX6_gapBetween⟩
theorem ckX6_makeMatch_X6_isSuited_207 : CkV wsX6_makeMatch RX6 207 yX6_isSuited wsX6_isSuited cX6_isSuited 3 (some .boolean) 2 6 := ⟨RX6, TX6, 8, _, rfl, gX6_makeMatch_X6_isSuited, rfl, hdX6_isSuited⟩
variable {p : Program} {l : Launch} {e : Env} {s : State} {m : MethodId} {args : Array Value} {below : List Frame} {meth : Method} {c : Code} {A : Nat → Prop} {G : Gt} {a_eb a_desk a_desk_routes a_desk_routes_a a_desk_offers a_desk_offers_a a_desk_wants a_desk_wants_a a_desk_leaves a_desk_leaves_a a_mat a_mat_score a_mat_best a_mat_given a_kept a_tape a_text a_plan a_desk_boxes a_desk_words a_desk_weeks a_desk_leases a_desk_uses : Nat} {isKept : Int32} {planStands : Int32} {today : Int32} {lack : Int32} {rate : Int32} {free : Int32} {routes_r : Int32} {routes_f : (Nat → Int32)} {offers_r : Int32} {offers_f : (Nat → Int32)} {wants_r : Int32} {wants_f : (Nat → Int32)} {leaves_r : Int32} {leaves_f : (Nat → Int32)} {res : Int32 × Int32 × Int32 × Int32 × (Nat → Int32) × (Nat → Int32) × (Nat → Int32)}
set_option maxHeartbeats 4000000 in
set_option maxRecDepth 100000 in
theorem tX6_makeMatch_95 (X : Bx p s m args meth c cX6_makeMatch 3 wsX6_makeMatch RX6 none) (mt_offers : Int32) (mt_wants : Int32) (mt_pairs : Int32) (mt_gap : Int32) (mt_score : (Nat → Int32)) (mt_best : (Nat → Int32)) (mt_given : (Nat → Int32))   (h : fX6_makeMatch_95 mt_offers mt_wants mt_pairs mt_gap mt_score mt_best mt_given = some res) : ∀ (H : Heap) (locs : List Loc), Wo G A s (wX6_makeMatch G a_eb a_desk a_desk_routes a_desk_routes_a a_desk_offers a_desk_offers_a a_desk_wants a_desk_wants_a a_desk_leaves a_desk_leaves_a a_mat a_mat_score a_mat_best a_mat_given a_kept a_tape a_text a_plan a_desk_boxes a_desk_words a_desk_weeks a_desk_leases a_desk_uses isKept planStands today lack rate free routes_r routes_f offers_r offers_f wants_r wants_f leaves_r leaves_f mt_offers mt_wants mt_pairs mt_gap mt_score mt_best mt_given) H locs → ∀ ls : Array Slot, lv_has ls 3 [(0, .ref a_eb)] → W p l e rmX6_makeMatch s m args below meth c H locs 0 0 (QV G A below args s (wX6_makeMatch G a_eb a_desk a_desk_routes a_desk_routes_a a_desk_offers a_desk_offers_a a_desk_wants a_desk_wants_a a_desk_leaves a_desk_leaves_a a_mat a_mat_score a_mat_best a_mat_given a_kept a_tape a_text a_plan a_desk_boxes a_desk_words a_desk_weeks a_desk_leases a_desk_uses isKept planStands today lack rate free routes_r routes_f offers_r offers_f wants_r wants_f leaves_r leaves_f res.1 res.2.1 res.2.2.1 res.2.2.2.1 res.2.2.2.2.1 res.2.2.2.2.2.1 res.2.2.2.2.2.2)) (F0 m 95 ls []) := by
  obtain ⟨hx, hb, -⟩ := id X.1
  intro H locs hW ls hl
  rw [fX6_makeMatch_95] at h
  refine lv_aload_n hx hb dX6_makeMatch_95 rfl (lv_at hl 0 rfl) ?_
  refine g_get X hW eX6_makeMatch_43 0 rfl rfl dX6_makeMatch_96 ?_
  obtain ⟨o3_mt_pairs, o3_mt_gap, o3_mt_best, o3_mt_given, hq, h⟩ := bn4_some h
  refine g_cvv X hW (As := []) (ws' := (wX6_makeMatch G a_eb a_desk a_desk_routes a_desk_routes_a a_desk_offers a_desk_offers_a a_desk_wants a_desk_wants_a a_desk_leaves a_desk_leaves_a a_mat a_mat_score a_mat_best a_mat_given a_kept a_tape a_text a_plan a_desk_boxes a_desk_words a_desk_weeks a_desk_leases a_desk_uses isKept planStands today lack rate free routes_r routes_f offers_r offers_f wants_r wants_f leaves_r leaves_f mt_offers mt_wants o3_mt_pairs o3_mt_gap mt_score o3_mt_best o3_mt_given)) ckX6_makeMatch_X2_solve_241 (kcX2_solve (l := l) G a_mat a_mat_score a_mat_best a_mat_given mt_offers mt_wants mt_pairs mt_gap mt_score mt_best mt_given hq) ⟨rfl, rfl, Nat.le_of_ble_eq_true rfl, Nat.le_of_ble_eq_true rfl⟩ [10, 11, 12, 13] rfl rfl rfl rfl rfl rfl rfl hl.1 (Nat.le_of_ble_eq_true rfl) ⟨Nat.zero_le _, Nat.zero_le _⟩ dX6_makeMatch_99 (fun H locs hW => ?_)
  obtain rfl := Option.some.inj h
  exact g_vret X hW dX6_makeMatch_102
set_option maxHeartbeats 4000000 in
set_option maxRecDepth 100000 in
theorem tX6_makeMatch_89 (X : Bx p s m args meth c cX6_makeMatch 3 wsX6_makeMatch RX6 none) (v1 : Int32) (mt_offers : Int32) (mt_wants : Int32) (mt_pairs : Int32) (mt_gap : Int32) (mt_score : (Nat → Int32)) (mt_best : (Nat → Int32)) (mt_given : (Nat → Int32)) (k_29 : Int32 → (Nat → Int32) → Option (Int32 × Int32 × Int32 × Int32 × (Nat → Int32) × (Nat → Int32) × (Nat → Int32))) (Hk_29 : ∀ (v1 : Int32) (mt_score : (Nat → Int32)), k_29 v1 mt_score = some res → ∀ (H : Heap) (locs : List Loc), Wo G A s (wX6_makeMatch G a_eb a_desk a_desk_routes a_desk_routes_a a_desk_offers a_desk_offers_a a_desk_wants a_desk_wants_a a_desk_leaves a_desk_leaves_a a_mat a_mat_score a_mat_best a_mat_given a_kept a_tape a_text a_plan a_desk_boxes a_desk_words a_desk_weeks a_desk_leases a_desk_uses isKept planStands today lack rate free routes_r routes_f offers_r offers_f wants_r wants_f leaves_r leaves_f mt_offers mt_wants mt_pairs mt_gap mt_score mt_best mt_given) H locs → ∀ ls : Array Slot, lv_has ls 3 [(0, .ref a_eb), (1, .int v1)] → W p l e rmX6_makeMatch s m args below meth c H locs 0 0 (QV G A below args s (wX6_makeMatch G a_eb a_desk a_desk_routes a_desk_routes_a a_desk_offers a_desk_offers_a a_desk_wants a_desk_wants_a a_desk_leaves a_desk_leaves_a a_mat a_mat_score a_mat_best a_mat_given a_kept a_tape a_text a_plan a_desk_boxes a_desk_words a_desk_weeks a_desk_leases a_desk_uses isKept planStands today lack rate free routes_r routes_f offers_r offers_f wants_r wants_f leaves_r leaves_f res.1 res.2.1 res.2.2.1 res.2.2.2.1 res.2.2.2.2.1 res.2.2.2.2.2.1 res.2.2.2.2.2.2)) (F0 m 29 ls [])) (h : fX6_makeMatch_89 k_29 v1 mt_score = some res) : ∀ (H : Heap) (locs : List Loc), Wo G A s (wX6_makeMatch G a_eb a_desk a_desk_routes a_desk_routes_a a_desk_offers a_desk_offers_a a_desk_wants a_desk_wants_a a_desk_leaves a_desk_leaves_a a_mat a_mat_score a_mat_best a_mat_given a_kept a_tape a_text a_plan a_desk_boxes a_desk_words a_desk_weeks a_desk_leases a_desk_uses isKept planStands today lack rate free routes_r routes_f offers_r offers_f wants_r wants_f leaves_r leaves_f mt_offers mt_wants mt_pairs mt_gap mt_score mt_best mt_given) H locs → ∀ ls : Array Slot, lv_has ls 3 [(0, .ref a_eb), (1, .int v1)] → W p l e rmX6_makeMatch s m args below meth c H locs 0 0 (QV G A below args s (wX6_makeMatch G a_eb a_desk a_desk_routes a_desk_routes_a a_desk_offers a_desk_offers_a a_desk_wants a_desk_wants_a a_desk_leaves a_desk_leaves_a a_mat a_mat_score a_mat_best a_mat_given a_kept a_tape a_text a_plan a_desk_boxes a_desk_words a_desk_weeks a_desk_leases a_desk_uses isKept planStands today lack rate free routes_r routes_f offers_r offers_f wants_r wants_f leaves_r leaves_f res.1 res.2.1 res.2.2.1 res.2.2.2.1 res.2.2.2.2.1 res.2.2.2.2.2.1 res.2.2.2.2.2.2)) (F0 m 89 ls []) := by
  obtain ⟨hx, hb, -⟩ := id X.1
  intro H locs hW ls hl
  rw [fX6_makeMatch_89] at h
  refine lv_iinc (v := (v1 + (1 : Int32))) (lv' := [(1, .int (v1 + (1 : Int32))), (0, .ref a_eb)]) hx hb dX6_makeMatch_89 hl (k := 1) rfl (congrArg (fun z => v1 + z) qI_1) (by decide) rfl (fun ls hl => ?_)
  refine lv_goto (tgt := 29) hx hb dX6_makeMatch_92 (by decide) ?_
  exact Hk_29 (v1 + (1 : Int32)) mt_score h H locs hW ls (lv_sub hl [1, 0] rfl)
set_option maxHeartbeats 4000000 in
set_option maxRecDepth 100000 in
theorem tX6_makeMatch_83 (X : Bx p s m args meth c cX6_makeMatch 3 wsX6_makeMatch RX6 none) (v1 : Int32) (v2 : Int32) (mt_offers : Int32) (mt_wants : Int32) (mt_pairs : Int32) (mt_gap : Int32) (mt_score : (Nat → Int32)) (mt_best : (Nat → Int32)) (mt_given : (Nat → Int32)) (k_45 : Int32 → (Nat → Int32) → Option (Int32 × Int32 × Int32 × Int32 × (Nat → Int32) × (Nat → Int32) × (Nat → Int32))) (Hk_45 : ∀ (v2 : Int32) (mt_score : (Nat → Int32)), k_45 v2 mt_score = some res → ∀ (H : Heap) (locs : List Loc), Wo G A s (wX6_makeMatch G a_eb a_desk a_desk_routes a_desk_routes_a a_desk_offers a_desk_offers_a a_desk_wants a_desk_wants_a a_desk_leaves a_desk_leaves_a a_mat a_mat_score a_mat_best a_mat_given a_kept a_tape a_text a_plan a_desk_boxes a_desk_words a_desk_weeks a_desk_leases a_desk_uses isKept planStands today lack rate free routes_r routes_f offers_r offers_f wants_r wants_f leaves_r leaves_f mt_offers mt_wants mt_pairs mt_gap mt_score mt_best mt_given) H locs → ∀ ls : Array Slot, lv_has ls 3 [(0, .ref a_eb), (1, .int v1), (2, .int v2)] → W p l e rmX6_makeMatch s m args below meth c H locs 0 0 (QV G A below args s (wX6_makeMatch G a_eb a_desk a_desk_routes a_desk_routes_a a_desk_offers a_desk_offers_a a_desk_wants a_desk_wants_a a_desk_leaves a_desk_leaves_a a_mat a_mat_score a_mat_best a_mat_given a_kept a_tape a_text a_plan a_desk_boxes a_desk_words a_desk_weeks a_desk_leases a_desk_uses isKept planStands today lack rate free routes_r routes_f offers_r offers_f wants_r wants_f leaves_r leaves_f res.1 res.2.1 res.2.2.1 res.2.2.2.1 res.2.2.2.2.1 res.2.2.2.2.2.1 res.2.2.2.2.2.2)) (F0 m 45 ls [])) (h : fX6_makeMatch_83 k_45 v2 mt_score = some res) : ∀ (H : Heap) (locs : List Loc), Wo G A s (wX6_makeMatch G a_eb a_desk a_desk_routes a_desk_routes_a a_desk_offers a_desk_offers_a a_desk_wants a_desk_wants_a a_desk_leaves a_desk_leaves_a a_mat a_mat_score a_mat_best a_mat_given a_kept a_tape a_text a_plan a_desk_boxes a_desk_words a_desk_weeks a_desk_leases a_desk_uses isKept planStands today lack rate free routes_r routes_f offers_r offers_f wants_r wants_f leaves_r leaves_f mt_offers mt_wants mt_pairs mt_gap mt_score mt_best mt_given) H locs → ∀ ls : Array Slot, lv_has ls 3 [(0, .ref a_eb), (1, .int v1), (2, .int v2)] → W p l e rmX6_makeMatch s m args below meth c H locs 0 0 (QV G A below args s (wX6_makeMatch G a_eb a_desk a_desk_routes a_desk_routes_a a_desk_offers a_desk_offers_a a_desk_wants a_desk_wants_a a_desk_leaves a_desk_leaves_a a_mat a_mat_score a_mat_best a_mat_given a_kept a_tape a_text a_plan a_desk_boxes a_desk_words a_desk_weeks a_desk_leases a_desk_uses isKept planStands today lack rate free routes_r routes_f offers_r offers_f wants_r wants_f leaves_r leaves_f res.1 res.2.1 res.2.2.1 res.2.2.2.1 res.2.2.2.2.1 res.2.2.2.2.2.1 res.2.2.2.2.2.2)) (F0 m 83 ls []) := by
  obtain ⟨hx, hb, -⟩ := id X.1
  intro H locs hW ls hl
  rw [fX6_makeMatch_83] at h
  refine lv_iinc (v := (v2 + (1 : Int32))) (lv' := [(2, .int (v2 + (1 : Int32))), (0, .ref a_eb), (1, .int v1)]) hx hb dX6_makeMatch_83 hl (k := 2) rfl (congrArg (fun z => v2 + z) qI_1) (by decide) rfl (fun ls hl => ?_)
  refine lv_goto (tgt := 45) hx hb dX6_makeMatch_86 (by decide) ?_
  exact Hk_45 (v2 + (1 : Int32)) mt_score h H locs hW ls (lv_sub hl [1, 2, 0] rfl)
set_option maxHeartbeats 4000000 in
set_option maxRecDepth 100000 in
theorem tX6_makeMatch_45 (X : Bx p s m args meth c cX6_makeMatch 3 wsX6_makeMatch RX6 none) (v1 : Int32) (mt_offers : Int32) (mt_wants : Int32) (mt_pairs : Int32) (mt_gap : Int32) (mt_best : (Nat → Int32)) (mt_given : (Nat → Int32)) (k_89 : (Nat → Int32) → Option (Int32 × Int32 × Int32 × Int32 × (Nat → Int32) × (Nat → Int32) × (Nat → Int32))) (Hk_89 : ∀ (mt_score : (Nat → Int32)), k_89 mt_score = some res → ∀ (H : Heap) (locs : List Loc), Wo G A s (wX6_makeMatch G a_eb a_desk a_desk_routes a_desk_routes_a a_desk_offers a_desk_offers_a a_desk_wants a_desk_wants_a a_desk_leaves a_desk_leaves_a a_mat a_mat_score a_mat_best a_mat_given a_kept a_tape a_text a_plan a_desk_boxes a_desk_words a_desk_weeks a_desk_leases a_desk_uses isKept planStands today lack rate free routes_r routes_f offers_r offers_f wants_r wants_f leaves_r leaves_f mt_offers mt_wants mt_pairs mt_gap mt_score mt_best mt_given) H locs → ∀ ls : Array Slot, lv_has ls 3 [(0, .ref a_eb), (1, .int v1)] → W p l e rmX6_makeMatch s m args below meth c H locs 0 0 (QV G A below args s (wX6_makeMatch G a_eb a_desk a_desk_routes a_desk_routes_a a_desk_offers a_desk_offers_a a_desk_wants a_desk_wants_a a_desk_leaves a_desk_leaves_a a_mat a_mat_score a_mat_best a_mat_given a_kept a_tape a_text a_plan a_desk_boxes a_desk_words a_desk_weeks a_desk_leases a_desk_uses isKept planStands today lack rate free routes_r routes_f offers_r offers_f wants_r wants_f leaves_r leaves_f res.1 res.2.1 res.2.2.1 res.2.2.2.1 res.2.2.2.2.1 res.2.2.2.2.2.1 res.2.2.2.2.2.2)) (F0 m 89 ls [])) : ∀ (n : Nat) (v2 : Int32) (mt_score : (Nat → Int32)), fX6_makeMatch_45 v1 routes_r routes_f offers_r offers_f wants_r wants_f leaves_r leaves_f mt_offers mt_wants k_89 n v2 mt_score = some res → ∀ (H : Heap) (locs : List Loc), Wo G A s (wX6_makeMatch G a_eb a_desk a_desk_routes a_desk_routes_a a_desk_offers a_desk_offers_a a_desk_wants a_desk_wants_a a_desk_leaves a_desk_leaves_a a_mat a_mat_score a_mat_best a_mat_given a_kept a_tape a_text a_plan a_desk_boxes a_desk_words a_desk_weeks a_desk_leases a_desk_uses isKept planStands today lack rate free routes_r routes_f offers_r offers_f wants_r wants_f leaves_r leaves_f mt_offers mt_wants mt_pairs mt_gap mt_score mt_best mt_given) H locs → ∀ ls : Array Slot, lv_has ls 3 [(0, .ref a_eb), (1, .int v1), (2, .int v2)] → W p l e rmX6_makeMatch s m args below meth c H locs 0 0 (QV G A below args s (wX6_makeMatch G a_eb a_desk a_desk_routes a_desk_routes_a a_desk_offers a_desk_offers_a a_desk_wants a_desk_wants_a a_desk_leaves a_desk_leaves_a a_mat a_mat_score a_mat_best a_mat_given a_kept a_tape a_text a_plan a_desk_boxes a_desk_words a_desk_weeks a_desk_leases a_desk_uses isKept planStands today lack rate free routes_r routes_f offers_r offers_f wants_r wants_f leaves_r leaves_f res.1 res.2.1 res.2.2.1 res.2.2.2.1 res.2.2.2.2.1 res.2.2.2.2.2.1 res.2.2.2.2.2.2)) (F0 m 45 ls []) := by
  obtain ⟨hx, hb, -⟩ := id X.1
  intro n
  induction n with
  | zero => intro v2 mt_score h; rw [fX6_makeMatch_45] at h; cases h
  | succ n ih =>
    intro v2 mt_score h H locs hW ls hl
    rw [fX6_makeMatch_45] at h
    refine lv_iload_n hx hb dX6_makeMatch_45 rfl (lv_at hl 2 rfl) ?_
    refine lv_aload_n hx hb dX6_makeMatch_46 rfl (lv_at hl 0 rfl) ?_
    refine g_get X hW eX6_makeMatch_12 0 rfl rfl dX6_makeMatch_47 ?_
    refine g_get X hW eX6_makeMatch_195 1 rfl rfl dX6_makeMatch_50 ?_
    obtain ⟨r13, hq, h⟩ := bn1_some h
    refine g_cvi X hW (As := []) (ws' := (wX6_makeMatch G a_eb a_desk a_desk_routes a_desk_routes_a a_desk_offers a_desk_offers_a a_desk_wants a_desk_wants_a a_desk_leaves a_desk_leaves_a a_mat a_mat_score a_mat_best a_mat_given a_kept a_tape a_text a_plan a_desk_boxes a_desk_words a_desk_weeks a_desk_leases a_desk_uses isKept planStands today lack rate free routes_r routes_f offers_r offers_f wants_r wants_f leaves_r leaves_f mt_offers mt_wants mt_pairs mt_gap mt_score mt_best mt_given)) ckX6_makeMatch_X4_size_117 (kcX4_size (l := l) G a_desk_wants a_desk_wants_a (5 : Int32) (7 : Int32) wants_r hq) ⟨rfl, rfl, Nat.le_of_ble_eq_true rfl, Nat.le_of_ble_eq_true rfl⟩ [6] rfl rfl rfl rfl rfl rfl rfl hl.1 (Nat.le_of_ble_eq_true rfl) ⟨Nat.zero_le _, Nat.zero_le _⟩ dX6_makeMatch_53 (fun H locs hW => ?_)
    refine lv_icmp_ge (tgt := 89) hx hb dX6_makeMatch_56 (by decide) (fun c14 => ?_) (fun c14 => ?_)
    · have h := (if_pos c14).symm.trans h
      exact Hk_89 mt_score h H locs hW ls (lv_sub hl [0, 1] rfl)
    · have h := (if_neg c14).symm.trans h
      refine lv_aload_n hx hb dX6_makeMatch_59 rfl (lv_at hl 0 rfl) ?_
      refine lv_iload_n hx hb dX6_makeMatch_60 rfl (lv_at hl 1 rfl) ?_
      refine lv_iload_n hx hb dX6_makeMatch_61 rfl (lv_at hl 2 rfl) ?_
      obtain ⟨r18, hq, h⟩ := bn1_some h
      refine g_cvi X hW (As := [.int v1, .int v2]) (ws' := (wX6_makeMatch G a_eb a_desk a_desk_routes a_desk_routes_a a_desk_offers a_desk_offers_a a_desk_wants a_desk_wants_a a_desk_leaves a_desk_leaves_a a_mat a_mat_score a_mat_best a_mat_given a_kept a_tape a_text a_plan a_desk_boxes a_desk_words a_desk_weeks a_desk_leases a_desk_uses isKept planStands today lack rate free routes_r routes_f offers_r offers_f wants_r wants_f leaves_r leaves_f mt_offers mt_wants mt_pairs mt_gap mt_score mt_best mt_given)) ckX6_makeMatch_X6_isSuited_207 (kcX6_isSuited (l := l) G a_eb a_desk a_desk_routes a_desk_routes_a a_desk_offers a_desk_offers_a a_desk_wants a_desk_wants_a a_desk_leaves a_desk_leaves_a a_kept a_tape a_text a_plan a_mat a_desk_boxes a_desk_words a_desk_weeks a_desk_leases a_desk_uses v1 v2 isKept planStands today lack rate free routes_r routes_f offers_r offers_f wants_r wants_f leaves_r leaves_f hq) ⟨rfl, rfl, Nat.le_of_ble_eq_true rfl, Nat.le_of_ble_eq_true rfl⟩ [0, 1, 2, 3, 4, 5, 6, 7, 8, 9] rfl rfl rfl rfl rfl rfl rfl hl.1 (Nat.le_of_ble_eq_true rfl) ⟨Nat.zero_le _, Nat.zero_le _⟩ dX6_makeMatch_62 (fun H locs hW => ?_)
      refine lv_if_eq (tgt := 83) hx hb dX6_makeMatch_65 (by decide) (fun c19 => ?_) (fun c19 => ?_)
      · have h := (if_pos c19).symm.trans h
        exact tX6_makeMatch_83 X v1 v2 mt_offers mt_wants mt_pairs mt_gap mt_score mt_best mt_given (fun v2 mt_score => fX6_makeMatch_45 v1 routes_r routes_f offers_r offers_f wants_r wants_f leaves_r leaves_f mt_offers mt_wants k_89 n v2 mt_score) ih h H locs hW ls hl
      · have h := (if_neg c19).symm.trans h
        refine lv_aload_n hx hb dX6_makeMatch_68 rfl (lv_at hl 0 rfl) ?_
        refine g_get X hW eX6_makeMatch_43 0 rfl rfl dX6_makeMatch_69 ?_
        refine lv_iload_n hx hb dX6_makeMatch_72 rfl (lv_at hl 1 rfl) ?_
        refine lv_iload_n hx hb dX6_makeMatch_73 rfl (lv_at hl 2 rfl) ?_
        refine lv_aload_n hx hb dX6_makeMatch_74 rfl (lv_at hl 0 rfl) ?_
        refine lv_iload_n hx hb dX6_makeMatch_75 rfl (lv_at hl 1 rfl) ?_
        refine lv_iload_n hx hb dX6_makeMatch_76 rfl (lv_at hl 2 rfl) ?_
        obtain ⟨r27, hq, h⟩ := bn1_some h
        refine g_cvi X hW (As := [.int v1, .int v2]) (ws' := (wX6_makeMatch G a_eb a_desk a_desk_routes a_desk_routes_a a_desk_offers a_desk_offers_a a_desk_wants a_desk_wants_a a_desk_leaves a_desk_leaves_a a_mat a_mat_score a_mat_best a_mat_given a_kept a_tape a_text a_plan a_desk_boxes a_desk_words a_desk_weeks a_desk_leases a_desk_uses isKept planStands today lack rate free routes_r routes_f offers_r offers_f wants_r wants_f leaves_r leaves_f mt_offers mt_wants mt_pairs mt_gap mt_score mt_best mt_given)) ckX6_makeMatch_X6_gapBetween_235 (kcX6_gapBetween (l := l) G a_eb a_desk a_desk_offers a_desk_offers_a a_desk_wants a_desk_wants_a a_kept a_tape a_text a_plan a_mat a_desk_boxes a_desk_words a_desk_weeks a_desk_routes a_desk_leaves a_desk_leases a_desk_uses v1 v2 isKept planStands today lack rate free offers_r offers_f wants_r wants_f hq) ⟨rfl, rfl, Nat.le_of_ble_eq_true rfl, Nat.le_of_ble_eq_true rfl⟩ [0, 1, 4, 5, 6, 7] rfl rfl rfl rfl rfl rfl rfl hl.1 (Nat.le_of_ble_eq_true rfl) ⟨Nat.zero_le _, Nat.zero_le _⟩ dX6_makeMatch_77 (fun H locs hW => ?_)
        obtain ⟨o28_mt_score, hq, h⟩ := bn1_some h
        refine g_cvv X hW (As := [.int v1, .int v2, .int r27]) (ws' := (wX6_makeMatch G a_eb a_desk a_desk_routes a_desk_routes_a a_desk_offers a_desk_offers_a a_desk_wants a_desk_wants_a a_desk_leaves a_desk_leaves_a a_mat a_mat_score a_mat_best a_mat_given a_kept a_tape a_text a_plan a_desk_boxes a_desk_words a_desk_weeks a_desk_leases a_desk_uses isKept planStands today lack rate free routes_r routes_f offers_r offers_f wants_r wants_f leaves_r leaves_f mt_offers mt_wants mt_pairs mt_gap o28_mt_score mt_best mt_given)) ckX6_makeMatch_X2_allow_238 (kcX2_allow (l := l) G a_mat a_mat_score a_mat_best a_mat_given v1 v2 r27 mt_offers mt_wants mt_pairs mt_gap mt_score hq) ⟨rfl, rfl, Nat.le_of_ble_eq_true rfl, Nat.le_of_ble_eq_true rfl⟩ [10, 11] rfl rfl rfl rfl rfl rfl rfl hl.1 (Nat.le_of_ble_eq_true rfl) ⟨Nat.zero_le _, Nat.zero_le _⟩ dX6_makeMatch_80 (fun H locs hW => ?_)
        exact tX6_makeMatch_83 X v1 v2 mt_offers mt_wants mt_pairs mt_gap o28_mt_score mt_best mt_given (fun v2 mt_score => fX6_makeMatch_45 v1 routes_r routes_f offers_r offers_f wants_r wants_f leaves_r leaves_f mt_offers mt_wants k_89 n v2 mt_score) ih h H locs hW ls hl
set_option maxHeartbeats 4000000 in
set_option maxRecDepth 100000 in
theorem tX6_makeMatch_29 (X : Bx p s m args meth c cX6_makeMatch 3 wsX6_makeMatch RX6 none) (mt_offers : Int32) (mt_wants : Int32) (mt_pairs : Int32) (mt_gap : Int32) (mt_best : (Nat → Int32)) (mt_given : (Nat → Int32)) (k_95 : (Nat → Int32) → Option (Int32 × Int32 × Int32 × Int32 × (Nat → Int32) × (Nat → Int32) × (Nat → Int32))) (Hk_95 : ∀ (mt_score : (Nat → Int32)), k_95 mt_score = some res → ∀ (H : Heap) (locs : List Loc), Wo G A s (wX6_makeMatch G a_eb a_desk a_desk_routes a_desk_routes_a a_desk_offers a_desk_offers_a a_desk_wants a_desk_wants_a a_desk_leaves a_desk_leaves_a a_mat a_mat_score a_mat_best a_mat_given a_kept a_tape a_text a_plan a_desk_boxes a_desk_words a_desk_weeks a_desk_leases a_desk_uses isKept planStands today lack rate free routes_r routes_f offers_r offers_f wants_r wants_f leaves_r leaves_f mt_offers mt_wants mt_pairs mt_gap mt_score mt_best mt_given) H locs → ∀ ls : Array Slot, lv_has ls 3 [(0, .ref a_eb)] → W p l e rmX6_makeMatch s m args below meth c H locs 0 0 (QV G A below args s (wX6_makeMatch G a_eb a_desk a_desk_routes a_desk_routes_a a_desk_offers a_desk_offers_a a_desk_wants a_desk_wants_a a_desk_leaves a_desk_leaves_a a_mat a_mat_score a_mat_best a_mat_given a_kept a_tape a_text a_plan a_desk_boxes a_desk_words a_desk_weeks a_desk_leases a_desk_uses isKept planStands today lack rate free routes_r routes_f offers_r offers_f wants_r wants_f leaves_r leaves_f res.1 res.2.1 res.2.2.1 res.2.2.2.1 res.2.2.2.2.1 res.2.2.2.2.2.1 res.2.2.2.2.2.2)) (F0 m 95 ls [])) : ∀ (n : Nat) (v1 : Int32) (mt_score : (Nat → Int32)), fX6_makeMatch_29 routes_r routes_f offers_r offers_f wants_r wants_f leaves_r leaves_f mt_offers mt_wants k_95 n v1 mt_score = some res → ∀ (H : Heap) (locs : List Loc), Wo G A s (wX6_makeMatch G a_eb a_desk a_desk_routes a_desk_routes_a a_desk_offers a_desk_offers_a a_desk_wants a_desk_wants_a a_desk_leaves a_desk_leaves_a a_mat a_mat_score a_mat_best a_mat_given a_kept a_tape a_text a_plan a_desk_boxes a_desk_words a_desk_weeks a_desk_leases a_desk_uses isKept planStands today lack rate free routes_r routes_f offers_r offers_f wants_r wants_f leaves_r leaves_f mt_offers mt_wants mt_pairs mt_gap mt_score mt_best mt_given) H locs → ∀ ls : Array Slot, lv_has ls 3 [(0, .ref a_eb), (1, .int v1)] → W p l e rmX6_makeMatch s m args below meth c H locs 0 0 (QV G A below args s (wX6_makeMatch G a_eb a_desk a_desk_routes a_desk_routes_a a_desk_offers a_desk_offers_a a_desk_wants a_desk_wants_a a_desk_leaves a_desk_leaves_a a_mat a_mat_score a_mat_best a_mat_given a_kept a_tape a_text a_plan a_desk_boxes a_desk_words a_desk_weeks a_desk_leases a_desk_uses isKept planStands today lack rate free routes_r routes_f offers_r offers_f wants_r wants_f leaves_r leaves_f res.1 res.2.1 res.2.2.1 res.2.2.2.1 res.2.2.2.2.1 res.2.2.2.2.2.1 res.2.2.2.2.2.2)) (F0 m 29 ls []) := by
  obtain ⟨hx, hb, -⟩ := id X.1
  intro n
  induction n with
  | zero => intro v1 mt_score h; rw [fX6_makeMatch_29] at h; cases h
  | succ n ih =>
    intro v1 mt_score h H locs hW ls hl
    rw [fX6_makeMatch_29] at h
    refine lv_iload_n hx hb dX6_makeMatch_29 rfl (lv_at hl 1 rfl) ?_
    refine lv_aload_n hx hb dX6_makeMatch_30 rfl (lv_at hl 0 rfl) ?_
    refine g_get X hW eX6_makeMatch_12 0 rfl rfl dX6_makeMatch_31 ?_
    refine g_get X hW eX6_makeMatch_198 1 rfl rfl dX6_makeMatch_34 ?_
    obtain ⟨r33, hq, h⟩ := bn1_some h
    refine g_cvi X hW (As := []) (ws' := (wX6_makeMatch G a_eb a_desk a_desk_routes a_desk_routes_a a_desk_offers a_desk_offers_a a_desk_wants a_desk_wants_a a_desk_leaves a_desk_leaves_a a_mat a_mat_score a_mat_best a_mat_given a_kept a_tape a_text a_plan a_desk_boxes a_desk_words a_desk_weeks a_desk_leases a_desk_uses isKept planStands today lack rate free routes_r routes_f offers_r offers_f wants_r wants_f leaves_r leaves_f mt_offers mt_wants mt_pairs mt_gap mt_score mt_best mt_given)) ckX6_makeMatch_X4_size_117 (kcX4_size (l := l) G a_desk_offers a_desk_offers_a (5 : Int32) (7 : Int32) offers_r hq) ⟨rfl, rfl, Nat.le_of_ble_eq_true rfl, Nat.le_of_ble_eq_true rfl⟩ [4] rfl rfl rfl rfl rfl rfl rfl hl.1 (Nat.le_of_ble_eq_true rfl) ⟨Nat.zero_le _, Nat.zero_le _⟩ dX6_makeMatch_37 (fun H locs hW => ?_)
    refine lv_icmp_ge (tgt := 95) hx hb dX6_makeMatch_40 (by decide) (fun c34 => ?_) (fun c34 => ?_)
    · have h := (if_pos c34).symm.trans h
      exact Hk_95 mt_score h H locs hW ls (lv_sub hl [0] rfl)
    · have h := (if_neg c34).symm.trans h
      refine lv_iconst hx hb dX6_makeMatch_43 qI_0 ?_
      refine lv_istore_n (lv' := [(2, .int (0 : Int32)), (0, .ref a_eb), (1, .int v1)]) hx hb dX6_makeMatch_44 rfl hl (by decide) rfl (fun ls hl => ?_)
      exact tX6_makeMatch_45 X v1 mt_offers mt_wants mt_pairs mt_gap mt_best mt_given (fun mt_score_q37 => fX6_makeMatch_89 (fun v1 mt_score => fX6_makeMatch_29 routes_r routes_f offers_r offers_f wants_r wants_f leaves_r leaves_f mt_offers mt_wants k_95 n v1 mt_score) v1 mt_score_q37) (fun mt_score_q37 h H locs hW ls hl => by exact tX6_makeMatch_89 X v1 mt_offers mt_wants mt_pairs mt_gap mt_score_q37 mt_best mt_given (fun v1 mt_score => fX6_makeMatch_29 routes_r routes_f offers_r offers_f wants_r wants_f leaves_r leaves_f mt_offers mt_wants k_95 n v1 mt_score) ih h H locs hW ls hl) FU (0 : Int32) mt_score h H locs hW ls (lv_sub hl [1, 2, 0] rfl)
set_option maxHeartbeats 4000000 in
set_option maxRecDepth 100000 in
theorem k0X6_makeMatch {l : Launch} (G : Gt) (a_eb a_desk a_desk_routes a_desk_routes_a a_desk_offers a_desk_offers_a a_desk_wants a_desk_wants_a a_desk_leaves a_desk_leaves_a a_mat a_mat_score a_mat_best a_mat_given a_kept a_tape a_text a_plan a_desk_boxes a_desk_words a_desk_weeks a_desk_leases a_desk_uses : Nat)  (isKept : Int32) (planStands : Int32) (today : Int32) (lack : Int32) (rate : Int32) (free : Int32) (routes_r : Int32) (routes_f : (Nat → Int32)) (offers_r : Int32) (offers_f : (Nat → Int32)) (wants_r : Int32) (wants_f : (Nat → Int32)) (leaves_r : Int32) (leaves_f : (Nat → Int32)) (mt_offers : Int32) (mt_wants : Int32) (mt_pairs : Int32) (mt_gap : Int32) (mt_score : (Nat → Int32)) (mt_best : (Nat → Int32)) (mt_given : (Nat → Int32)) {res : Int32 × Int32 × Int32 × Int32 × (Nat → Int32) × (Nat → Int32) × (Nat → Int32)} (h : fX6_makeMatch routes_r routes_f offers_r offers_f wants_r wants_f leaves_r leaves_f mt_offers mt_wants mt_pairs mt_gap mt_score mt_best mt_given = some res) : CtV G l yX6_makeMatch wsX6_makeMatch rmX6_makeMatch [.ref a_eb] (wX6_makeMatch G a_eb a_desk a_desk_routes a_desk_routes_a a_desk_offers a_desk_offers_a a_desk_wants a_desk_wants_a a_desk_leaves a_desk_leaves_a a_mat a_mat_score a_mat_best a_mat_given a_kept a_tape a_text a_plan a_desk_boxes a_desk_words a_desk_weeks a_desk_leases a_desk_uses isKept planStands today lack rate free routes_r routes_f offers_r offers_f wants_r wants_f leaves_r leaves_f mt_offers mt_wants mt_pairs mt_gap mt_score mt_best mt_given) (wX6_makeMatch G a_eb a_desk a_desk_routes a_desk_routes_a a_desk_offers a_desk_offers_a a_desk_wants a_desk_wants_a a_desk_leaves a_desk_leaves_a a_mat a_mat_score a_mat_best a_mat_given a_kept a_tape a_text a_plan a_desk_boxes a_desk_words a_desk_weeks a_desk_leases a_desk_uses isKept planStands today lack rate free routes_r routes_f offers_r offers_f wants_r wants_f leaves_r leaves_f res.1 res.2.1 res.2.2.1 res.2.2.2.1 res.2.2.2.2.1 res.2.2.2.2.2.1 res.2.2.2.2.2.2) := by
  refine CtV.mk (cc := cX6_makeMatch) (maxL := 3) (ret := none) (own := RX6) (by decide) rfl rfl (Nat.le_of_ble_eq_true rfl) ?_
  intro p e s m below meth c A X ls hl hW
  obtain ⟨hx, hb, -⟩ := id X.1
  have hl : lv_has ls 3 [(0, .ref a_eb)] := hl
  generalize hH : s.heap = H at hW ⊢
  generalize hLo : ([] : List Loc) = locs at hW ⊢
  rw [fX6_makeMatch] at h
  refine lv_aload_n hx hb dX6_makeMatch_0 rfl (lv_at hl 0 rfl) ?_
  refine g_get X hW eX6_makeMatch_43 0 rfl rfl dX6_makeMatch_1 ?_
  refine lv_aload_n hx hb dX6_makeMatch_4 rfl (lv_at hl 0 rfl) ?_
  refine g_get X hW eX6_makeMatch_12 0 rfl rfl dX6_makeMatch_5 ?_
  refine g_get X hW eX6_makeMatch_198 1 rfl rfl dX6_makeMatch_8 ?_
  obtain ⟨r43, hq, h⟩ := bn1_some h
  refine g_cvi X hW (As := []) (ws' := (wX6_makeMatch G a_eb a_desk a_desk_routes a_desk_routes_a a_desk_offers a_desk_offers_a a_desk_wants a_desk_wants_a a_desk_leaves a_desk_leaves_a a_mat a_mat_score a_mat_best a_mat_given a_kept a_tape a_text a_plan a_desk_boxes a_desk_words a_desk_weeks a_desk_leases a_desk_uses isKept planStands today lack rate free routes_r routes_f offers_r offers_f wants_r wants_f leaves_r leaves_f mt_offers mt_wants mt_pairs mt_gap mt_score mt_best mt_given)) ckX6_makeMatch_X4_size_117 (kcX4_size (l := l) G a_desk_offers a_desk_offers_a (5 : Int32) (7 : Int32) offers_r hq) ⟨rfl, rfl, Nat.le_of_ble_eq_true rfl, Nat.le_of_ble_eq_true rfl⟩ [4] rfl rfl rfl rfl rfl rfl rfl hl.1 (Nat.le_of_ble_eq_true rfl) ⟨Nat.zero_le _, Nat.zero_le _⟩ dX6_makeMatch_11 (fun H locs hW => ?_)
  refine lv_aload_n hx hb dX6_makeMatch_14 rfl (lv_at hl 0 rfl) ?_
  refine g_get X hW eX6_makeMatch_12 0 rfl rfl dX6_makeMatch_15 ?_
  refine g_get X hW eX6_makeMatch_195 1 rfl rfl dX6_makeMatch_18 ?_
  obtain ⟨r47, hq, h⟩ := bn1_some h
  refine g_cvi X hW (As := []) (ws' := (wX6_makeMatch G a_eb a_desk a_desk_routes a_desk_routes_a a_desk_offers a_desk_offers_a a_desk_wants a_desk_wants_a a_desk_leaves a_desk_leaves_a a_mat a_mat_score a_mat_best a_mat_given a_kept a_tape a_text a_plan a_desk_boxes a_desk_words a_desk_weeks a_desk_leases a_desk_uses isKept planStands today lack rate free routes_r routes_f offers_r offers_f wants_r wants_f leaves_r leaves_f mt_offers mt_wants mt_pairs mt_gap mt_score mt_best mt_given)) ckX6_makeMatch_X4_size_117 (kcX4_size (l := l) G a_desk_wants a_desk_wants_a (5 : Int32) (7 : Int32) wants_r hq) ⟨rfl, rfl, Nat.le_of_ble_eq_true rfl, Nat.le_of_ble_eq_true rfl⟩ [6] rfl rfl rfl rfl rfl rfl rfl hl.1 (Nat.le_of_ble_eq_true rfl) ⟨Nat.zero_le _, Nat.zero_le _⟩ dX6_makeMatch_21 (fun H locs hW => ?_)
  obtain ⟨o48_mt_offers, o48_mt_wants, o48_mt_score, hq, h⟩ := bn3_some h
  refine g_cvv X hW (As := [.int r43, .int r47]) (ws' := (wX6_makeMatch G a_eb a_desk a_desk_routes a_desk_routes_a a_desk_offers a_desk_offers_a a_desk_wants a_desk_wants_a a_desk_leaves a_desk_leaves_a a_mat a_mat_score a_mat_best a_mat_given a_kept a_tape a_text a_plan a_desk_boxes a_desk_words a_desk_weeks a_desk_leases a_desk_uses isKept planStands today lack rate free routes_r routes_f offers_r offers_f wants_r wants_f leaves_r leaves_f o48_mt_offers o48_mt_wants mt_pairs mt_gap o48_mt_score mt_best mt_given)) ckX6_makeMatch_X2_begin_231 (kcX2_begin (l := l) G a_mat a_mat_score a_mat_best a_mat_given r43 r47 mt_offers mt_wants mt_pairs mt_gap mt_score hq) ⟨rfl, rfl, Nat.le_of_ble_eq_true rfl, Nat.le_of_ble_eq_true rfl⟩ [10, 11] rfl rfl rfl rfl rfl rfl rfl hl.1 (Nat.le_of_ble_eq_true rfl) ⟨Nat.zero_le _, Nat.zero_le _⟩ dX6_makeMatch_24 (fun H locs hW => ?_)
  refine lv_iconst hx hb dX6_makeMatch_27 qI_0 ?_
  refine lv_istore_n (lv' := [(1, .int (0 : Int32)), (0, .ref a_eb)]) hx hb dX6_makeMatch_28 rfl hl (by decide) rfl (fun ls hl => ?_)
  exact tX6_makeMatch_29 X o48_mt_offers o48_mt_wants mt_pairs mt_gap mt_best mt_given (fun mt_score_q51 => fX6_makeMatch_95 o48_mt_offers o48_mt_wants mt_pairs mt_gap mt_score_q51 mt_best mt_given) (fun mt_score_q51 h H locs hW ls hl => by exact tX6_makeMatch_95 X o48_mt_offers o48_mt_wants mt_pairs mt_gap mt_score_q51 mt_best mt_given h H locs hW ls hl) FU (0 : Int32) o48_mt_score h H locs hW ls (lv_sub hl [1, 0] rfl)
theorem kcX6_makeMatch {l : Launch} (G : Gt) (a_eb a_desk a_desk_routes a_desk_routes_a a_desk_offers a_desk_offers_a a_desk_wants a_desk_wants_a a_desk_leaves a_desk_leaves_a a_mat a_mat_score a_mat_best a_mat_given a_kept a_tape a_text a_plan a_desk_boxes a_desk_words a_desk_weeks a_desk_leases a_desk_uses : Nat)  (isKept : Int32) (planStands : Int32) (today : Int32) (lack : Int32) (rate : Int32) (free : Int32) (routes_r : Int32) (routes_f : (Nat → Int32)) (offers_r : Int32) (offers_f : (Nat → Int32)) (wants_r : Int32) (wants_f : (Nat → Int32)) (leaves_r : Int32) (leaves_f : (Nat → Int32)) (mt_offers : Int32) (mt_wants : Int32) (mt_pairs : Int32) (mt_gap : Int32) (mt_score : (Nat → Int32)) (mt_best : (Nat → Int32)) (mt_given : (Nat → Int32))  {z_mt_offers : Int32} {z_mt_wants : Int32} {z_mt_pairs : Int32} {z_mt_gap : Int32} {z_mt_score : (Nat → Int32)} {z_mt_best : (Nat → Int32)} {z_mt_given : (Nat → Int32)} (h : fX6_makeMatch routes_r routes_f offers_r offers_f wants_r wants_f leaves_r leaves_f mt_offers mt_wants mt_pairs mt_gap mt_score mt_best mt_given = some (z_mt_offers, z_mt_wants, z_mt_pairs, z_mt_gap, z_mt_score, z_mt_best, z_mt_given)) : CtV G l yX6_makeMatch wsX6_makeMatch rmX6_makeMatch [.ref a_eb] (wX6_makeMatch G a_eb a_desk a_desk_routes a_desk_routes_a a_desk_offers a_desk_offers_a a_desk_wants a_desk_wants_a a_desk_leaves a_desk_leaves_a a_mat a_mat_score a_mat_best a_mat_given a_kept a_tape a_text a_plan a_desk_boxes a_desk_words a_desk_weeks a_desk_leases a_desk_uses isKept planStands today lack rate free routes_r routes_f offers_r offers_f wants_r wants_f leaves_r leaves_f mt_offers mt_wants mt_pairs mt_gap mt_score mt_best mt_given) (wX6_makeMatch G a_eb a_desk a_desk_routes a_desk_routes_a a_desk_offers a_desk_offers_a a_desk_wants a_desk_wants_a a_desk_leaves a_desk_leaves_a a_mat a_mat_score a_mat_best a_mat_given a_kept a_tape a_text a_plan a_desk_boxes a_desk_words a_desk_weeks a_desk_leases a_desk_uses isKept planStands today lack rate free routes_r routes_f offers_r offers_f wants_r wants_f leaves_r leaves_f z_mt_offers z_mt_wants z_mt_pairs z_mt_gap z_mt_score z_mt_best z_mt_given) := k0X6_makeMatch G a_eb a_desk a_desk_routes a_desk_routes_a a_desk_offers a_desk_offers_a a_desk_wants a_desk_wants_a a_desk_leaves a_desk_leaves_a a_mat a_mat_score a_mat_best a_mat_given a_kept a_tape a_text a_plan a_desk_boxes a_desk_words a_desk_weeks a_desk_leases a_desk_uses isKept planStands today lack rate free routes_r routes_f offers_r offers_f wants_r wants_f leaves_r leaves_f mt_offers mt_wants mt_pairs mt_gap mt_score mt_best mt_given h
end MX6_makeMatch
/-! EmptyBoxes.match -/
section MX6_match
theorem hdX6_match : yX6_match.cls = RX6 ∧ yX6_match.cls ≠ "java/lang/invoke/MethodHandle" ∧ yX6_match.cls ≠ "java/lang/invoke/VarHandle" ∧ (parseMethodDescriptor yX6_match.desc).map (fun d => d.parameters.length) = some 1 := by decide +kernel
abbrev wX6_match (G : Gt) (a_eb a_desk a_desk_routes a_desk_routes_a a_desk_offers a_desk_offers_a a_desk_wants a_desk_wants_a a_desk_leaves a_desk_leaves_a a_mat a_mat_score a_mat_best a_mat_given a_kept a_tape a_text a_plan a_desk_boxes a_desk_words a_desk_weeks a_desk_leases a_desk_uses : Nat) (isKept : Int32) (planStands : Int32) (today : Int32) (lack : Int32) (rate : Int32) (free : Int32) (routes_r : Int32) (routes_f : (Nat → Int32)) (offers_r : Int32) (offers_f : (Nat → Int32)) (wants_r : Int32) (wants_f : (Nat → Int32)) (leaves_r : Int32) (leaves_f : (Nat → Int32)) (mt_offers : Int32) (mt_wants : Int32) (mt_pairs : Int32) (mt_gap : Int32) (mt_score : (Nat → Int32)) (mt_best : (Nat → Int32)) (mt_given : (Nat → Int32)) : va_W := [(a_eb, .inr (6, [.ref a_desk, .ref a_kept, .ref a_tape, .ref a_text, .ref a_plan, .ref a_mat, .int isKept, .int planStands])), (a_desk, .inr (0, [.ref a_desk_boxes, .ref a_desk_words, .ref a_desk_weeks, .ref a_desk_routes, .ref a_desk_offers, .ref a_desk_wants, .ref a_desk_leaves, .ref a_desk_leases, .ref a_desk_uses, .int today, .int lack, .int rate, .int free])), (a_desk_routes, .inr (4, [.ref a_desk_routes_a, .int (5 : Int32), .int (10 : Int32), .int routes_r])), (a_desk_routes_a, .inl (G.2.1, 50, .inl routes_f)), (a_desk_offers, .inr (4, [.ref a_desk_offers_a, .int (5 : Int32), .int (7 : Int32), .int offers_r])), (a_desk_offers_a, .inl (G.2.1, 35, .inl offers_f)), (a_desk_wants, .inr (4, [.ref a_desk_wants_a, .int (5 : Int32), .int (7 : Int32), .int wants_r])), (a_desk_wants_a, .inl (G.2.1, 35, .inl wants_f)), (a_desk_leaves, .inr (4, [.ref a_desk_leaves_a, .int (4 : Int32), .int (4 : Int32), .int leaves_r])), (a_desk_leaves_a, .inl (G.2.1, 16, .inl leaves_f)), (a_mat, .inr (2, [.ref a_mat_score, .ref a_mat_best, .ref a_mat_given, .int mt_offers, .int mt_wants, .int mt_pairs, .int mt_gap])), (a_mat_score, .inl (G.2.1, 49, .inl mt_score)), (a_mat_best, .inl (G.2.1, 1024, .inl mt_best)), (a_mat_given, .inl (G.2.1, 7, .inl mt_given))]
abbrev rmX6_match : Room := { frames := 6, cells := 0, slots := 0, locals := 132 }
theorem iX6_match_X0 : ∀ w ∈ wsX00, w ∈ wsX6_match := by decide +kernel
theorem iX6_match_X2 : ∀ w ∈ wsX20, w ∈ wsX6_match := by decide +kernel
theorem iX6_match_X6 : ∀ w ∈ wsX60, w ∈ wsX6_match := by decide +kernel
theorem eX6_match_12 : Fk wsX6_match RX6 12 6 0 := ⟨RX6, TX6, 8, rfl, iX6_match_X6, by decide, by decide +kernel⟩
theorem eX6_match_198 : Fk wsX6_match RX6 198 0 4 := ⟨RX0, TX0, 13, rfl, iX6_match_X0, by decide, by decide +kernel⟩
theorem eX6_match_213 : Fk wsX6_match RX6 213 2 5 := ⟨RX2, TX2, 7, rfl, iX6_match_X2, by decide, by decide +kernel⟩
theorem eX6_match_216 : Fk wsX6_match RX6 216 2 6 := ⟨RX2, TX2, 7, rfl, iX6_match_X2, by decide, by decide +kernel⟩
theorem eX6_match_43 : Fk wsX6_match RX6 43 6 5 := ⟨RX6, TX6, 8, rfl, iX6_match_X6, by decide, by decide +kernel⟩
theorem ckX6_match_X2_wantOf_219 : CkV wsX6_match RX6 219 yX2_wantOf wsX2_wantOf cX2_wantOf 2 (some .int) 1 2 := ⟨RX2, TX2, 7, _, rfl, gX6_match_X2_wantOf, rfl, hdX2_wantOf⟩
theorem ckX6_match_X4_has_110 : CkV wsX6_match RX6 110 yX4_has wsX4_has cX4_has 2 (some .boolean) 1 4 := ⟨RX4, TX4, 4, _, rfl, gX6_match_X4_has, rfl, hdX4_has⟩
theorem ckX6_match_X6_makeMatch_210 : CkV wsX6_match RX6 210 yX6_makeMatch wsX6_makeMatch cX6_makeMatch 3 none 0 6 := ⟨RX6, TX6, 8, _, rfl, gX6_match_X6_makeMatch, rfl, hdX6_makeMatch⟩
variable {p : Program} {l : Launch} {e : Env} {s : State} {m : MethodId} {args : Array Value} {below : List Frame} {meth : Method} {c : Code} {A : Nat → Prop} {G : Gt} {a_eb a_desk a_desk_routes a_desk_routes_a a_desk_offers a_desk_offers_a a_desk_wants a_desk_wants_a a_desk_leaves a_desk_leaves_a a_mat a_mat_score a_mat_best a_mat_given a_kept a_tape a_text a_plan a_desk_boxes a_desk_words a_desk_weeks a_desk_leases a_desk_uses : Nat} {isKept : Int32} {planStands : Int32} {today : Int32} {lack : Int32} {rate : Int32} {free : Int32} {routes_r : Int32} {routes_f : (Nat → Int32)} {offers_r : Int32} {offers_f : (Nat → Int32)} {wants_r : Int32} {wants_f : (Nat → Int32)} {leaves_r : Int32} {leaves_f : (Nat → Int32)} {res : Int32 × Int32 × Int32 × Int32 × Int32 × (Nat → Int32) × (Nat → Int32) × (Nat → Int32)}
set_option maxHeartbeats 4000000 in
set_option maxRecDepth 100000 in
theorem tX6_match_44 (X : Bx p s m args meth c cX6_match 3 wsX6_match RX6 (some .int)) (v1 : Int32) (mt_offers : Int32) (mt_wants : Int32) (mt_pairs : Int32) (mt_gap : Int32) (mt_score : (Nat → Int32)) (mt_best : (Nat → Int32)) (mt_given : (Nat → Int32))   (h : fX6_match_44 v1 routes_r routes_f offers_r offers_f wants_r wants_f leaves_r leaves_f mt_offers mt_wants mt_pairs mt_gap mt_score mt_best mt_given = some res) : ∀ (H : Heap) (locs : List Loc), Wo G A s (wX6_match G a_eb a_desk a_desk_routes a_desk_routes_a a_desk_offers a_desk_offers_a a_desk_wants a_desk_wants_a a_desk_leaves a_desk_leaves_a a_mat a_mat_score a_mat_best a_mat_given a_kept a_tape a_text a_plan a_desk_boxes a_desk_words a_desk_weeks a_desk_leases a_desk_uses isKept planStands today lack rate free routes_r routes_f offers_r offers_f wants_r wants_f leaves_r leaves_f mt_offers mt_wants mt_pairs mt_gap mt_score mt_best mt_given) H locs → ∀ ls : Array Slot, lv_has ls 3 [(0, .ref a_eb), (1, .int v1)] → W p l e rmX6_match s m args below meth c H locs 0 0 (QI G A below args s res.1 (wX6_match G a_eb a_desk a_desk_routes a_desk_routes_a a_desk_offers a_desk_offers_a a_desk_wants a_desk_wants_a a_desk_leaves a_desk_leaves_a a_mat a_mat_score a_mat_best a_mat_given a_kept a_tape a_text a_plan a_desk_boxes a_desk_words a_desk_weeks a_desk_leases a_desk_uses isKept planStands today lack rate free routes_r routes_f offers_r offers_f wants_r wants_f leaves_r leaves_f res.2.1 res.2.2.1 res.2.2.2.1 res.2.2.2.2.1 res.2.2.2.2.2.1 res.2.2.2.2.2.2.1 res.2.2.2.2.2.2.2)) (F0 m 44 ls []) := by
  obtain ⟨hx, hb, -⟩ := id X.1
  intro H locs hW ls hl
  rw [fX6_match_44] at h
  refine lv_aload_n hx hb dX6_match_44 rfl (lv_at hl 0 rfl) ?_
  obtain ⟨o2_mt_offers, o2_mt_wants, o2_mt_pairs, o2_mt_gap, o2_mt_score, o2_mt_best, o2_mt_given, hq, h⟩ := bn7_some h
  refine g_cvv X hW (As := []) (ws' := (wX6_match G a_eb a_desk a_desk_routes a_desk_routes_a a_desk_offers a_desk_offers_a a_desk_wants a_desk_wants_a a_desk_leaves a_desk_leaves_a a_mat a_mat_score a_mat_best a_mat_given a_kept a_tape a_text a_plan a_desk_boxes a_desk_words a_desk_weeks a_desk_leases a_desk_uses isKept planStands today lack rate free routes_r routes_f offers_r offers_f wants_r wants_f leaves_r leaves_f o2_mt_offers o2_mt_wants o2_mt_pairs o2_mt_gap o2_mt_score o2_mt_best o2_mt_given)) ckX6_match_X6_makeMatch_210 (kcX6_makeMatch (l := l) G a_eb a_desk a_desk_routes a_desk_routes_a a_desk_offers a_desk_offers_a a_desk_wants a_desk_wants_a a_desk_leaves a_desk_leaves_a a_mat a_mat_score a_mat_best a_mat_given a_kept a_tape a_text a_plan a_desk_boxes a_desk_words a_desk_weeks a_desk_leases a_desk_uses isKept planStands today lack rate free routes_r routes_f offers_r offers_f wants_r wants_f leaves_r leaves_f mt_offers mt_wants mt_pairs mt_gap mt_score mt_best mt_given hq) ⟨rfl, rfl, Nat.le_of_ble_eq_true rfl, Nat.le_of_ble_eq_true rfl⟩ [0, 1, 2, 3, 4, 5, 6, 7, 8, 9, 10, 11, 12, 13] rfl rfl rfl rfl rfl rfl rfl hl.1 (Nat.le_of_ble_eq_true rfl) ⟨Nat.zero_le _, Nat.zero_le _⟩ dX6_match_45 (fun H locs hW => ?_)
  refine lv_iload_n hx hb dX6_match_48 rfl (lv_at hl 1 rfl) ?_
  refine lv_if_ne (tgt := 60) hx hb dX6_match_49 (by decide) (fun c4 => ?_) (fun c4 => ?_)
  · have h := (if_neg c4).symm.trans h
    refine lv_iload_n hx hb dX6_match_60 rfl (lv_at hl 1 rfl) ?_
    refine lv_iconst hx hb dX6_match_61 qI_1 ?_
    refine lv_icmp_ne (tgt := 75) hx hb dX6_match_62 (by decide) (fun c7 => ?_) (fun c7 => ?_)
    · have h := (if_neg c7).symm.trans h
      refine lv_aload_n hx hb dX6_match_75 rfl (lv_at hl 0 rfl) ?_
      refine g_get X hW eX6_match_43 0 rfl rfl dX6_match_76 ?_
      refine lv_iload_n hx hb dX6_match_79 rfl (lv_at hl 1 rfl) ?_
      refine lv_bipush hx hb dX6_match_80 qB_10 ?_
      refine lv_isub hx hb dX6_match_82 ?_
      obtain ⟨r13, hq, h⟩ := bn1_some h
      refine g_cvi X hW (As := [.int (v1 - (10 : Int32))]) (ws' := (wX6_match G a_eb a_desk a_desk_routes a_desk_routes_a a_desk_offers a_desk_offers_a a_desk_wants a_desk_wants_a a_desk_leaves a_desk_leaves_a a_mat a_mat_score a_mat_best a_mat_given a_kept a_tape a_text a_plan a_desk_boxes a_desk_words a_desk_weeks a_desk_leases a_desk_uses isKept planStands today lack rate free routes_r routes_f offers_r offers_f wants_r wants_f leaves_r leaves_f o2_mt_offers o2_mt_wants o2_mt_pairs o2_mt_gap o2_mt_score o2_mt_best o2_mt_given)) ckX6_match_X2_wantOf_219 (kcX2_wantOf (l := l) G a_mat a_mat_given a_mat_score a_mat_best (v1 - (10 : Int32)) o2_mt_offers o2_mt_wants o2_mt_pairs o2_mt_gap o2_mt_given hq) ⟨rfl, rfl, Nat.le_of_ble_eq_true rfl, Nat.le_of_ble_eq_true rfl⟩ [10, 13] rfl rfl rfl rfl rfl rfl rfl hl.1 (Nat.le_of_ble_eq_true rfl) ⟨Nat.zero_le _, Nat.zero_le _⟩ dX6_match_83 (fun H locs hW => ?_)
      obtain rfl := Option.some.inj h
      exact g_iret X hW dX6_match_86
    · have h := (if_pos c7).symm.trans h
      refine lv_aload_n hx hb dX6_match_65 rfl (lv_at hl 0 rfl) ?_
      refine g_get X hW eX6_match_43 0 rfl rfl dX6_match_66 ?_
      refine g_get X hW eX6_match_216 10 rfl rfl dX6_match_69 ?_
      refine lv_goto (tgt := 86) hx hb dX6_match_72 (by decide) ?_
      obtain rfl := Option.some.inj h
      exact g_iret X hW dX6_match_86
  · have h := (if_pos c4).symm.trans h
    refine lv_aload_n hx hb dX6_match_52 rfl (lv_at hl 0 rfl) ?_
    refine g_get X hW eX6_match_43 0 rfl rfl dX6_match_53 ?_
    refine g_get X hW eX6_match_213 10 rfl rfl dX6_match_56 ?_
    obtain rfl := Option.some.inj h
    exact g_iret X hW dX6_match_59
set_option maxHeartbeats 4000000 in
set_option maxRecDepth 100000 in
theorem tX6_match_28 (X : Bx p s m args meth c cX6_match 3 wsX6_match RX6 (some .int)) (v1 : Int32) (t0 : Int32) (mt_offers : Int32) (mt_wants : Int32) (mt_pairs : Int32) (mt_gap : Int32) (mt_score : (Nat → Int32)) (mt_best : (Nat → Int32)) (mt_given : (Nat → Int32))   (h : fX6_match_28 v1 t0 routes_r routes_f offers_r offers_f wants_r wants_f leaves_r leaves_f mt_offers mt_wants mt_pairs mt_gap mt_score mt_best mt_given = some res) : ∀ (H : Heap) (locs : List Loc), Wo G A s (wX6_match G a_eb a_desk a_desk_routes a_desk_routes_a a_desk_offers a_desk_offers_a a_desk_wants a_desk_wants_a a_desk_leaves a_desk_leaves_a a_mat a_mat_score a_mat_best a_mat_given a_kept a_tape a_text a_plan a_desk_boxes a_desk_words a_desk_weeks a_desk_leases a_desk_uses isKept planStands today lack rate free routes_r routes_f offers_r offers_f wants_r wants_f leaves_r leaves_f mt_offers mt_wants mt_pairs mt_gap mt_score mt_best mt_given) H locs → ∀ ls : Array Slot, lv_has ls 3 [(0, .ref a_eb), (1, .int v1)] → W p l e rmX6_match s m args below meth c H locs 0 0 (QI G A below args s res.1 (wX6_match G a_eb a_desk a_desk_routes a_desk_routes_a a_desk_offers a_desk_offers_a a_desk_wants a_desk_wants_a a_desk_leaves a_desk_leaves_a a_mat a_mat_score a_mat_best a_mat_given a_kept a_tape a_text a_plan a_desk_boxes a_desk_words a_desk_weeks a_desk_leases a_desk_uses isKept planStands today lack rate free routes_r routes_f offers_r offers_f wants_r wants_f leaves_r leaves_f res.2.1 res.2.2.1 res.2.2.2.1 res.2.2.2.2.1 res.2.2.2.2.2.1 res.2.2.2.2.2.2.1 res.2.2.2.2.2.2.2)) (F0 m 28 ls [.int t0]) := by
  obtain ⟨hx, hb, -⟩ := id X.1
  intro H locs hW ls hl
  rw [fX6_match_28] at h
  refine lv_istore_n (lv' := [(2, .int t0), (0, .ref a_eb), (1, .int v1)]) hx hb dX6_match_28 rfl hl (by decide) rfl (fun ls hl => ?_)
  refine lv_iload_n hx hb dX6_match_29 rfl (lv_at hl 2 rfl) ?_
  refine lv_if_eq (tgt := 44) hx hb dX6_match_30 (by decide) (fun c26 => ?_) (fun c26 => ?_)
  · have h := (if_pos c26).symm.trans h
    exact tX6_match_44 X v1 mt_offers mt_wants mt_pairs mt_gap mt_score mt_best mt_given h H locs hW ls (lv_sub hl [1, 2] rfl)
  · have h := (if_neg c26).symm.trans h
    refine lv_iload_n hx hb dX6_match_33 rfl (lv_at hl 2 rfl) ?_
    refine lv_iconst hx hb dX6_match_34 qI_1 ?_
    refine lv_icmp_eq (tgt := 44) hx hb dX6_match_35 (by decide) (fun c29 => ?_) (fun c29 => ?_)
    · have h := (if_pos c29).symm.trans h
      exact tX6_match_44 X v1 mt_offers mt_wants mt_pairs mt_gap mt_score mt_best mt_given h H locs hW ls (lv_sub hl [1, 2] rfl)
    · have h := (if_neg c29).symm.trans h
      refine lv_iload_n hx hb dX6_match_38 rfl (lv_at hl 0 rfl) ?_
      refine lv_if_ne (tgt := 44) hx hb dX6_match_39 (by decide) (fun c31 => ?_) (fun c31 => ?_)
      · have h := (if_neg c31).symm.trans h
        exact tX6_match_44 X v1 mt_offers mt_wants mt_pairs mt_gap mt_score mt_best mt_given h H locs hW ls (lv_sub hl [1, 2] rfl)
      · have h := (if_pos c31).symm.trans h
        refine lv_iconst hx hb dX6_match_42 qI_m1 ?_
        obtain rfl := Option.some.inj h
        exact g_iret X hW dX6_match_43
set_option maxHeartbeats 4000000 in
set_option maxRecDepth 100000 in
theorem tX6_match_27 (X : Bx p s m args meth c cX6_match 3 wsX6_match RX6 (some .int)) (v1 : Int32) (mt_offers : Int32) (mt_wants : Int32) (mt_pairs : Int32) (mt_gap : Int32) (mt_score : (Nat → Int32)) (mt_best : (Nat → Int32)) (mt_given : (Nat → Int32))   (h : fX6_match_27 v1 routes_r routes_f offers_r offers_f wants_r wants_f leaves_r leaves_f mt_offers mt_wants mt_pairs mt_gap mt_score mt_best mt_given = some res) : ∀ (H : Heap) (locs : List Loc), Wo G A s (wX6_match G a_eb a_desk a_desk_routes a_desk_routes_a a_desk_offers a_desk_offers_a a_desk_wants a_desk_wants_a a_desk_leaves a_desk_leaves_a a_mat a_mat_score a_mat_best a_mat_given a_kept a_tape a_text a_plan a_desk_boxes a_desk_words a_desk_weeks a_desk_leases a_desk_uses isKept planStands today lack rate free routes_r routes_f offers_r offers_f wants_r wants_f leaves_r leaves_f mt_offers mt_wants mt_pairs mt_gap mt_score mt_best mt_given) H locs → ∀ ls : Array Slot, lv_has ls 3 [(0, .ref a_eb), (1, .int v1)] → W p l e rmX6_match s m args below meth c H locs 0 0 (QI G A below args s res.1 (wX6_match G a_eb a_desk a_desk_routes a_desk_routes_a a_desk_offers a_desk_offers_a a_desk_wants a_desk_wants_a a_desk_leaves a_desk_leaves_a a_mat a_mat_score a_mat_best a_mat_given a_kept a_tape a_text a_plan a_desk_boxes a_desk_words a_desk_weeks a_desk_leases a_desk_uses isKept planStands today lack rate free routes_r routes_f offers_r offers_f wants_r wants_f leaves_r leaves_f res.2.1 res.2.2.1 res.2.2.2.1 res.2.2.2.2.1 res.2.2.2.2.2.1 res.2.2.2.2.2.2.1 res.2.2.2.2.2.2.2)) (F0 m 27 ls []) := by
  obtain ⟨hx, hb, -⟩ := id X.1
  intro H locs hW ls hl
  rw [fX6_match_27] at h
  refine lv_iconst hx hb dX6_match_27 qI_0 ?_
  exact tX6_match_28 X v1 (0 : Int32) mt_offers mt_wants mt_pairs mt_gap mt_score mt_best mt_given h H locs hW ls hl
set_option maxHeartbeats 4000000 in
set_option maxRecDepth 100000 in
theorem k0X6_match {l : Launch} (G : Gt) (a_eb a_desk a_desk_routes a_desk_routes_a a_desk_offers a_desk_offers_a a_desk_wants a_desk_wants_a a_desk_leaves a_desk_leaves_a a_mat a_mat_score a_mat_best a_mat_given a_kept a_tape a_text a_plan a_desk_boxes a_desk_words a_desk_weeks a_desk_leases a_desk_uses : Nat) (v1 : Int32) (isKept : Int32) (planStands : Int32) (today : Int32) (lack : Int32) (rate : Int32) (free : Int32) (routes_r : Int32) (routes_f : (Nat → Int32)) (offers_r : Int32) (offers_f : (Nat → Int32)) (wants_r : Int32) (wants_f : (Nat → Int32)) (leaves_r : Int32) (leaves_f : (Nat → Int32)) (mt_offers : Int32) (mt_wants : Int32) (mt_pairs : Int32) (mt_gap : Int32) (mt_score : (Nat → Int32)) (mt_best : (Nat → Int32)) (mt_given : (Nat → Int32)) {res : Int32 × Int32 × Int32 × Int32 × Int32 × (Nat → Int32) × (Nat → Int32) × (Nat → Int32)} (h : fX6_match v1 routes_r routes_f offers_r offers_f wants_r wants_f leaves_r leaves_f mt_offers mt_wants mt_pairs mt_gap mt_score mt_best mt_given = some res) : CtI G l yX6_match wsX6_match rmX6_match [.ref a_eb, .int v1] (wX6_match G a_eb a_desk a_desk_routes a_desk_routes_a a_desk_offers a_desk_offers_a a_desk_wants a_desk_wants_a a_desk_leaves a_desk_leaves_a a_mat a_mat_score a_mat_best a_mat_given a_kept a_tape a_text a_plan a_desk_boxes a_desk_words a_desk_weeks a_desk_leases a_desk_uses isKept planStands today lack rate free routes_r routes_f offers_r offers_f wants_r wants_f leaves_r leaves_f mt_offers mt_wants mt_pairs mt_gap mt_score mt_best mt_given) res.1 (wX6_match G a_eb a_desk a_desk_routes a_desk_routes_a a_desk_offers a_desk_offers_a a_desk_wants a_desk_wants_a a_desk_leaves a_desk_leaves_a a_mat a_mat_score a_mat_best a_mat_given a_kept a_tape a_text a_plan a_desk_boxes a_desk_words a_desk_weeks a_desk_leases a_desk_uses isKept planStands today lack rate free routes_r routes_f offers_r offers_f wants_r wants_f leaves_r leaves_f res.2.1 res.2.2.1 res.2.2.2.1 res.2.2.2.2.1 res.2.2.2.2.2.1 res.2.2.2.2.2.2.1 res.2.2.2.2.2.2.2) := by
  refine CtI.mk (cc := cX6_match) (maxL := 3) (ret := (some .int)) (own := RX6) (by decide) rfl rfl (Nat.le_of_ble_eq_true rfl) ?_
  intro p e s m below meth c A X ls hl hW
  obtain ⟨hx, hb, -⟩ := id X.1
  have hl : lv_has ls 3 [(0, .ref a_eb), (1, .int v1)] := hl
  generalize hH : s.heap = H at hW ⊢
  generalize hLo : ([] : List Loc) = locs at hW ⊢
  rw [fX6_match] at h
  refine lv_iload_n hx hb dX6_match_0 rfl (lv_at hl 1 rfl) ?_
  refine lv_bipush hx hb dX6_match_1 qB_10 ?_
  refine lv_icmp_lt (tgt := 27) hx hb dX6_match_3 (by decide) (fun c37 => ?_) (fun c37 => ?_)
  · have h := (if_pos c37).symm.trans h
    exact tX6_match_27 X v1 mt_offers mt_wants mt_pairs mt_gap mt_score mt_best mt_given h H locs hW ls hl
  · have h := (if_neg c37).symm.trans h
    refine lv_aload_n hx hb dX6_match_6 rfl (lv_at hl 0 rfl) ?_
    refine g_get X hW eX6_match_12 0 rfl rfl dX6_match_7 ?_
    refine g_get X hW eX6_match_198 1 rfl rfl dX6_match_10 ?_
    refine lv_iload_n hx hb dX6_match_13 rfl (lv_at hl 1 rfl) ?_
    refine lv_bipush hx hb dX6_match_14 qB_10 ?_
    refine lv_isub hx hb dX6_match_16 ?_
    obtain ⟨r44, hq, h⟩ := bn1_some h
    refine g_cvi X hW (As := [.int (v1 - (10 : Int32))]) (ws' := (wX6_match G a_eb a_desk a_desk_routes a_desk_routes_a a_desk_offers a_desk_offers_a a_desk_wants a_desk_wants_a a_desk_leaves a_desk_leaves_a a_mat a_mat_score a_mat_best a_mat_given a_kept a_tape a_text a_plan a_desk_boxes a_desk_words a_desk_weeks a_desk_leases a_desk_uses isKept planStands today lack rate free routes_r routes_f offers_r offers_f wants_r wants_f leaves_r leaves_f mt_offers mt_wants mt_pairs mt_gap mt_score mt_best mt_given)) ckX6_match_X4_has_110 (kcX4_has (l := l) G a_desk_offers a_desk_offers_a (v1 - (10 : Int32)) (5 : Int32) (7 : Int32) offers_r hq) ⟨rfl, rfl, Nat.le_of_ble_eq_true rfl, Nat.le_of_ble_eq_true rfl⟩ [4] rfl rfl rfl rfl rfl rfl rfl hl.1 (Nat.le_of_ble_eq_true rfl) ⟨Nat.zero_le _, Nat.zero_le _⟩ dX6_match_17 (fun H locs hW => ?_)
    refine lv_if_eq (tgt := 27) hx hb dX6_match_20 (by decide) (fun c45 => ?_) (fun c45 => ?_)
    · have h := (if_pos c45).symm.trans h
      exact tX6_match_27 X v1 mt_offers mt_wants mt_pairs mt_gap mt_score mt_best mt_given h H locs hW ls hl
    · have h := (if_neg c45).symm.trans h
      refine lv_iconst hx hb dX6_match_23 qI_1 ?_
      refine lv_goto (tgt := 28) hx hb dX6_match_24 (by decide) ?_
      exact tX6_match_28 X v1 (1 : Int32) mt_offers mt_wants mt_pairs mt_gap mt_score mt_best mt_given h H locs hW ls hl
theorem kcX6_match {l : Launch} (G : Gt) (a_eb a_desk a_desk_routes a_desk_routes_a a_desk_offers a_desk_offers_a a_desk_wants a_desk_wants_a a_desk_leaves a_desk_leaves_a a_mat a_mat_score a_mat_best a_mat_given a_kept a_tape a_text a_plan a_desk_boxes a_desk_words a_desk_weeks a_desk_leases a_desk_uses : Nat) (v1 : Int32) (isKept : Int32) (planStands : Int32) (today : Int32) (lack : Int32) (rate : Int32) (free : Int32) (routes_r : Int32) (routes_f : (Nat → Int32)) (offers_r : Int32) (offers_f : (Nat → Int32)) (wants_r : Int32) (wants_f : (Nat → Int32)) (leaves_r : Int32) (leaves_f : (Nat → Int32)) (mt_offers : Int32) (mt_wants : Int32) (mt_pairs : Int32) (mt_gap : Int32) (mt_score : (Nat → Int32)) (mt_best : (Nat → Int32)) (mt_given : (Nat → Int32)) {r : Int32} {z_mt_offers : Int32} {z_mt_wants : Int32} {z_mt_pairs : Int32} {z_mt_gap : Int32} {z_mt_score : (Nat → Int32)} {z_mt_best : (Nat → Int32)} {z_mt_given : (Nat → Int32)} (h : fX6_match v1 routes_r routes_f offers_r offers_f wants_r wants_f leaves_r leaves_f mt_offers mt_wants mt_pairs mt_gap mt_score mt_best mt_given = some (r, z_mt_offers, z_mt_wants, z_mt_pairs, z_mt_gap, z_mt_score, z_mt_best, z_mt_given)) : CtI G l yX6_match wsX6_match rmX6_match [.ref a_eb, .int v1] (wX6_match G a_eb a_desk a_desk_routes a_desk_routes_a a_desk_offers a_desk_offers_a a_desk_wants a_desk_wants_a a_desk_leaves a_desk_leaves_a a_mat a_mat_score a_mat_best a_mat_given a_kept a_tape a_text a_plan a_desk_boxes a_desk_words a_desk_weeks a_desk_leases a_desk_uses isKept planStands today lack rate free routes_r routes_f offers_r offers_f wants_r wants_f leaves_r leaves_f mt_offers mt_wants mt_pairs mt_gap mt_score mt_best mt_given) r (wX6_match G a_eb a_desk a_desk_routes a_desk_routes_a a_desk_offers a_desk_offers_a a_desk_wants a_desk_wants_a a_desk_leaves a_desk_leaves_a a_mat a_mat_score a_mat_best a_mat_given a_kept a_tape a_text a_plan a_desk_boxes a_desk_words a_desk_weeks a_desk_leases a_desk_uses isKept planStands today lack rate free routes_r routes_f offers_r offers_f wants_r wants_f leaves_r leaves_f z_mt_offers z_mt_wants z_mt_pairs z_mt_gap z_mt_score z_mt_best z_mt_given) := k0X6_match G a_eb a_desk a_desk_routes a_desk_routes_a a_desk_offers a_desk_offers_a a_desk_wants a_desk_wants_a a_desk_leaves a_desk_leaves_a a_mat a_mat_score a_mat_best a_mat_given a_kept a_tape a_text a_plan a_desk_boxes a_desk_words a_desk_weeks a_desk_leases a_desk_uses v1 isKept planStands today lack rate free routes_r routes_f offers_r offers_f wants_r wants_f leaves_r leaves_f mt_offers mt_wants mt_pairs mt_gap mt_score mt_best mt_given h
end MX6_match
/-! EmptyBoxes.clear -/
section MX6_clear
theorem hdX6_clear : yX6_clear.cls = RX6 ∧ yX6_clear.cls ≠ "java/lang/invoke/MethodHandle" ∧ yX6_clear.cls ≠ "java/lang/invoke/VarHandle" ∧ (parseMethodDescriptor yX6_clear.desc).map (fun d => d.parameters.length) = some 0 := by decide +kernel
abbrev wX6_clear (G : Gt) (a_eb a_desk a_desk_offers a_desk_wants a_kept a_tape a_text a_plan a_mat a_desk_boxes a_desk_words a_desk_weeks a_desk_routes a_desk_leaves a_desk_leases a_desk_uses a_desk_offers_a a_desk_wants_a : Nat) (isKept : Int32) (planStands : Int32) (today : Int32) (lack : Int32) (rate : Int32) (free : Int32) (offers_r : Int32) (wants_r : Int32) : va_W := [(a_eb, .inr (6, [.ref a_desk, .ref a_kept, .ref a_tape, .ref a_text, .ref a_plan, .ref a_mat, .int isKept, .int planStands])), (a_desk, .inr (0, [.ref a_desk_boxes, .ref a_desk_words, .ref a_desk_weeks, .ref a_desk_routes, .ref a_desk_offers, .ref a_desk_wants, .ref a_desk_leaves, .ref a_desk_leases, .ref a_desk_uses, .int today, .int lack, .int rate, .int free])), (a_desk_offers, .inr (4, [.ref a_desk_offers_a, .int (5 : Int32), .int (7 : Int32), .int offers_r])), (a_desk_wants, .inr (4, [.ref a_desk_wants_a, .int (5 : Int32), .int (7 : Int32), .int wants_r]))]
abbrev rmX6_clear : Room := { frames := 1, cells := 0, slots := 0, locals := 20 }
theorem iX6_clear_X0 : ∀ w ∈ wsX00, w ∈ wsX6_clear := by decide +kernel
theorem iX6_clear_X6 : ∀ w ∈ wsX60, w ∈ wsX6_clear := by decide +kernel
theorem eX6_clear_12 : Fk wsX6_clear RX6 12 6 0 := ⟨RX6, TX6, 8, rfl, iX6_clear_X6, by decide, by decide +kernel⟩
theorem eX6_clear_195 : Fk wsX6_clear RX6 195 0 5 := ⟨RX0, TX0, 13, rfl, iX6_clear_X0, by decide, by decide +kernel⟩
theorem eX6_clear_198 : Fk wsX6_clear RX6 198 0 4 := ⟨RX0, TX0, 13, rfl, iX6_clear_X0, by decide, by decide +kernel⟩
theorem ckX6_clear_X4_empty_222 : CkV wsX6_clear RX6 222 yX4_empty wsX4_empty cX4_empty 1 none 0 4 := ⟨RX4, TX4, 4, _, rfl, gX6_clear_X4_empty, rfl, hdX4_empty⟩
theorem ckX6_clear_X4_size_117 : CkV wsX6_clear RX6 117 yX4_size wsX4_size cX4_size 1 (some .int) 0 4 := ⟨RX4, TX4, 4, _, rfl, gX6_clear_X4_size, rfl, hdX4_size⟩
variable {p : Program} {l : Launch} {e : Env} {s : State} {m : MethodId} {args : Array Value} {below : List Frame} {meth : Method} {c : Code} {A : Nat → Prop} {G : Gt} {a_eb a_desk a_desk_offers a_desk_wants a_kept a_tape a_text a_plan a_mat a_desk_boxes a_desk_words a_desk_weeks a_desk_routes a_desk_leaves a_desk_leases a_desk_uses a_desk_offers_a a_desk_wants_a : Nat} {isKept : Int32} {planStands : Int32} {today : Int32} {lack : Int32} {rate : Int32} {free : Int32} {res : Int32 × Int32 × Int32}
set_option maxHeartbeats 4000000 in
set_option maxRecDepth 100000 in
theorem k0X6_clear {l : Launch} (G : Gt) (a_eb a_desk a_desk_offers a_desk_wants a_kept a_tape a_text a_plan a_mat a_desk_boxes a_desk_words a_desk_weeks a_desk_routes a_desk_leaves a_desk_leases a_desk_uses a_desk_offers_a a_desk_wants_a : Nat)  (isKept : Int32) (planStands : Int32) (today : Int32) (lack : Int32) (rate : Int32) (free : Int32) (offers_r : Int32) (wants_r : Int32) {res : Int32 × Int32 × Int32} (h : fX6_clear offers_r wants_r = some res) : CtI G l yX6_clear wsX6_clear rmX6_clear [.ref a_eb] (wX6_clear G a_eb a_desk a_desk_offers a_desk_wants a_kept a_tape a_text a_plan a_mat a_desk_boxes a_desk_words a_desk_weeks a_desk_routes a_desk_leaves a_desk_leases a_desk_uses a_desk_offers_a a_desk_wants_a isKept planStands today lack rate free offers_r wants_r) res.1 (wX6_clear G a_eb a_desk a_desk_offers a_desk_wants a_kept a_tape a_text a_plan a_mat a_desk_boxes a_desk_words a_desk_weeks a_desk_routes a_desk_leaves a_desk_leases a_desk_uses a_desk_offers_a a_desk_wants_a isKept planStands today lack rate free res.2.1 res.2.2) := by
  refine CtI.mk (cc := cX6_clear) (maxL := 2) (ret := (some .int)) (own := RX6) (by decide) rfl rfl (Nat.le_of_ble_eq_true rfl) ?_
  intro p e s m below meth c A X ls hl hW
  obtain ⟨hx, hb, -⟩ := id X.1
  have hl : lv_has ls 2 [(0, .ref a_eb)] := hl
  generalize hH : s.heap = H at hW ⊢
  generalize hLo : ([] : List Loc) = locs at hW ⊢
  rw [fX6_clear] at h
  refine lv_aload_n hx hb dX6_clear_0 rfl (lv_at hl 0 rfl) ?_
  refine g_get X hW eX6_clear_12 0 rfl rfl dX6_clear_1 ?_
  refine g_get X hW eX6_clear_198 1 rfl rfl dX6_clear_4 ?_
  obtain ⟨r4, hq, h⟩ := bn1_some h
  refine g_cvi X hW (As := []) (ws' := (wX6_clear G a_eb a_desk a_desk_offers a_desk_wants a_kept a_tape a_text a_plan a_mat a_desk_boxes a_desk_words a_desk_weeks a_desk_routes a_desk_leaves a_desk_leases a_desk_uses a_desk_offers_a a_desk_wants_a isKept planStands today lack rate free offers_r wants_r)) ckX6_clear_X4_size_117 (kcX4_size (l := l) G a_desk_offers a_desk_offers_a (5 : Int32) (7 : Int32) offers_r hq) ⟨rfl, rfl, Nat.le_of_ble_eq_true rfl, Nat.le_of_ble_eq_true rfl⟩ [2] rfl rfl rfl rfl rfl rfl rfl hl.1 (Nat.le_of_ble_eq_true rfl) ⟨Nat.zero_le _, Nat.zero_le _⟩ dX6_clear_7 (fun H locs hW => ?_)
  refine lv_aload_n hx hb dX6_clear_10 rfl (lv_at hl 0 rfl) ?_
  refine g_get X hW eX6_clear_12 0 rfl rfl dX6_clear_11 ?_
  refine g_get X hW eX6_clear_195 1 rfl rfl dX6_clear_14 ?_
  obtain ⟨r8, hq, h⟩ := bn1_some h
  refine g_cvi X hW (As := []) (ws' := (wX6_clear G a_eb a_desk a_desk_offers a_desk_wants a_kept a_tape a_text a_plan a_mat a_desk_boxes a_desk_words a_desk_weeks a_desk_routes a_desk_leaves a_desk_leases a_desk_uses a_desk_offers_a a_desk_wants_a isKept planStands today lack rate free offers_r wants_r)) ckX6_clear_X4_size_117 (kcX4_size (l := l) G a_desk_wants a_desk_wants_a (5 : Int32) (7 : Int32) wants_r hq) ⟨rfl, rfl, Nat.le_of_ble_eq_true rfl, Nat.le_of_ble_eq_true rfl⟩ [3] rfl rfl rfl rfl rfl rfl rfl hl.1 (Nat.le_of_ble_eq_true rfl) ⟨Nat.zero_le _, Nat.zero_le _⟩ dX6_clear_17 (fun H locs hW => ?_)
  refine lv_iadd hx hb dX6_clear_20 ?_
  refine lv_istore_n (lv' := [(1, .int (r4 + r8)), (0, .ref a_eb)]) hx hb dX6_clear_21 rfl hl (by decide) rfl (fun ls hl => ?_)
  refine lv_aload_n hx hb dX6_clear_22 rfl (lv_at hl 1 rfl) ?_
  refine g_get X hW eX6_clear_12 0 rfl rfl dX6_clear_23 ?_
  refine g_get X hW eX6_clear_198 1 rfl rfl dX6_clear_26 ?_
  obtain ⟨o14_tb_r, hq, h⟩ := bn1_some h
  refine g_cvv X hW (As := []) (ws' := (wX6_clear G a_eb a_desk a_desk_offers a_desk_wants a_kept a_tape a_text a_plan a_mat a_desk_boxes a_desk_words a_desk_weeks a_desk_routes a_desk_leaves a_desk_leases a_desk_uses a_desk_offers_a a_desk_wants_a isKept planStands today lack rate free o14_tb_r wants_r)) ckX6_clear_X4_empty_222 (kcX4_empty (l := l) G a_desk_offers a_desk_offers_a (5 : Int32) (7 : Int32) offers_r hq) ⟨rfl, rfl, Nat.le_of_ble_eq_true rfl, Nat.le_of_ble_eq_true rfl⟩ [2] rfl rfl rfl rfl rfl rfl rfl hl.1 (Nat.le_of_ble_eq_true rfl) ⟨Nat.zero_le _, Nat.zero_le _⟩ dX6_clear_29 (fun H locs hW => ?_)
  refine lv_aload_n hx hb dX6_clear_32 rfl (lv_at hl 1 rfl) ?_
  refine g_get X hW eX6_clear_12 0 rfl rfl dX6_clear_33 ?_
  refine g_get X hW eX6_clear_195 1 rfl rfl dX6_clear_36 ?_
  obtain ⟨o18_tb_r, hq, h⟩ := bn1_some h
  refine g_cvv X hW (As := []) (ws' := (wX6_clear G a_eb a_desk a_desk_offers a_desk_wants a_kept a_tape a_text a_plan a_mat a_desk_boxes a_desk_words a_desk_weeks a_desk_routes a_desk_leaves a_desk_leases a_desk_uses a_desk_offers_a a_desk_wants_a isKept planStands today lack rate free o14_tb_r o18_tb_r)) ckX6_clear_X4_empty_222 (kcX4_empty (l := l) G a_desk_wants a_desk_wants_a (5 : Int32) (7 : Int32) wants_r hq) ⟨rfl, rfl, Nat.le_of_ble_eq_true rfl, Nat.le_of_ble_eq_true rfl⟩ [3] rfl rfl rfl rfl rfl rfl rfl hl.1 (Nat.le_of_ble_eq_true rfl) ⟨Nat.zero_le _, Nat.zero_le _⟩ dX6_clear_39 (fun H locs hW => ?_)
  refine lv_iload_n hx hb dX6_clear_42 rfl (lv_at hl 0 rfl) ?_
  obtain rfl := Option.some.inj h
  exact g_iret X hW dX6_clear_43
theorem kcX6_clear {l : Launch} (G : Gt) (a_eb a_desk a_desk_offers a_desk_wants a_kept a_tape a_text a_plan a_mat a_desk_boxes a_desk_words a_desk_weeks a_desk_routes a_desk_leaves a_desk_leases a_desk_uses a_desk_offers_a a_desk_wants_a : Nat)  (isKept : Int32) (planStands : Int32) (today : Int32) (lack : Int32) (rate : Int32) (free : Int32) (offers_r : Int32) (wants_r : Int32) {r : Int32} {z_offers_r : Int32} {z_wants_r : Int32} (h : fX6_clear offers_r wants_r = some (r, z_offers_r, z_wants_r)) : CtI G l yX6_clear wsX6_clear rmX6_clear [.ref a_eb] (wX6_clear G a_eb a_desk a_desk_offers a_desk_wants a_kept a_tape a_text a_plan a_mat a_desk_boxes a_desk_words a_desk_weeks a_desk_routes a_desk_leaves a_desk_leases a_desk_uses a_desk_offers_a a_desk_wants_a isKept planStands today lack rate free offers_r wants_r) r (wX6_clear G a_eb a_desk a_desk_offers a_desk_wants a_kept a_tape a_text a_plan a_mat a_desk_boxes a_desk_words a_desk_weeks a_desk_routes a_desk_leaves a_desk_leases a_desk_uses a_desk_offers_a a_desk_wants_a isKept planStands today lack rate free z_offers_r z_wants_r) := k0X6_clear G a_eb a_desk a_desk_offers a_desk_wants a_kept a_tape a_text a_plan a_mat a_desk_boxes a_desk_words a_desk_weeks a_desk_routes a_desk_leaves a_desk_leases a_desk_uses a_desk_offers_a a_desk_wants_a isKept planStands today lack rate free offers_r wants_r h
end MX6_clear
/-! EmptyBoxes.feed -/
section MX6_feed
theorem hdX6_feed : yX6_feed.cls = RX6 ∧ yX6_feed.cls ≠ "java/lang/invoke/MethodHandle" ∧ yX6_feed.cls ≠ "java/lang/invoke/VarHandle" ∧ (parseMethodDescriptor yX6_feed.desc).map (fun d => d.parameters.length) = some 2 := by decide +kernel
abbrev wX6_feed (G : Gt) (a_eb a_tape a_tape_a a_desk a_kept a_text a_plan a_mat : Nat) (isKept : Int32) (planStands : Int32) (tp_many : Int32) (tp_first : Int32) (tp_behind : Int32) (tp_f : (Nat → Int32)) : va_W := [(a_eb, .inr (6, [.ref a_desk, .ref a_kept, .ref a_tape, .ref a_text, .ref a_plan, .ref a_mat, .int isKept, .int planStands])), (a_tape, .inr (5, [.ref a_tape_a, .int tp_many, .int tp_first, .int tp_behind])), (a_tape_a, .inl (G.2.1, 120, .inl tp_f))]
abbrev rmX6_feed : Room := { frames := 1, cells := 0, slots := 0, locals := 22 }
theorem iX6_feed_X6 : ∀ w ∈ wsX60, w ∈ wsX6_feed := by decide +kernel
theorem eX6_feed_22 : Fk wsX6_feed RX6 22 6 2 := ⟨RX6, TX6, 8, rfl, iX6_feed_X6, by decide, by decide +kernel⟩
theorem ckX6_feed_X5_size_248 : CkV wsX6_feed RX6 248 yX5_size wsX5_size cX5_size 1 (some .int) 0 5 := ⟨RX5, TX5, 4, _, rfl, gX6_feed_X5_size, rfl, hdX5_size⟩
theorem ckX6_feed_X5_takeByte_249 : CkV wsX6_feed RX6 249 yX5_takeByte wsX5_takeByte cX5_takeByte 2 none 1 5 := ⟨RX5, TX5, 4, _, rfl, gX6_feed_X5_takeByte, rfl, hdX5_takeByte⟩
theorem ckX6_feed_X6_isWithin_54 : CkS wsX6_feed RX6 54 yX6_isWithin wsX6_isWithin cX6_isWithin 3 (some .boolean) 3 := ⟨_, gX6_feed_X6_isWithin, rfl, hdX6_isWithin.2⟩
variable {p : Program} {l : Launch} {e : Env} {s : State} {m : MethodId} {args : Array Value} {below : List Frame} {meth : Method} {c : Code} {A : Nat → Prop} {G : Gt} {a_eb a_tape a_tape_a a_desk a_kept a_text a_plan a_mat : Nat} {isKept : Int32} {planStands : Int32} {tp_first : Int32} {tp_behind : Int32} {res : Int32 × Int32 × (Nat → Int32)}
set_option maxHeartbeats 4000000 in
set_option maxRecDepth 100000 in
theorem tX6_feed_63 (X : Bx p s m args meth c cX6_feed 5 wsX6_feed RX6 (some .int)) (tp_many : Int32) (tp_f : (Nat → Int32))   (h : fX6_feed_63 tp_many tp_f = some res) : ∀ (H : Heap) (locs : List Loc), Wo G A s (wX6_feed G a_eb a_tape a_tape_a a_desk a_kept a_text a_plan a_mat isKept planStands tp_many tp_first tp_behind tp_f) H locs → ∀ ls : Array Slot, lv_has ls 5 [(0, .ref a_eb)] → W p l e rmX6_feed s m args below meth c H locs 0 0 (QI G A below args s res.1 (wX6_feed G a_eb a_tape a_tape_a a_desk a_kept a_text a_plan a_mat isKept planStands res.2.1 tp_first tp_behind res.2.2)) (F0 m 63 ls []) := by
  obtain ⟨hx, hb, -⟩ := id X.1
  intro H locs hW ls hl
  rw [fX6_feed_63] at h
  refine lv_aload_n hx hb dX6_feed_63 rfl (lv_at hl 0 rfl) ?_
  refine g_get X hW eX6_feed_22 0 rfl rfl dX6_feed_64 ?_
  obtain ⟨r3, hq, h⟩ := bn1_some h
  refine g_cvi X hW (As := []) (ws' := (wX6_feed G a_eb a_tape a_tape_a a_desk a_kept a_text a_plan a_mat isKept planStands tp_many tp_first tp_behind tp_f)) ckX6_feed_X5_size_248 (kcX5_size (l := l) G a_tape a_tape_a tp_many tp_first tp_behind hq) ⟨rfl, rfl, Nat.le_of_ble_eq_true rfl, Nat.le_of_ble_eq_true rfl⟩ [1] rfl rfl rfl rfl rfl rfl rfl hl.1 (Nat.le_of_ble_eq_true rfl) ⟨Nat.zero_le _, Nat.zero_le _⟩ dX6_feed_67 (fun H locs hW => ?_)
  obtain rfl := Option.some.inj h
  exact g_iret X hW dX6_feed_70
set_option maxHeartbeats 4000000 in
set_option maxRecDepth 100000 in
theorem tX6_feed_32 (X : Bx p s m args meth c cX6_feed 5 wsX6_feed RX6 (some .int)) (v1 : Int64) (v3 : Int32) (k_63 : Int32 → (Nat → Int32) → Option (Int32 × Int32 × (Nat → Int32))) (Hk_63 : ∀ (tp_many : Int32) (tp_f : (Nat → Int32)), k_63 tp_many tp_f = some res → ∀ (H : Heap) (locs : List Loc), Wo G A s (wX6_feed G a_eb a_tape a_tape_a a_desk a_kept a_text a_plan a_mat isKept planStands tp_many tp_first tp_behind tp_f) H locs → ∀ ls : Array Slot, lv_has ls 5 [(0, .ref a_eb)] → W p l e rmX6_feed s m args below meth c H locs 0 0 (QI G A below args s res.1 (wX6_feed G a_eb a_tape a_tape_a a_desk a_kept a_text a_plan a_mat isKept planStands res.2.1 tp_first tp_behind res.2.2)) (F0 m 63 ls [])) : ∀ (n : Nat) (v4 : Int32) (tp_many : Int32) (tp_f : (Nat → Int32)), fX6_feed_32 v1 v3 k_63 n v4 tp_many tp_f = some res → ∀ (H : Heap) (locs : List Loc), Wo G A s (wX6_feed G a_eb a_tape a_tape_a a_desk a_kept a_text a_plan a_mat isKept planStands tp_many tp_first tp_behind tp_f) H locs → ∀ ls : Array Slot, lv_has ls 5 [(0, .ref a_eb), (1, .long v1), (3, .int v3), (4, .int v4)] → W p l e rmX6_feed s m args below meth c H locs 0 0 (QI G A below args s res.1 (wX6_feed G a_eb a_tape a_tape_a a_desk a_kept a_text a_plan a_mat isKept planStands res.2.1 tp_first tp_behind res.2.2)) (F0 m 32 ls []) := by
  obtain ⟨hx, hb, -⟩ := id X.1
  intro n
  induction n with
  | zero => intro v4 tp_many tp_f h; rw [fX6_feed_32] at h; cases h
  | succ n ih =>
    intro v4 tp_many tp_f h H locs hW ls hl
    rw [fX6_feed_32] at h
    refine lv_iload hx hb dX6_feed_32 (lv_at hl 3 rfl) ?_
    refine lv_iload_n hx hb dX6_feed_34 rfl (lv_at hl 2 rfl) ?_
    refine lv_icmp_ge (tgt := 63) hx hb dX6_feed_35 (by decide) (fun c7 => ?_) (fun c7 => ?_)
    · have h := (if_pos c7).symm.trans h
      exact Hk_63 tp_many tp_f h H locs hW ls (lv_sub hl [0] rfl)
    · have h := (if_neg c7).symm.trans h
      refine lv_aload_n hx hb dX6_feed_38 rfl (lv_at hl 0 rfl) ?_
      refine g_get X hW eX6_feed_22 0 rfl rfl dX6_feed_39 ?_
      refine lv_lload_n hx hb dX6_feed_42 rfl (lv_at hl 1 rfl) ?_
      refine lv_bipush hx hb dX6_feed_43 qB_8 ?_
      refine lv_iload hx hb dX6_feed_45 (lv_at hl 3 rfl) ?_
      refine lv_imul hx hb dX6_feed_47 ?_
      refine g_lushr hx hb dX6_feed_48 ?_
      refine lv_l2i hx hb dX6_feed_49 rfl ?_
      refine lv_sipush hx hb dX6_feed_50 qS_255 ?_
      refine lv_iand hx hb dX6_feed_53 ?_
      obtain ⟨o18_tp_many, o18_tp_f, hq, h⟩ := bn2_some h
      refine g_cvv X hW (As := [.int ((lushr v1 ((8 : Int32) * v4)).toInt32 &&& (255 : Int32))]) (ws' := (wX6_feed G a_eb a_tape a_tape_a a_desk a_kept a_text a_plan a_mat isKept planStands o18_tp_many tp_first tp_behind o18_tp_f)) ckX6_feed_X5_takeByte_249 (kcX5_takeByte (l := l) G a_tape a_tape_a ((lushr v1 ((8 : Int32) * v4)).toInt32 &&& (255 : Int32)) tp_many tp_first tp_behind tp_f hq) ⟨rfl, rfl, Nat.le_of_ble_eq_true rfl, Nat.le_of_ble_eq_true rfl⟩ [1, 2] rfl rfl rfl rfl rfl rfl rfl hl.1 (Nat.le_of_ble_eq_true rfl) ⟨Nat.zero_le _, Nat.zero_le _⟩ dX6_feed_54 (fun H locs hW => ?_)
      refine lv_iinc (v := (v4 + (1 : Int32))) (lv' := [(4, .int (v4 + (1 : Int32))), (0, .ref a_eb), (1, .long v1), (3, .int v3)]) hx hb dX6_feed_57 hl (k := 3) rfl (congrArg (fun z => v4 + z) qI_1) (by decide) rfl (fun ls hl => ?_)
      refine lv_goto (tgt := 32) hx hb dX6_feed_60 (by decide) ?_
      exact ih (v4 + (1 : Int32)) o18_tp_many o18_tp_f h H locs hW ls (lv_sub hl [1, 2, 3, 0] rfl)
set_option maxHeartbeats 4000000 in
set_option maxRecDepth 100000 in
theorem k0X6_feed {l : Launch} (G : Gt) (a_eb a_tape a_tape_a a_desk a_kept a_text a_plan a_mat : Nat) (v1 : Int64) (v3 : Int32) (isKept : Int32) (planStands : Int32) (tp_many : Int32) (tp_first : Int32) (tp_behind : Int32) (tp_f : (Nat → Int32)) {res : Int32 × Int32 × (Nat → Int32)} (h : fX6_feed v1 v3 tp_many tp_f = some res) : CtI G l yX6_feed wsX6_feed rmX6_feed [.ref a_eb, .long v1, .int v3] (wX6_feed G a_eb a_tape a_tape_a a_desk a_kept a_text a_plan a_mat isKept planStands tp_many tp_first tp_behind tp_f) res.1 (wX6_feed G a_eb a_tape a_tape_a a_desk a_kept a_text a_plan a_mat isKept planStands res.2.1 tp_first tp_behind res.2.2) := by
  refine CtI.mk (cc := cX6_feed) (maxL := 5) (ret := (some .int)) (own := RX6) (by decide) rfl rfl (Nat.le_of_ble_eq_true rfl) ?_
  intro p e s m below meth c A X ls hl hW
  obtain ⟨hx, hb, -⟩ := id X.1
  have hl : lv_has ls 5 [(0, .ref a_eb), (1, .long v1), (3, .int v3)] := hl
  generalize hH : s.heap = H at hW ⊢
  generalize hLo : ([] : List Loc) = locs at hW ⊢
  rw [fX6_feed] at h
  refine lv_iload_n hx hb dX6_feed_0 rfl (lv_at hl 2 rfl) ?_
  refine lv_iconst hx hb dX6_feed_1 qI_1 ?_
  refine lv_bipush hx hb dX6_feed_2 qB_8 ?_
  obtain ⟨r24, hq, h⟩ := bn1_some h
  refine g_csi X hW (As := [.int v3, .int (1 : Int32), .int (8 : Int32)]) (ws' := (wX6_feed G a_eb a_tape a_tape_a a_desk a_kept a_text a_plan a_mat isKept planStands tp_many tp_first tp_behind tp_f)) ckX6_feed_X6_isWithin_54 (kcX6_isWithin (l := l) G v3 (1 : Int32) (8 : Int32) hq) ⟨rfl, rfl, Nat.le_of_ble_eq_true rfl, Nat.le_of_ble_eq_true rfl⟩ [] rfl rfl rfl rfl rfl rfl hl.1 (Nat.le_of_ble_eq_true rfl) ⟨Nat.zero_le _, Nat.zero_le _⟩ dX6_feed_4 (fun H locs hW => ?_)
  refine lv_if_ne (tgt := 12) hx hb dX6_feed_7 (by decide) (fun c25 => ?_) (fun c25 => ?_)
  · have h := (if_neg c25).symm.trans h
    refine lv_aload_n hx hb dX6_feed_12 rfl (lv_at hl 0 rfl) ?_
    refine g_get X hW eX6_feed_22 0 rfl rfl dX6_feed_13 ?_
    obtain ⟨r28, hq, h⟩ := bn1_some h
    refine g_cvi X hW (As := []) (ws' := (wX6_feed G a_eb a_tape a_tape_a a_desk a_kept a_text a_plan a_mat isKept planStands tp_many tp_first tp_behind tp_f)) ckX6_feed_X5_size_248 (kcX5_size (l := l) G a_tape a_tape_a tp_many tp_first tp_behind hq) ⟨rfl, rfl, Nat.le_of_ble_eq_true rfl, Nat.le_of_ble_eq_true rfl⟩ [1] rfl rfl rfl rfl rfl rfl rfl hl.1 (Nat.le_of_ble_eq_true rfl) ⟨Nat.zero_le _, Nat.zero_le _⟩ dX6_feed_16 (fun H locs hW => ?_)
    refine lv_iload_n hx hb dX6_feed_19 rfl (lv_at hl 2 rfl) ?_
    refine lv_iadd hx hb dX6_feed_20 ?_
    refine lv_bipush hx hb dX6_feed_21 qB_120 ?_
    refine lv_icmp_le (tgt := 29) hx hb dX6_feed_23 (by decide) (fun c32 => ?_) (fun c32 => ?_)
    · have h := (if_pos c32).symm.trans h
      refine lv_iconst hx hb dX6_feed_29 qI_0 ?_
      refine lv_istore (lv' := [(4, .int (0 : Int32)), (0, .ref a_eb), (1, .long v1), (3, .int v3)]) hx hb dX6_feed_30 hl (by decide) rfl (fun ls hl => ?_)
      exact tX6_feed_32 X v1 v3 (fun tp_many_q35 tp_f_q35 => fX6_feed_63 tp_many_q35 tp_f_q35) (fun tp_many_q35 tp_f_q35 h H locs hW ls hl => by exact tX6_feed_63 X tp_many_q35 tp_f_q35 h H locs hW ls hl) FU (0 : Int32) tp_many tp_f h H locs hW ls (lv_sub hl [1, 2, 3, 0] rfl)
    · have h := (if_neg c32).symm.trans h
      refine lv_bipush hx hb dX6_feed_26 qB_m2 ?_
      obtain rfl := Option.some.inj h
      exact g_iret X hW dX6_feed_28
  · have h := (if_pos c25).symm.trans h
    refine lv_iconst hx hb dX6_feed_10 qI_m1 ?_
    obtain rfl := Option.some.inj h
    exact g_iret X hW dX6_feed_11
theorem kcX6_feed {l : Launch} (G : Gt) (a_eb a_tape a_tape_a a_desk a_kept a_text a_plan a_mat : Nat) (v1 : Int64) (v3 : Int32) (isKept : Int32) (planStands : Int32) (tp_many : Int32) (tp_first : Int32) (tp_behind : Int32) (tp_f : (Nat → Int32)) {r : Int32} {z_tp_many : Int32} {z_tp_f : (Nat → Int32)} (h : fX6_feed v1 v3 tp_many tp_f = some (r, z_tp_many, z_tp_f)) : CtI G l yX6_feed wsX6_feed rmX6_feed [.ref a_eb, .long v1, .int v3] (wX6_feed G a_eb a_tape a_tape_a a_desk a_kept a_text a_plan a_mat isKept planStands tp_many tp_first tp_behind tp_f) r (wX6_feed G a_eb a_tape a_tape_a a_desk a_kept a_text a_plan a_mat isKept planStands z_tp_many tp_first tp_behind z_tp_f) := k0X6_feed G a_eb a_tape a_tape_a a_desk a_kept a_text a_plan a_mat v1 v3 isKept planStands tp_many tp_first tp_behind tp_f h
end MX6_feed
/-! EmptyBoxes.read -/
section MX6_read
theorem hdX6_read : yX6_read.cls = RX6 ∧ yX6_read.cls ≠ "java/lang/invoke/MethodHandle" ∧ yX6_read.cls ≠ "java/lang/invoke/VarHandle" ∧ (parseMethodDescriptor yX6_read.desc).map (fun d => d.parameters.length) = some 1 := by decide +kernel
abbrev wX6_read (G : Gt) (a_eb a_desk a_desk_leases a_desk_leases_a a_tape a_tape_a a_text a_text_a a_kept a_plan a_mat a_desk_boxes a_desk_words a_desk_weeks a_desk_routes a_desk_offers a_desk_wants a_desk_leaves a_desk_uses : Nat) (isKept : Int32) (planStands : Int32) (today : Int32) (lack : Int32) (rate : Int32) (free : Int32) (leases_r : Int32) (leases_f : (Nat → Int32)) (tp_many : Int32) (tp_first : Int32) (tp_behind : Int32) (tp_f : (Nat → Int32)) (tx_clauses : Int32) (tx_fault : Int32) (tx_f : (Nat → Int32)) : va_W := [(a_eb, .inr (6, [.ref a_desk, .ref a_kept, .ref a_tape, .ref a_text, .ref a_plan, .ref a_mat, .int isKept, .int planStands])), (a_desk, .inr (0, [.ref a_desk_boxes, .ref a_desk_words, .ref a_desk_weeks, .ref a_desk_routes, .ref a_desk_offers, .ref a_desk_wants, .ref a_desk_leaves, .ref a_desk_leases, .ref a_desk_uses, .int today, .int lack, .int rate, .int free])), (a_desk_leases, .inr (4, [.ref a_desk_leases_a, .int (17 : Int32), .int (3 : Int32), .int leases_r])), (a_desk_leases_a, .inl (G.2.1, 51, .inl leases_f)), (a_tape, .inr (5, [.ref a_tape_a, .int tp_many, .int tp_first, .int tp_behind])), (a_tape_a, .inl (G.2.1, 120, .inl tp_f)), (a_text, .inr (1, [.ref a_text_a, .int tx_clauses, .int tx_fault])), (a_text_a, .inl (G.2.1, 16, .inl tx_f))]
abbrev rmX6_read : Room := { frames := 8, cells := 0, slots := 0, locals := 172 }
theorem iX6_read_X0 : ∀ w ∈ wsX00, w ∈ wsX6_read := by decide +kernel
theorem iX6_read_X1 : ∀ w ∈ wsX10, w ∈ wsX6_read := by decide +kernel
theorem iX6_read_X6 : ∀ w ∈ wsX60, w ∈ wsX6_read := by decide +kernel
theorem eX6_read_12 : Fk wsX6_read RX6 12 6 0 := ⟨RX6, TX6, 8, rfl, iX6_read_X6, by decide, by decide +kernel⟩
theorem eX6_read_22 : Fk wsX6_read RX6 22 6 2 := ⟨RX6, TX6, 8, rfl, iX6_read_X6, by decide, by decide +kernel⟩
theorem eX6_read_258 : Fk wsX6_read RX6 258 1 2 := ⟨RX1, TX1, 3, rfl, iX6_read_X1, by decide, by decide +kernel⟩
theorem eX6_read_261 : Fk wsX6_read RX6 261 0 7 := ⟨RX0, TX0, 13, rfl, iX6_read_X0, by decide, by decide +kernel⟩
theorem eX6_read_267 : Fk wsX6_read RX6 267 1 1 := ⟨RX1, TX1, 3, rfl, iX6_read_X1, by decide, by decide +kernel⟩
theorem eX6_read_29 : Fk wsX6_read RX6 29 6 3 := ⟨RX6, TX6, 8, rfl, iX6_read_X6, by decide, by decide +kernel⟩
theorem ckX6_read_X1_parse_254 : CkV wsX6_read RX6 254 yX1_parse wsX1_parse cX1_parse 3 (some .boolean) 1 1 := ⟨RX1, TX1, 3, _, rfl, gX6_read_X1_parse, rfl, hdX1_parse⟩
theorem ckX6_read_X1_termOr_264 : CkV wsX6_read RX6 264 yX1_termOr wsX1_termOr cX1_termOr 4 (some .int) 2 1 := ⟨RX1, TX1, 3, _, rfl, gX6_read_X1_termOr, rfl, hdX1_termOr⟩
theorem ckX6_read_X4_put_96 : CkV wsX6_read RX6 96 yX4_put wsX4_put cX4_put 4 none 3 4 := ⟨RX4, TX4, 4, _, rfl, gX6_read_X4_put, rfl, hdX4_put⟩
theorem ckX6_read_X5_empty_253 : CkV wsX6_read RX6 253 yX5_empty wsX5_empty cX5_empty 1 none 0 5 := ⟨RX5, TX5, 4, _, rfl, gX6_read_X5_empty, rfl, hdX5_empty⟩
theorem ckX6_read_X6_isLease_72 : CkS wsX6_read RX6 72 yX6_isLease wsX6_isLease cX6_isLease 1 (some .boolean) 1 := ⟨_, gX6_read_X6_isLease, rfl, hdX6_isLease.2⟩
variable {p : Program} {l : Launch} {e : Env} {s : State} {m : MethodId} {args : Array Value} {below : List Frame} {meth : Method} {c : Code} {A : Nat → Prop} {G : Gt} {a_eb a_desk a_desk_leases a_desk_leases_a a_tape a_tape_a a_text a_text_a a_kept a_plan a_mat a_desk_boxes a_desk_words a_desk_weeks a_desk_routes a_desk_offers a_desk_wants a_desk_leaves a_desk_uses : Nat} {isKept : Int32} {planStands : Int32} {today : Int32} {lack : Int32} {rate : Int32} {free : Int32} {leases_r : Int32} {tp_f : (Nat → Int32)} {res : Int32 × (Nat → Int32) × Int32 × Int32 × Int32 × Int32 × Int32 × (Nat → Int32)}
set_option maxHeartbeats 4000000 in
set_option maxRecDepth 100000 in
theorem tX6_read_97 (X : Bx p s m args meth c cX6_read 4 wsX6_read RX6 (some .int)) (v1 : Int32) (leases_f : (Nat → Int32)) (tp_many : Int32) (tp_first : Int32) (tp_behind : Int32) (tx_clauses : Int32) (tx_fault : Int32) (tx_f : (Nat → Int32))   (h : fX6_read_97 v1 leases_r leases_f tp_many tp_first tp_behind tx_clauses tx_fault tx_f = some res) : ∀ (H : Heap) (locs : List Loc), Wo G A s (wX6_read G a_eb a_desk a_desk_leases a_desk_leases_a a_tape a_tape_a a_text a_text_a a_kept a_plan a_mat a_desk_boxes a_desk_words a_desk_weeks a_desk_routes a_desk_offers a_desk_wants a_desk_leaves a_desk_uses isKept planStands today lack rate free leases_r leases_f tp_many tp_first tp_behind tp_f tx_clauses tx_fault tx_f) H locs → ∀ ls : Array Slot, lv_has ls 4 [(0, .ref a_eb), (1, .int v1)] → W p l e rmX6_read s m args below meth c H locs 0 0 (QI G A below args s res.1 (wX6_read G a_eb a_desk a_desk_leases a_desk_leases_a a_tape a_tape_a a_text a_text_a a_kept a_plan a_mat a_desk_boxes a_desk_words a_desk_weeks a_desk_routes a_desk_offers a_desk_wants a_desk_leaves a_desk_uses isKept planStands today lack rate free leases_r res.2.1 res.2.2.1 res.2.2.2.1 res.2.2.2.2.1 tp_f res.2.2.2.2.2.1 res.2.2.2.2.2.2.1 res.2.2.2.2.2.2.2)) (F0 m 97 ls []) := by
  obtain ⟨hx, hb, -⟩ := id X.1
  intro H locs hW ls hl
  rw [fX6_read_97] at h
  refine lv_aload_n hx hb dX6_read_97 rfl (lv_at hl 0 rfl) ?_
  refine g_get X hW eX6_read_12 0 rfl rfl dX6_read_98 ?_
  refine g_get X hW eX6_read_261 1 rfl rfl dX6_read_101 ?_
  refine lv_iload_n hx hb dX6_read_104 rfl (lv_at hl 1 rfl) ?_
  refine lv_bipush hx hb dX6_read_105 qB_16 ?_
  refine lv_iconst hx hb dX6_read_107 qI_1 ?_
  obtain ⟨o7_tb_f, hq, h⟩ := bn1_some h
  refine g_cvv X hW (As := [.int v1, .int (16 : Int32), .int (1 : Int32)]) (ws' := (wX6_read G a_eb a_desk a_desk_leases a_desk_leases_a a_tape a_tape_a a_text a_text_a a_kept a_plan a_mat a_desk_boxes a_desk_words a_desk_weeks a_desk_routes a_desk_offers a_desk_wants a_desk_leaves a_desk_uses isKept planStands today lack rate free leases_r o7_tb_f tp_many tp_first tp_behind tp_f tx_clauses tx_fault tx_f)) ckX6_read_X4_put_96 (kcX4_put (l := l) G a_desk_leases a_desk_leases_a v1 (16 : Int32) (1 : Int32) (17 : Int32) (3 : Int32) leases_r 51 leases_f hq) ⟨rfl, rfl, Nat.le_of_ble_eq_true rfl, Nat.le_of_ble_eq_true rfl⟩ [2, 3] rfl rfl rfl rfl rfl rfl rfl hl.1 (Nat.le_of_ble_eq_true rfl) ⟨Nat.zero_le _, Nat.zero_le _⟩ dX6_read_108 (fun H locs hW => ?_)
  refine lv_aload_n hx hb dX6_read_111 rfl (lv_at hl 0 rfl) ?_
  refine g_get X hW eX6_read_29 0 rfl rfl dX6_read_112 ?_
  refine g_get X hW eX6_read_267 6 rfl rfl dX6_read_115 ?_
  obtain rfl := Option.some.inj h
  exact g_iret X hW dX6_read_118
set_option maxHeartbeats 4000000 in
set_option maxRecDepth 100000 in
theorem tX6_read_85 (X : Bx p s m args meth c cX6_read 4 wsX6_read RX6 (some .int)) (v1 : Int32) (v3 : Int32) (t1 : Int32) (t2 : Int32) (t4 : Int32) (t5 : Int32) (leases_f : (Nat → Int32)) (tp_many : Int32) (tp_first : Int32) (tp_behind : Int32) (tx_clauses : Int32) (tx_fault : Int32) (tx_f : (Nat → Int32)) (k_52 : Int32 → (Nat → Int32) → Option (Int32 × (Nat → Int32) × Int32 × Int32 × Int32 × Int32 × Int32 × (Nat → Int32))) (Hk_52 : ∀ (v3 : Int32) (leases_f : (Nat → Int32)), k_52 v3 leases_f = some res → ∀ (H : Heap) (locs : List Loc), Wo G A s (wX6_read G a_eb a_desk a_desk_leases a_desk_leases_a a_tape a_tape_a a_text a_text_a a_kept a_plan a_mat a_desk_boxes a_desk_words a_desk_weeks a_desk_routes a_desk_offers a_desk_wants a_desk_leaves a_desk_uses isKept planStands today lack rate free leases_r leases_f tp_many tp_first tp_behind tp_f tx_clauses tx_fault tx_f) H locs → ∀ ls : Array Slot, lv_has ls 4 [(0, .ref a_eb), (1, .int v1), (3, .int v3)] → W p l e rmX6_read s m args below meth c H locs 0 0 (QI G A below args s res.1 (wX6_read G a_eb a_desk a_desk_leases a_desk_leases_a a_tape a_tape_a a_text a_text_a a_kept a_plan a_mat a_desk_boxes a_desk_words a_desk_weeks a_desk_routes a_desk_offers a_desk_wants a_desk_leaves a_desk_uses isKept planStands today lack rate free leases_r res.2.1 res.2.2.1 res.2.2.2.1 res.2.2.2.2.1 tp_f res.2.2.2.2.2.1 res.2.2.2.2.2.2.1 res.2.2.2.2.2.2.2)) (F0 m 52 ls [])) (h : fX6_read_85 k_52 v3 t1 t2 t4 t5 leases_r leases_f tx_f = some res) : ∀ (H : Heap) (locs : List Loc), Wo G A s (wX6_read G a_eb a_desk a_desk_leases a_desk_leases_a a_tape a_tape_a a_text a_text_a a_kept a_plan a_mat a_desk_boxes a_desk_words a_desk_weeks a_desk_routes a_desk_offers a_desk_wants a_desk_leaves a_desk_uses isKept planStands today lack rate free leases_r leases_f tp_many tp_first tp_behind tp_f tx_clauses tx_fault tx_f) H locs → ∀ ls : Array Slot, lv_has ls 4 [(0, .ref a_eb), (1, .int v1), (3, .int v3)] → W p l e rmX6_read s m args below meth c H locs 0 0 (QI G A below args s res.1 (wX6_read G a_eb a_desk a_desk_leases a_desk_leases_a a_tape a_tape_a a_text a_text_a a_kept a_plan a_mat a_desk_boxes a_desk_words a_desk_weeks a_desk_routes a_desk_offers a_desk_wants a_desk_leaves a_desk_uses isKept planStands today lack rate free leases_r res.2.1 res.2.2.1 res.2.2.2.1 res.2.2.2.2.1 tp_f res.2.2.2.2.2.1 res.2.2.2.2.2.2.1 res.2.2.2.2.2.2.2)) (F0 m 85 ls [.int t5, .int t4, .ref a_text, .int t2, .int t1, .ref a_desk_leases]) := by
  obtain ⟨hx, hb, -⟩ := id X.1
  intro H locs hW ls hl
  rw [fX6_read_85] at h
  obtain ⟨r12, hq, h⟩ := bn1_some h
  refine g_cvi X hW (As := [.int t4, .int t5]) (ws' := (wX6_read G a_eb a_desk a_desk_leases a_desk_leases_a a_tape a_tape_a a_text a_text_a a_kept a_plan a_mat a_desk_boxes a_desk_words a_desk_weeks a_desk_routes a_desk_offers a_desk_wants a_desk_leaves a_desk_uses isKept planStands today lack rate free leases_r leases_f tp_many tp_first tp_behind tp_f tx_clauses tx_fault tx_f)) ckX6_read_X1_termOr_264 (kcX1_termOr (l := l) G a_text a_text_a t4 t5 tx_clauses tx_fault tx_f hq) ⟨rfl, rfl, Nat.le_of_ble_eq_true rfl, Nat.le_of_ble_eq_true rfl⟩ [6, 7] rfl rfl rfl rfl rfl rfl rfl hl.1 (Nat.le_of_ble_eq_true rfl) ⟨Nat.zero_le _, Nat.zero_le _⟩ dX6_read_85 (fun H locs hW => ?_)
  obtain ⟨o13_tb_f, hq, h⟩ := bn1_some h
  refine g_cvv X hW (As := [.int t1, .int t2, .int r12]) (ws' := (wX6_read G a_eb a_desk a_desk_leases a_desk_leases_a a_tape a_tape_a a_text a_text_a a_kept a_plan a_mat a_desk_boxes a_desk_words a_desk_weeks a_desk_routes a_desk_offers a_desk_wants a_desk_leaves a_desk_uses isKept planStands today lack rate free leases_r o13_tb_f tp_many tp_first tp_behind tp_f tx_clauses tx_fault tx_f)) ckX6_read_X4_put_96 (kcX4_put (l := l) G a_desk_leases a_desk_leases_a t1 t2 r12 (17 : Int32) (3 : Int32) leases_r 51 leases_f hq) ⟨rfl, rfl, Nat.le_of_ble_eq_true rfl, Nat.le_of_ble_eq_true rfl⟩ [2, 3] rfl rfl rfl rfl rfl rfl rfl hl.1 (Nat.le_of_ble_eq_true rfl) ⟨Nat.zero_le _, Nat.zero_le _⟩ dX6_read_88 (fun H locs hW => ?_)
  refine lv_iinc (v := (v3 + (1 : Int32))) (lv' := [(3, .int (v3 + (1 : Int32))), (0, .ref a_eb), (1, .int v1)]) hx hb dX6_read_91 hl (k := 2) rfl (congrArg (fun z => v3 + z) qI_1) (by decide) rfl (fun ls hl => ?_)
  refine lv_goto (tgt := 52) hx hb dX6_read_94 (by decide) ?_
  exact Hk_52 (v3 + (1 : Int32)) o13_tb_f h H locs hW ls (lv_sub hl [1, 2, 0] rfl)
set_option maxHeartbeats 4000000 in
set_option maxRecDepth 100000 in
theorem tX6_read_52 (X : Bx p s m args meth c cX6_read 4 wsX6_read RX6 (some .int)) (v1 : Int32) (tp_many : Int32) (tp_first : Int32) (tp_behind : Int32) (tx_clauses : Int32) (tx_fault : Int32) (tx_f : (Nat → Int32)) (k_97 : (Nat → Int32) → Option (Int32 × (Nat → Int32) × Int32 × Int32 × Int32 × Int32 × Int32 × (Nat → Int32))) (Hk_97 : ∀ (leases_f : (Nat → Int32)), k_97 leases_f = some res → ∀ (H : Heap) (locs : List Loc), Wo G A s (wX6_read G a_eb a_desk a_desk_leases a_desk_leases_a a_tape a_tape_a a_text a_text_a a_kept a_plan a_mat a_desk_boxes a_desk_words a_desk_weeks a_desk_routes a_desk_offers a_desk_wants a_desk_leaves a_desk_uses isKept planStands today lack rate free leases_r leases_f tp_many tp_first tp_behind tp_f tx_clauses tx_fault tx_f) H locs → ∀ ls : Array Slot, lv_has ls 4 [(0, .ref a_eb), (1, .int v1)] → W p l e rmX6_read s m args below meth c H locs 0 0 (QI G A below args s res.1 (wX6_read G a_eb a_desk a_desk_leases a_desk_leases_a a_tape a_tape_a a_text a_text_a a_kept a_plan a_mat a_desk_boxes a_desk_words a_desk_weeks a_desk_routes a_desk_offers a_desk_wants a_desk_leaves a_desk_uses isKept planStands today lack rate free leases_r res.2.1 res.2.2.1 res.2.2.2.1 res.2.2.2.2.1 tp_f res.2.2.2.2.2.1 res.2.2.2.2.2.2.1 res.2.2.2.2.2.2.2)) (F0 m 97 ls [])) : ∀ (n : Nat) (v3 : Int32) (leases_f : (Nat → Int32)), fX6_read_52 v1 leases_r tx_f k_97 n v3 leases_f = some res → ∀ (H : Heap) (locs : List Loc), Wo G A s (wX6_read G a_eb a_desk a_desk_leases a_desk_leases_a a_tape a_tape_a a_text a_text_a a_kept a_plan a_mat a_desk_boxes a_desk_words a_desk_weeks a_desk_routes a_desk_offers a_desk_wants a_desk_leaves a_desk_uses isKept planStands today lack rate free leases_r leases_f tp_many tp_first tp_behind tp_f tx_clauses tx_fault tx_f) H locs → ∀ ls : Array Slot, lv_has ls 4 [(0, .ref a_eb), (1, .int v1), (3, .int v3)] → W p l e rmX6_read s m args below meth c H locs 0 0 (QI G A below args s res.1 (wX6_read G a_eb a_desk a_desk_leases a_desk_leases_a a_tape a_tape_a a_text a_text_a a_kept a_plan a_mat a_desk_boxes a_desk_words a_desk_weeks a_desk_routes a_desk_offers a_desk_wants a_desk_leaves a_desk_uses isKept planStands today lack rate free leases_r res.2.1 res.2.2.1 res.2.2.2.1 res.2.2.2.2.1 tp_f res.2.2.2.2.2.1 res.2.2.2.2.2.2.1 res.2.2.2.2.2.2.2)) (F0 m 52 ls []) := by
  obtain ⟨hx, hb, -⟩ := id X.1
  intro n
  induction n with
  | zero => intro v3 leases_f h; rw [fX6_read_52] at h; cases h
  | succ n ih =>
    intro v3 leases_f h H locs hW ls hl
    rw [fX6_read_52] at h
    refine lv_iload_n hx hb dX6_read_52 rfl (lv_at hl 2 rfl) ?_
    refine lv_bipush hx hb dX6_read_53 qB_16 ?_
    refine lv_icmp_ge (tgt := 97) hx hb dX6_read_55 (by decide) (fun c18 => ?_) (fun c18 => ?_)
    · have h := (if_pos c18).symm.trans h
      exact Hk_97 leases_f h H locs hW ls (lv_sub hl [0, 1] rfl)
    · have h := (if_neg c18).symm.trans h
      refine lv_aload_n hx hb dX6_read_58 rfl (lv_at hl 0 rfl) ?_
      refine g_get X hW eX6_read_12 0 rfl rfl dX6_read_59 ?_
      refine g_get X hW eX6_read_261 1 rfl rfl dX6_read_62 ?_
      refine lv_iload_n hx hb dX6_read_65 rfl (lv_at hl 1 rfl) ?_
      refine lv_iload_n hx hb dX6_read_66 rfl (lv_at hl 2 rfl) ?_
      refine lv_aload_n hx hb dX6_read_67 rfl (lv_at hl 0 rfl) ?_
      refine g_get X hW eX6_read_29 0 rfl rfl dX6_read_68 ?_
      refine lv_iload_n hx hb dX6_read_71 rfl (lv_at hl 2 rfl) ?_
      refine lv_iload_n hx hb dX6_read_72 rfl (lv_at hl 2 rfl) ?_
      refine lv_bipush hx hb dX6_read_73 qB_10 ?_
      refine lv_icmp_lt (tgt := 84) hx hb dX6_read_75 (by decide) (fun c29 => ?_) (fun c29 => ?_)
      · have h := (if_pos c29).symm.trans h
        refine lv_iconst hx hb dX6_read_84 qI_0 ?_
        exact tX6_read_85 X v1 v3 v1 v3 v3 (0 : Int32) leases_f tp_many tp_first tp_behind tx_clauses tx_fault tx_f (fun v3 leases_f => fX6_read_52 v1 leases_r tx_f k_97 n v3 leases_f) ih h H locs hW ls hl
      · have h := (if_neg c29).symm.trans h
        refine lv_sipush hx hb dX6_read_78 qS_999 ?_
        refine lv_goto (tgt := 85) hx hb dX6_read_81 (by decide) ?_
        exact tX6_read_85 X v1 v3 v1 v3 v3 (999 : Int32) leases_f tp_many tp_first tp_behind tx_clauses tx_fault tx_f (fun v3 leases_f => fX6_read_52 v1 leases_r tx_f k_97 n v3 leases_f) ih h H locs hW ls hl
set_option maxHeartbeats 4000000 in
set_option maxRecDepth 100000 in
theorem k0X6_read {l : Launch} (G : Gt) (a_eb a_desk a_desk_leases a_desk_leases_a a_tape a_tape_a a_text a_text_a a_kept a_plan a_mat a_desk_boxes a_desk_words a_desk_weeks a_desk_routes a_desk_offers a_desk_wants a_desk_leaves a_desk_uses : Nat) (v1 : Int32) (isKept : Int32) (planStands : Int32) (today : Int32) (lack : Int32) (rate : Int32) (free : Int32) (leases_r : Int32) (leases_f : (Nat → Int32)) (tp_many : Int32) (tp_first : Int32) (tp_behind : Int32) (tp_f : (Nat → Int32)) (tx_clauses : Int32) (tx_fault : Int32) (tx_f : (Nat → Int32)) {res : Int32 × (Nat → Int32) × Int32 × Int32 × Int32 × Int32 × Int32 × (Nat → Int32)} (h : fX6_read v1 leases_r leases_f tp_many tp_first tp_behind tp_f tx_clauses tx_fault tx_f = some res) : CtI G l yX6_read wsX6_read rmX6_read [.ref a_eb, .int v1] (wX6_read G a_eb a_desk a_desk_leases a_desk_leases_a a_tape a_tape_a a_text a_text_a a_kept a_plan a_mat a_desk_boxes a_desk_words a_desk_weeks a_desk_routes a_desk_offers a_desk_wants a_desk_leaves a_desk_uses isKept planStands today lack rate free leases_r leases_f tp_many tp_first tp_behind tp_f tx_clauses tx_fault tx_f) res.1 (wX6_read G a_eb a_desk a_desk_leases a_desk_leases_a a_tape a_tape_a a_text a_text_a a_kept a_plan a_mat a_desk_boxes a_desk_words a_desk_weeks a_desk_routes a_desk_offers a_desk_wants a_desk_leaves a_desk_uses isKept planStands today lack rate free leases_r res.2.1 res.2.2.1 res.2.2.2.1 res.2.2.2.2.1 tp_f res.2.2.2.2.2.1 res.2.2.2.2.2.2.1 res.2.2.2.2.2.2.2) := by
  refine CtI.mk (cc := cX6_read) (maxL := 4) (ret := (some .int)) (own := RX6) (by decide) rfl rfl (Nat.le_of_ble_eq_true rfl) ?_
  intro p e s m below meth c A X ls hl hW
  obtain ⟨hx, hb, -⟩ := id X.1
  have hl : lv_has ls 4 [(0, .ref a_eb), (1, .int v1)] := hl
  generalize hH : s.heap = H at hW ⊢
  generalize hLo : ([] : List Loc) = locs at hW ⊢
  rw [fX6_read] at h
  refine lv_iload_n hx hb dX6_read_0 rfl (lv_at hl 1 rfl) ?_
  obtain ⟨r34, hq, h⟩ := bn1_some h
  refine g_csi X hW (As := [.int v1]) (ws' := (wX6_read G a_eb a_desk a_desk_leases a_desk_leases_a a_tape a_tape_a a_text a_text_a a_kept a_plan a_mat a_desk_boxes a_desk_words a_desk_weeks a_desk_routes a_desk_offers a_desk_wants a_desk_leaves a_desk_uses isKept planStands today lack rate free leases_r leases_f tp_many tp_first tp_behind tp_f tx_clauses tx_fault tx_f)) ckX6_read_X6_isLease_72 (kcX6_isLease (l := l) G v1 hq) ⟨rfl, rfl, Nat.le_of_ble_eq_true rfl, Nat.le_of_ble_eq_true rfl⟩ [] rfl rfl rfl rfl rfl rfl hl.1 (Nat.le_of_ble_eq_true rfl) ⟨Nat.zero_le _, Nat.zero_le _⟩ dX6_read_1 (fun H locs hW => ?_)
  refine lv_if_ne (tgt := 16) hx hb dX6_read_4 (by decide) (fun c35 => ?_) (fun c35 => ?_)
  · have h := (if_neg c35).symm.trans h
    refine lv_aload_n hx hb dX6_read_16 rfl (lv_at hl 0 rfl) ?_
    refine g_get X hW eX6_read_29 0 rfl rfl dX6_read_17 ?_
    refine lv_aload_n hx hb dX6_read_20 rfl (lv_at hl 0 rfl) ?_
    refine g_get X hW eX6_read_22 0 rfl rfl dX6_read_21 ?_
    obtain ⟨r40, o40_tx_clauses, o40_tx_fault, o40_tx_f, o40_tp_first, o40_tp_behind, hq, h⟩ := bn6_some h
    refine g_cvi X hW (As := [.ref a_tape]) (ws' := (wX6_read G a_eb a_desk a_desk_leases a_desk_leases_a a_tape a_tape_a a_text a_text_a a_kept a_plan a_mat a_desk_boxes a_desk_words a_desk_weeks a_desk_routes a_desk_offers a_desk_wants a_desk_leaves a_desk_uses isKept planStands today lack rate free leases_r leases_f tp_many o40_tp_first o40_tp_behind tp_f o40_tx_clauses o40_tx_fault o40_tx_f)) ckX6_read_X1_parse_254 (kcX1_parse (l := l) G a_text a_text_a a_tape a_tape_a tx_clauses tx_fault tx_f tp_many tp_first tp_behind tp_f hq) ⟨rfl, rfl, Nat.le_of_ble_eq_true rfl, Nat.le_of_ble_eq_true rfl⟩ [6, 7, 4, 5] rfl rfl rfl rfl rfl rfl rfl hl.1 (Nat.le_of_ble_eq_true rfl) ⟨Nat.zero_le _, Nat.zero_le _⟩ dX6_read_24 (fun H locs hW => ?_)
    refine lv_istore_n (lv' := [(2, .int r40), (0, .ref a_eb), (1, .int v1)]) hx hb dX6_read_27 rfl hl (by decide) rfl (fun ls hl => ?_)
    refine lv_aload_n hx hb dX6_read_28 rfl (lv_at hl 1 rfl) ?_
    refine g_get X hW eX6_read_22 0 rfl rfl dX6_read_29 ?_
    obtain ⟨o44_tp_many, hq, h⟩ := bn1_some h
    refine g_cvv X hW (As := []) (ws' := (wX6_read G a_eb a_desk a_desk_leases a_desk_leases_a a_tape a_tape_a a_text a_text_a a_kept a_plan a_mat a_desk_boxes a_desk_words a_desk_weeks a_desk_routes a_desk_offers a_desk_wants a_desk_leaves a_desk_uses isKept planStands today lack rate free leases_r leases_f o44_tp_many o40_tp_first o40_tp_behind tp_f o40_tx_clauses o40_tx_fault o40_tx_f)) ckX6_read_X5_empty_253 (kcX5_empty (l := l) G a_tape a_tape_a tp_many o40_tp_first o40_tp_behind hq) ⟨rfl, rfl, Nat.le_of_ble_eq_true rfl, Nat.le_of_ble_eq_true rfl⟩ [4] rfl rfl rfl rfl rfl rfl rfl hl.1 (Nat.le_of_ble_eq_true rfl) ⟨Nat.zero_le _, Nat.zero_le _⟩ dX6_read_32 (fun H locs hW => ?_)
    refine lv_iload_n hx hb dX6_read_35 rfl (lv_at hl 0 rfl) ?_
    refine lv_if_ne (tgt := 50) hx hb dX6_read_36 (by decide) (fun c46 => ?_) (fun c46 => ?_)
    · have h := (if_neg c46).symm.trans h
      refine lv_iconst hx hb dX6_read_50 qI_0 ?_
      refine lv_istore_n (lv' := [(3, .int (0 : Int32)), (2, .int r40), (0, .ref a_eb), (1, .int v1)]) hx hb dX6_read_51 rfl hl (by decide) rfl (fun ls hl => ?_)
      exact tX6_read_52 X v1 o44_tp_many o40_tp_first o40_tp_behind o40_tx_clauses o40_tx_fault o40_tx_f (fun leases_f_q49 => fX6_read_97 v1 leases_r leases_f_q49 o44_tp_many o40_tp_first o40_tp_behind o40_tx_clauses o40_tx_fault o40_tx_f) (fun leases_f_q49 h H locs hW ls hl => by exact tX6_read_97 X v1 leases_f_q49 o44_tp_many o40_tp_first o40_tp_behind o40_tx_clauses o40_tx_fault o40_tx_f h H locs hW ls hl) FU (0 : Int32) leases_f h H locs hW ls (lv_sub hl [2, 3, 0] rfl)
    · have h := (if_pos c46).symm.trans h
      refine lv_bipush hx hb dX6_read_39 qB_m100 ?_
      refine lv_aload_n hx hb dX6_read_41 rfl (lv_at hl 1 rfl) ?_
      refine g_get X hW eX6_read_29 0 rfl rfl dX6_read_42 ?_
      refine g_get X hW eX6_read_258 6 rfl rfl dX6_read_45 ?_
      refine lv_isub hx hb dX6_read_48 ?_
      obtain rfl := Option.some.inj h
      exact g_iret X hW dX6_read_49
  · have h := (if_pos c35).symm.trans h
    refine lv_aload_n hx hb dX6_read_7 rfl (lv_at hl 0 rfl) ?_
    refine g_get X hW eX6_read_22 0 rfl rfl dX6_read_8 ?_
    obtain ⟨o58_tp_many, hq, h⟩ := bn1_some h
    refine g_cvv X hW (As := []) (ws' := (wX6_read G a_eb a_desk a_desk_leases a_desk_leases_a a_tape a_tape_a a_text a_text_a a_kept a_plan a_mat a_desk_boxes a_desk_words a_desk_weeks a_desk_routes a_desk_offers a_desk_wants a_desk_leaves a_desk_uses isKept planStands today lack rate free leases_r leases_f o58_tp_many tp_first tp_behind tp_f tx_clauses tx_fault tx_f)) ckX6_read_X5_empty_253 (kcX5_empty (l := l) G a_tape a_tape_a tp_many tp_first tp_behind hq) ⟨rfl, rfl, Nat.le_of_ble_eq_true rfl, Nat.le_of_ble_eq_true rfl⟩ [4] rfl rfl rfl rfl rfl rfl rfl hl.1 (Nat.le_of_ble_eq_true rfl) ⟨Nat.zero_le _, Nat.zero_le _⟩ dX6_read_11 (fun H locs hW => ?_)
    refine lv_iconst hx hb dX6_read_14 qI_m1 ?_
    obtain rfl := Option.some.inj h
    exact g_iret X hW dX6_read_15
theorem kcX6_read {l : Launch} (G : Gt) (a_eb a_desk a_desk_leases a_desk_leases_a a_tape a_tape_a a_text a_text_a a_kept a_plan a_mat a_desk_boxes a_desk_words a_desk_weeks a_desk_routes a_desk_offers a_desk_wants a_desk_leaves a_desk_uses : Nat) (v1 : Int32) (isKept : Int32) (planStands : Int32) (today : Int32) (lack : Int32) (rate : Int32) (free : Int32) (leases_r : Int32) (leases_f : (Nat → Int32)) (tp_many : Int32) (tp_first : Int32) (tp_behind : Int32) (tp_f : (Nat → Int32)) (tx_clauses : Int32) (tx_fault : Int32) (tx_f : (Nat → Int32)) {r : Int32} {z_leases_f : (Nat → Int32)} {z_tp_many : Int32} {z_tp_first : Int32} {z_tp_behind : Int32} {z_tx_clauses : Int32} {z_tx_fault : Int32} {z_tx_f : (Nat → Int32)} (h : fX6_read v1 leases_r leases_f tp_many tp_first tp_behind tp_f tx_clauses tx_fault tx_f = some (r, z_leases_f, z_tp_many, z_tp_first, z_tp_behind, z_tx_clauses, z_tx_fault, z_tx_f)) : CtI G l yX6_read wsX6_read rmX6_read [.ref a_eb, .int v1] (wX6_read G a_eb a_desk a_desk_leases a_desk_leases_a a_tape a_tape_a a_text a_text_a a_kept a_plan a_mat a_desk_boxes a_desk_words a_desk_weeks a_desk_routes a_desk_offers a_desk_wants a_desk_leaves a_desk_uses isKept planStands today lack rate free leases_r leases_f tp_many tp_first tp_behind tp_f tx_clauses tx_fault tx_f) r (wX6_read G a_eb a_desk a_desk_leases a_desk_leases_a a_tape a_tape_a a_text a_text_a a_kept a_plan a_mat a_desk_boxes a_desk_words a_desk_weeks a_desk_routes a_desk_offers a_desk_wants a_desk_leaves a_desk_uses isKept planStands today lack rate free leases_r z_leases_f z_tp_many z_tp_first z_tp_behind tp_f z_tx_clauses z_tx_fault z_tx_f) := k0X6_read G a_eb a_desk a_desk_leases a_desk_leases_a a_tape a_tape_a a_text a_text_a a_kept a_plan a_mat a_desk_boxes a_desk_words a_desk_weeks a_desk_routes a_desk_offers a_desk_wants a_desk_leaves a_desk_uses v1 isKept planStands today lack rate free leases_r leases_f tp_many tp_first tp_behind tp_f tx_clauses tx_fault tx_f h
end MX6_read
/-! EmptyBoxes.askedTerm -/
section MX6_askedTerm
theorem hdX6_askedTerm : yX6_askedTerm.cls = RX6 ∧ yX6_askedTerm.cls ≠ "java/lang/invoke/MethodHandle" ∧ yX6_askedTerm.cls ≠ "java/lang/invoke/VarHandle" ∧ (parseMethodDescriptor yX6_askedTerm.desc).map (fun d => d.parameters.length) = some 1 := by decide +kernel
abbrev rmX6_askedTerm : Room := { frames := 1, cells := 0, slots := 0, locals := 22 }
theorem ckX6_askedTerm_X6_isWithin_54 : CkS wsX6_askedTerm RX6 54 yX6_isWithin wsX6_isWithin cX6_isWithin 3 (some .boolean) 3 := ⟨_, gX6_askedTerm_X6_isWithin, rfl, hdX6_isWithin.2⟩
variable {p : Program} {l : Launch} {e : Env} {s : State} {m : MethodId} {args : Array Value} {below : List Frame} {meth : Method} {c : Code} {A : Nat → Prop} {G : Gt} {res : Int32}
set_option maxHeartbeats 4000000 in
set_option maxRecDepth 100000 in
theorem k0X6_askedTerm {l : Launch} (G : Gt) (v0 : Int32)  {res : Int32} (h : fX6_askedTerm v0 = some res) : CtI G l yX6_askedTerm wsX6_askedTerm rmX6_askedTerm [.int v0] ([] : va_W) res ([] : va_W) := by
  refine CtI.mk (cc := cX6_askedTerm) (maxL := 1) (ret := (some .int)) (own := RX6) (by decide) rfl rfl (Nat.le_of_ble_eq_true rfl) ?_
  intro p e s m below meth c A X ls hl hW
  obtain ⟨hx, hb, -⟩ := id X.1
  have hl : lv_has ls 1 [(0, .int v0)] := hl
  generalize hH : s.heap = H at hW ⊢
  generalize hLo : ([] : List Loc) = locs at hW ⊢
  rw [fX6_askedTerm] at h
  refine lv_iload_n hx hb dX6_askedTerm_0 rfl (lv_at hl 0 rfl) ?_
  refine lv_iconst hx hb dX6_askedTerm_1 qI_0 ?_
  refine lv_iconst hx hb dX6_askedTerm_2 qI_3 ?_
  obtain ⟨r4, hq, h⟩ := bn1_some h
  refine g_csi X hW (As := [.int v0, .int (0 : Int32), .int (3 : Int32)]) (ws' := ([] : va_W)) ckX6_askedTerm_X6_isWithin_54 (kcX6_isWithin (l := l) G v0 (0 : Int32) (3 : Int32) hq) ⟨rfl, rfl, Nat.le_of_ble_eq_true rfl, Nat.le_of_ble_eq_true rfl⟩ [] rfl rfl rfl rfl rfl rfl hl.1 (Nat.le_of_ble_eq_true rfl) ⟨Nat.zero_le _, Nat.zero_le _⟩ dX6_askedTerm_3 (fun H locs hW => ?_)
  refine lv_if_eq (tgt := 11) hx hb dX6_askedTerm_6 (by decide) (fun c5 => ?_) (fun c5 => ?_)
  · have h := (if_pos c5).symm.trans h
    refine lv_iload_n hx hb dX6_askedTerm_11 rfl (lv_at hl 0 rfl) ?_
    refine lv_bipush hx hb dX6_askedTerm_12 qB_10 ?_
    refine lv_bipush hx hb dX6_askedTerm_14 qB_15 ?_
    obtain ⟨r9, hq, h⟩ := bn1_some h
    refine g_csi X hW (As := [.int v0, .int (10 : Int32), .int (15 : Int32)]) (ws' := ([] : va_W)) ckX6_askedTerm_X6_isWithin_54 (kcX6_isWithin (l := l) G v0 (10 : Int32) (15 : Int32) hq) ⟨rfl, rfl, Nat.le_of_ble_eq_true rfl, Nat.le_of_ble_eq_true rfl⟩ [] rfl rfl rfl rfl rfl rfl hl.1 (Nat.le_of_ble_eq_true rfl) ⟨Nat.zero_le _, Nat.zero_le _⟩ dX6_askedTerm_16 (fun H locs hW => ?_)
    refine lv_if_eq (tgt := 29) hx hb dX6_askedTerm_19 (by decide) (fun c10 => ?_) (fun c10 => ?_)
    · have h := (if_pos c10).symm.trans h
      refine lv_iload_n hx hb dX6_askedTerm_29 rfl (lv_at hl 0 rfl) ?_
      refine lv_bipush hx hb dX6_askedTerm_30 qB_20 ?_
      refine lv_bipush hx hb dX6_askedTerm_32 qB_25 ?_
      obtain ⟨r14, hq, h⟩ := bn1_some h
      refine g_csi X hW (As := [.int v0, .int (20 : Int32), .int (25 : Int32)]) (ws' := ([] : va_W)) ckX6_askedTerm_X6_isWithin_54 (kcX6_isWithin (l := l) G v0 (20 : Int32) (25 : Int32) hq) ⟨rfl, rfl, Nat.le_of_ble_eq_true rfl, Nat.le_of_ble_eq_true rfl⟩ [] rfl rfl rfl rfl rfl rfl hl.1 (Nat.le_of_ble_eq_true rfl) ⟨Nat.zero_le _, Nat.zero_le _⟩ dX6_askedTerm_34 (fun H locs hW => ?_)
      refine lv_if_eq (tgt := 50) hx hb dX6_askedTerm_37 (by decide) (fun c15 => ?_) (fun c15 => ?_)
      · have h := (if_pos c15).symm.trans h
        refine lv_bipush hx hb dX6_askedTerm_50 qB_m3 ?_
        obtain rfl := Option.some.inj h
        exact g_iret X hW dX6_askedTerm_52
      · have h := (if_neg c15).symm.trans h
        refine lv_bipush hx hb dX6_askedTerm_40 qB_10 ?_
        refine lv_iload_n hx hb dX6_askedTerm_42 rfl (lv_at hl 0 rfl) ?_
        refine lv_bipush hx hb dX6_askedTerm_43 qB_20 ?_
        refine lv_isub hx hb dX6_askedTerm_45 ?_
        refine lv_iadd hx hb dX6_askedTerm_46 ?_
        refine lv_goto (tgt := 52) hx hb dX6_askedTerm_47 (by decide) ?_
        obtain rfl := Option.some.inj h
        exact g_iret X hW dX6_askedTerm_52
    · have h := (if_neg c10).symm.trans h
      refine lv_iconst hx hb dX6_askedTerm_22 qI_4 ?_
      refine lv_iload_n hx hb dX6_askedTerm_23 rfl (lv_at hl 0 rfl) ?_
      refine lv_bipush hx hb dX6_askedTerm_24 qB_10 ?_
      refine lv_isub hx hb dX6_askedTerm_26 ?_
      refine lv_iadd hx hb dX6_askedTerm_27 ?_
      obtain rfl := Option.some.inj h
      exact g_iret X hW dX6_askedTerm_28
  · have h := (if_neg c5).symm.trans h
    refine lv_iload_n hx hb dX6_askedTerm_9 rfl (lv_at hl 0 rfl) ?_
    obtain rfl := Option.some.inj h
    exact g_iret X hW dX6_askedTerm_10
theorem kcX6_askedTerm {l : Launch} (G : Gt) (v0 : Int32)  {r : Int32}  (h : fX6_askedTerm v0 = some r) : CtI G l yX6_askedTerm wsX6_askedTerm rmX6_askedTerm [.int v0] ([] : va_W) r ([] : va_W) := k0X6_askedTerm G v0 h
end MX6_askedTerm
/-! EmptyBoxes.lease -/
section MX6_lease
theorem hdX6_lease : yX6_lease.cls = RX6 ∧ yX6_lease.cls ≠ "java/lang/invoke/MethodHandle" ∧ yX6_lease.cls ≠ "java/lang/invoke/VarHandle" ∧ (parseMethodDescriptor yX6_lease.desc).map (fun d => d.parameters.length) = some 2 := by decide +kernel
abbrev wX6_lease (G : Gt) (a_eb a_desk a_desk_leases a_desk_leases_a a_kept a_tape a_text a_plan a_mat a_desk_boxes a_desk_words a_desk_weeks a_desk_routes a_desk_offers a_desk_wants a_desk_leaves a_desk_uses : Nat) (isKept : Int32) (planStands : Int32) (today : Int32) (lack : Int32) (rate : Int32) (free : Int32) (leases_r : Int32) (leases_f : (Nat → Int32)) : va_W := [(a_eb, .inr (6, [.ref a_desk, .ref a_kept, .ref a_tape, .ref a_text, .ref a_plan, .ref a_mat, .int isKept, .int planStands])), (a_desk, .inr (0, [.ref a_desk_boxes, .ref a_desk_words, .ref a_desk_weeks, .ref a_desk_routes, .ref a_desk_offers, .ref a_desk_wants, .ref a_desk_leaves, .ref a_desk_leases, .ref a_desk_uses, .int today, .int lack, .int rate, .int free])), (a_desk_leases, .inr (4, [.ref a_desk_leases_a, .int (17 : Int32), .int (3 : Int32), .int leases_r])), (a_desk_leases_a, .inl (G.2.1, 51, .inl leases_f))]
abbrev rmX6_lease : Room := { frames := 3, cells := 0, slots := 0, locals := 65 }
theorem iX6_lease_X0 : ∀ w ∈ wsX00, w ∈ wsX6_lease := by decide +kernel
theorem iX6_lease_X6 : ∀ w ∈ wsX60, w ∈ wsX6_lease := by decide +kernel
theorem eX6_lease_12 : Fk wsX6_lease RX6 12 6 0 := ⟨RX6, TX6, 8, rfl, iX6_lease_X6, by decide, by decide +kernel⟩
theorem eX6_lease_261 : Fk wsX6_lease RX6 261 0 7 := ⟨RX0, TX0, 13, rfl, iX6_lease_X0, by decide, by decide +kernel⟩
theorem ckX6_lease_X4_cell_113 : CkV wsX6_lease RX6 113 yX4_cell wsX4_cell cX4_cell 3 (some .int) 2 4 := ⟨RX4, TX4, 4, _, rfl, gX6_lease_X4_cell, rfl, hdX4_cell⟩
theorem ckX6_lease_X6_askedTerm_270 : CkS wsX6_lease RX6 270 yX6_askedTerm wsX6_askedTerm cX6_askedTerm 1 (some .int) 1 := ⟨_, gX6_lease_X6_askedTerm, rfl, hdX6_askedTerm.2⟩
theorem ckX6_lease_X6_isLease_72 : CkS wsX6_lease RX6 72 yX6_isLease wsX6_isLease cX6_isLease 1 (some .boolean) 1 := ⟨_, gX6_lease_X6_isLease, rfl, hdX6_isLease.2⟩
theorem ckX6_lease_X6_wasRead_79 : CkV wsX6_lease RX6 79 yX6_wasRead wsX6_wasRead cX6_wasRead 2 (some .boolean) 1 6 := ⟨RX6, TX6, 8, _, rfl, gX6_lease_X6_wasRead, rfl, hdX6_wasRead⟩
variable {p : Program} {l : Launch} {e : Env} {s : State} {m : MethodId} {args : Array Value} {below : List Frame} {meth : Method} {c : Code} {A : Nat → Prop} {G : Gt} {a_eb a_desk a_desk_leases a_desk_leases_a a_kept a_tape a_text a_plan a_mat a_desk_boxes a_desk_words a_desk_weeks a_desk_routes a_desk_offers a_desk_wants a_desk_leaves a_desk_uses : Nat} {isKept : Int32} {planStands : Int32} {today : Int32} {lack : Int32} {rate : Int32} {free : Int32} {leases_r : Int32} {leases_f : (Nat → Int32)} {res : Int32}
set_option maxHeartbeats 4000000 in
set_option maxRecDepth 100000 in
theorem k0X6_lease {l : Launch} (G : Gt) (a_eb a_desk a_desk_leases a_desk_leases_a a_kept a_tape a_text a_plan a_mat a_desk_boxes a_desk_words a_desk_weeks a_desk_routes a_desk_offers a_desk_wants a_desk_leaves a_desk_uses : Nat) (v1 : Int32) (v2 : Int32) (isKept : Int32) (planStands : Int32) (today : Int32) (lack : Int32) (rate : Int32) (free : Int32) (leases_r : Int32) (leases_f : (Nat → Int32)) {res : Int32} (h : fX6_lease v1 v2 leases_r leases_f = some res) : CtI G l yX6_lease wsX6_lease rmX6_lease [.ref a_eb, .int v1, .int v2] (wX6_lease G a_eb a_desk a_desk_leases a_desk_leases_a a_kept a_tape a_text a_plan a_mat a_desk_boxes a_desk_words a_desk_weeks a_desk_routes a_desk_offers a_desk_wants a_desk_leaves a_desk_uses isKept planStands today lack rate free leases_r leases_f) res (wX6_lease G a_eb a_desk a_desk_leases a_desk_leases_a a_kept a_tape a_text a_plan a_mat a_desk_boxes a_desk_words a_desk_weeks a_desk_routes a_desk_offers a_desk_wants a_desk_leaves a_desk_uses isKept planStands today lack rate free leases_r leases_f) := by
  refine CtI.mk (cc := cX6_lease) (maxL := 4) (ret := (some .int)) (own := RX6) (by decide) rfl rfl (Nat.le_of_ble_eq_true rfl) ?_
  intro p e s m below meth c A X ls hl hW
  obtain ⟨hx, hb, -⟩ := id X.1
  have hl : lv_has ls 4 [(0, .ref a_eb), (1, .int v1), (2, .int v2)] := hl
  generalize hH : s.heap = H at hW ⊢
  generalize hLo : ([] : List Loc) = locs at hW ⊢
  rw [fX6_lease] at h
  refine lv_iload_n hx hb dX6_lease_0 rfl (lv_at hl 2 rfl) ?_
  obtain ⟨r2, hq, h⟩ := bn1_some h
  refine g_csi X hW (As := [.int v2]) (ws' := (wX6_lease G a_eb a_desk a_desk_leases a_desk_leases_a a_kept a_tape a_text a_plan a_mat a_desk_boxes a_desk_words a_desk_weeks a_desk_routes a_desk_offers a_desk_wants a_desk_leaves a_desk_uses isKept planStands today lack rate free leases_r leases_f)) ckX6_lease_X6_askedTerm_270 (kcX6_askedTerm (l := l) G v2 hq) ⟨rfl, rfl, Nat.le_of_ble_eq_true rfl, Nat.le_of_ble_eq_true rfl⟩ [] rfl rfl rfl rfl rfl rfl hl.1 (Nat.le_of_ble_eq_true rfl) ⟨Nat.zero_le _, Nat.zero_le _⟩ dX6_lease_1 (fun H locs hW => ?_)
  refine lv_istore_n (lv' := [(3, .int r2), (0, .ref a_eb), (1, .int v1), (2, .int v2)]) hx hb dX6_lease_4 rfl hl (by decide) rfl (fun ls hl => ?_)
  refine lv_iload_n hx hb dX6_lease_5 rfl (lv_at hl 2 rfl) ?_
  obtain ⟨r5, hq, h⟩ := bn1_some h
  refine g_csi X hW (As := [.int v1]) (ws' := (wX6_lease G a_eb a_desk a_desk_leases a_desk_leases_a a_kept a_tape a_text a_plan a_mat a_desk_boxes a_desk_words a_desk_weeks a_desk_routes a_desk_offers a_desk_wants a_desk_leaves a_desk_uses isKept planStands today lack rate free leases_r leases_f)) ckX6_lease_X6_isLease_72 (kcX6_isLease (l := l) G v1 hq) ⟨rfl, rfl, Nat.le_of_ble_eq_true rfl, Nat.le_of_ble_eq_true rfl⟩ [] rfl rfl rfl rfl rfl rfl hl.1 (Nat.le_of_ble_eq_true rfl) ⟨Nat.zero_le _, Nat.zero_le _⟩ dX6_lease_6 (fun H locs hW => ?_)
  refine lv_if_eq (tgt := 16) hx hb dX6_lease_9 (by decide) (fun c6 => ?_) (fun c6 => ?_)
  · have h := (if_pos c6).symm.trans h
    refine lv_iconst hx hb dX6_lease_16 qI_m1 ?_
    obtain rfl := Option.some.inj h
    exact g_iret X hW dX6_lease_17
  · have h := (if_neg c6).symm.trans h
    refine lv_iload_n hx hb dX6_lease_12 rfl (lv_at hl 0 rfl) ?_
    refine lv_if_ge (tgt := 18) hx hb dX6_lease_13 (by decide) (fun c10 => ?_) (fun c10 => ?_)
    · have h := (if_pos c10).symm.trans h
      refine lv_aload_n hx hb dX6_lease_18 rfl (lv_at hl 1 rfl) ?_
      refine lv_iload_n hx hb dX6_lease_19 rfl (lv_at hl 2 rfl) ?_
      obtain ⟨r13, hq, h⟩ := bn1_some h
      refine g_cvi X hW (As := [.int v1]) (ws' := (wX6_lease G a_eb a_desk a_desk_leases a_desk_leases_a a_kept a_tape a_text a_plan a_mat a_desk_boxes a_desk_words a_desk_weeks a_desk_routes a_desk_offers a_desk_wants a_desk_leaves a_desk_uses isKept planStands today lack rate free leases_r leases_f)) ckX6_lease_X6_wasRead_79 (kcX6_wasRead (l := l) G a_eb a_desk a_desk_leases a_desk_leases_a a_kept a_tape a_text a_plan a_mat a_desk_boxes a_desk_words a_desk_weeks a_desk_routes a_desk_offers a_desk_wants a_desk_leaves a_desk_uses v1 isKept planStands today lack rate free leases_r leases_f hq) ⟨rfl, rfl, Nat.le_of_ble_eq_true rfl, Nat.le_of_ble_eq_true rfl⟩ [0, 1, 2, 3] rfl rfl rfl rfl rfl rfl rfl hl.1 (Nat.le_of_ble_eq_true rfl) ⟨Nat.zero_le _, Nat.zero_le _⟩ dX6_lease_20 (fun H locs hW => ?_)
      refine lv_if_eq (tgt := 41) hx hb dX6_lease_23 (by decide) (fun c14 => ?_) (fun c14 => ?_)
      · have h := (if_pos c14).symm.trans h
        refine lv_bipush hx hb dX6_lease_41 qB_m3 ?_
        obtain rfl := Option.some.inj h
        exact g_iret X hW dX6_lease_43
      · have h := (if_neg c14).symm.trans h
        refine lv_aload_n hx hb dX6_lease_26 rfl (lv_at hl 1 rfl) ?_
        refine g_get X hW eX6_lease_12 0 rfl rfl dX6_lease_27 ?_
        refine g_get X hW eX6_lease_261 1 rfl rfl dX6_lease_30 ?_
        refine lv_iload_n hx hb dX6_lease_33 rfl (lv_at hl 2 rfl) ?_
        refine lv_iload_n hx hb dX6_lease_34 rfl (lv_at hl 0 rfl) ?_
        obtain ⟨r22, hq, h⟩ := bn1_some h
        refine g_cvi X hW (As := [.int v1, .int r2]) (ws' := (wX6_lease G a_eb a_desk a_desk_leases a_desk_leases_a a_kept a_tape a_text a_plan a_mat a_desk_boxes a_desk_words a_desk_weeks a_desk_routes a_desk_offers a_desk_wants a_desk_leaves a_desk_uses isKept planStands today lack rate free leases_r leases_f)) ckX6_lease_X4_cell_113 (kcX4_cell (l := l) G a_desk_leases a_desk_leases_a v1 r2 (17 : Int32) (3 : Int32) leases_r 51 leases_f hq) ⟨rfl, rfl, Nat.le_of_ble_eq_true rfl, Nat.le_of_ble_eq_true rfl⟩ [2, 3] rfl rfl rfl rfl rfl rfl rfl hl.1 (Nat.le_of_ble_eq_true rfl) ⟨Nat.zero_le _, Nat.zero_le _⟩ dX6_lease_35 (fun H locs hW => ?_)
        refine lv_goto (tgt := 43) hx hb dX6_lease_38 (by decide) ?_
        obtain rfl := Option.some.inj h
        exact g_iret X hW dX6_lease_43
    · have h := (if_neg c10).symm.trans h
      refine lv_iconst hx hb dX6_lease_16 qI_m1 ?_
      obtain rfl := Option.some.inj h
      exact g_iret X hW dX6_lease_17
theorem kcX6_lease {l : Launch} (G : Gt) (a_eb a_desk a_desk_leases a_desk_leases_a a_kept a_tape a_text a_plan a_mat a_desk_boxes a_desk_words a_desk_weeks a_desk_routes a_desk_offers a_desk_wants a_desk_leaves a_desk_uses : Nat) (v1 : Int32) (v2 : Int32) (isKept : Int32) (planStands : Int32) (today : Int32) (lack : Int32) (rate : Int32) (free : Int32) (leases_r : Int32) (leases_f : (Nat → Int32)) {r : Int32}  (h : fX6_lease v1 v2 leases_r leases_f = some r) : CtI G l yX6_lease wsX6_lease rmX6_lease [.ref a_eb, .int v1, .int v2] (wX6_lease G a_eb a_desk a_desk_leases a_desk_leases_a a_kept a_tape a_text a_plan a_mat a_desk_boxes a_desk_words a_desk_weeks a_desk_routes a_desk_offers a_desk_wants a_desk_leaves a_desk_uses isKept planStands today lack rate free leases_r leases_f) r (wX6_lease G a_eb a_desk a_desk_leases a_desk_leases_a a_kept a_tape a_text a_plan a_mat a_desk_boxes a_desk_words a_desk_weeks a_desk_routes a_desk_offers a_desk_wants a_desk_leaves a_desk_uses isKept planStands today lack rate free leases_r leases_f) := k0X6_lease G a_eb a_desk a_desk_leases a_desk_leases_a a_kept a_tape a_text a_plan a_mat a_desk_boxes a_desk_words a_desk_weeks a_desk_routes a_desk_offers a_desk_wants a_desk_leaves a_desk_uses v1 v2 isKept planStands today lack rate free leases_r leases_f h
end MX6_lease
/-! EmptyBoxes.isUnderLease -/
section MX6_isUnderLease
theorem hdX6_isUnderLease : yX6_isUnderLease.cls = RX6 ∧ yX6_isUnderLease.cls ≠ "java/lang/invoke/MethodHandle" ∧ yX6_isUnderLease.cls ≠ "java/lang/invoke/VarHandle" ∧ (parseMethodDescriptor yX6_isUnderLease.desc).map (fun d => d.parameters.length) = some 1 := by decide +kernel
abbrev wX6_isUnderLease (G : Gt) (a_eb a_desk a_desk_boxes a_desk_boxes_a a_kept a_tape a_text a_plan a_mat a_desk_words a_desk_weeks a_desk_routes a_desk_offers a_desk_wants a_desk_leaves a_desk_leases a_desk_uses : Nat) (isKept : Int32) (planStands : Int32) (today : Int32) (lack : Int32) (rate : Int32) (free : Int32) (boxes_r : Int32) (boxes_f : (Nat → Int32)) : va_W := [(a_eb, .inr (6, [.ref a_desk, .ref a_kept, .ref a_tape, .ref a_text, .ref a_plan, .ref a_mat, .int isKept, .int planStands])), (a_desk, .inr (0, [.ref a_desk_boxes, .ref a_desk_words, .ref a_desk_weeks, .ref a_desk_routes, .ref a_desk_offers, .ref a_desk_wants, .ref a_desk_leaves, .ref a_desk_leases, .ref a_desk_uses, .int today, .int lack, .int rate, .int free])), (a_desk_boxes, .inr (4, [.ref a_desk_boxes_a, .int (9 : Int32), .int (24 : Int32), .int boxes_r])), (a_desk_boxes_a, .inl (G.2.1, 216, .inl boxes_f))]
abbrev rmX6_isUnderLease : Room := { frames := 3, cells := 0, slots := 0, locals := 65 }
theorem iX6_isUnderLease_X0 : ∀ w ∈ wsX00, w ∈ wsX6_isUnderLease := by decide +kernel
theorem iX6_isUnderLease_X6 : ∀ w ∈ wsX60, w ∈ wsX6_isUnderLease := by decide +kernel
theorem eX6_isUnderLease_12 : Fk wsX6_isUnderLease RX6 12 6 0 := ⟨RX6, TX6, 8, rfl, iX6_isUnderLease_X6, by decide, by decide +kernel⟩
theorem eX6_isUnderLease_82 : Fk wsX6_isUnderLease RX6 82 0 0 := ⟨RX0, TX0, 13, rfl, iX6_isUnderLease_X0, by decide, by decide +kernel⟩
theorem ckX6_isUnderLease_X4_cell_113 : CkV wsX6_isUnderLease RX6 113 yX4_cell wsX4_cell cX4_cell 3 (some .int) 2 4 := ⟨RX4, TX4, 4, _, rfl, gX6_isUnderLease_X4_cell, rfl, hdX4_cell⟩
theorem ckX6_isUnderLease_X6_isWithLine_129 : CkV wsX6_isUnderLease RX6 129 yX6_isWithLine wsX6_isWithLine cX6_isWithLine 2 (some .boolean) 1 6 := ⟨RX6, TX6, 8, _, rfl, gX6_isUnderLease_X6_isWithLine, rfl, hdX6_isWithLine⟩
variable {p : Program} {l : Launch} {e : Env} {s : State} {m : MethodId} {args : Array Value} {below : List Frame} {meth : Method} {c : Code} {A : Nat → Prop} {G : Gt} {a_eb a_desk a_desk_boxes a_desk_boxes_a a_kept a_tape a_text a_plan a_mat a_desk_words a_desk_weeks a_desk_routes a_desk_offers a_desk_wants a_desk_leaves a_desk_leases a_desk_uses : Nat} {isKept : Int32} {planStands : Int32} {today : Int32} {lack : Int32} {rate : Int32} {free : Int32} {boxes_r : Int32} {boxes_f : (Nat → Int32)} {res : Int32}
set_option maxHeartbeats 4000000 in
set_option maxRecDepth 100000 in
theorem k0X6_isUnderLease {l : Launch} (G : Gt) (a_eb a_desk a_desk_boxes a_desk_boxes_a a_kept a_tape a_text a_plan a_mat a_desk_words a_desk_weeks a_desk_routes a_desk_offers a_desk_wants a_desk_leaves a_desk_leases a_desk_uses : Nat) (v1 : Int32) (isKept : Int32) (planStands : Int32) (today : Int32) (lack : Int32) (rate : Int32) (free : Int32) (boxes_r : Int32) (boxes_f : (Nat → Int32)) {res : Int32} (h : fX6_isUnderLease v1 boxes_r boxes_f = some res) : CtI G l yX6_isUnderLease wsX6_isUnderLease rmX6_isUnderLease [.ref a_eb, .int v1] (wX6_isUnderLease G a_eb a_desk a_desk_boxes a_desk_boxes_a a_kept a_tape a_text a_plan a_mat a_desk_words a_desk_weeks a_desk_routes a_desk_offers a_desk_wants a_desk_leaves a_desk_leases a_desk_uses isKept planStands today lack rate free boxes_r boxes_f) res (wX6_isUnderLease G a_eb a_desk a_desk_boxes a_desk_boxes_a a_kept a_tape a_text a_plan a_mat a_desk_words a_desk_weeks a_desk_routes a_desk_offers a_desk_wants a_desk_leaves a_desk_leases a_desk_uses isKept planStands today lack rate free boxes_r boxes_f) := by
  refine CtI.mk (cc := cX6_isUnderLease) (maxL := 2) (ret := (some .boolean)) (own := RX6) (by decide) rfl rfl (Nat.le_of_ble_eq_true rfl) ?_
  intro p e s m below meth c A X ls hl hW
  obtain ⟨hx, hb, -⟩ := id X.1
  have hl : lv_has ls 2 [(0, .ref a_eb), (1, .int v1)] := hl
  generalize hH : s.heap = H at hW ⊢
  generalize hLo : ([] : List Loc) = locs at hW ⊢
  rw [fX6_isUnderLease] at h
  refine lv_aload_n hx hb dX6_isUnderLease_0 rfl (lv_at hl 0 rfl) ?_
  refine g_get X hW eX6_isUnderLease_12 0 rfl rfl dX6_isUnderLease_1 ?_
  refine g_get X hW eX6_isUnderLease_82 1 rfl rfl dX6_isUnderLease_4 ?_
  refine lv_iload_n hx hb dX6_isUnderLease_7 rfl (lv_at hl 1 rfl) ?_
  refine lv_iconst hx hb dX6_isUnderLease_8 qI_3 ?_
  obtain ⟨r6, hq, h⟩ := bn1_some h
  refine g_cvi X hW (As := [.int v1, .int (3 : Int32)]) (ws' := (wX6_isUnderLease G a_eb a_desk a_desk_boxes a_desk_boxes_a a_kept a_tape a_text a_plan a_mat a_desk_words a_desk_weeks a_desk_routes a_desk_offers a_desk_wants a_desk_leaves a_desk_leases a_desk_uses isKept planStands today lack rate free boxes_r boxes_f)) ckX6_isUnderLease_X4_cell_113 (kcX4_cell (l := l) G a_desk_boxes a_desk_boxes_a v1 (3 : Int32) (9 : Int32) (24 : Int32) boxes_r 216 boxes_f hq) ⟨rfl, rfl, Nat.le_of_ble_eq_true rfl, Nat.le_of_ble_eq_true rfl⟩ [2, 3] rfl rfl rfl rfl rfl rfl rfl hl.1 (Nat.le_of_ble_eq_true rfl) ⟨Nat.zero_le _, Nat.zero_le _⟩ dX6_isUnderLease_9 (fun H locs hW => ?_)
  refine lv_if_lt (tgt := 27) hx hb dX6_isUnderLease_12 (by decide) (fun c7 => ?_) (fun c7 => ?_)
  · have h := (if_pos c7).symm.trans h
    refine lv_iconst hx hb dX6_isUnderLease_27 qI_0 ?_
    obtain rfl := Option.some.inj h
    exact g_zret X hW rfl dX6_isUnderLease_28
  · have h := (if_neg c7).symm.trans h
    refine lv_aload_n hx hb dX6_isUnderLease_15 rfl (lv_at hl 0 rfl) ?_
    refine lv_iload_n hx hb dX6_isUnderLease_16 rfl (lv_at hl 1 rfl) ?_
    obtain ⟨r12, hq, h⟩ := bn1_some h
    refine g_cvi X hW (As := [.int v1]) (ws' := (wX6_isUnderLease G a_eb a_desk a_desk_boxes a_desk_boxes_a a_kept a_tape a_text a_plan a_mat a_desk_words a_desk_weeks a_desk_routes a_desk_offers a_desk_wants a_desk_leaves a_desk_leases a_desk_uses isKept planStands today lack rate free boxes_r boxes_f)) ckX6_isUnderLease_X6_isWithLine_129 (kcX6_isWithLine (l := l) G a_eb a_desk a_desk_boxes a_desk_boxes_a a_kept a_tape a_text a_plan a_mat a_desk_words a_desk_weeks a_desk_routes a_desk_offers a_desk_wants a_desk_leaves a_desk_leases a_desk_uses v1 isKept planStands today lack rate free boxes_r boxes_f hq) ⟨rfl, rfl, Nat.le_of_ble_eq_true rfl, Nat.le_of_ble_eq_true rfl⟩ [0, 1, 2, 3] rfl rfl rfl rfl rfl rfl rfl hl.1 (Nat.le_of_ble_eq_true rfl) ⟨Nat.zero_le _, Nat.zero_le _⟩ dX6_isUnderLease_17 (fun H locs hW => ?_)
    refine lv_if_eq (tgt := 27) hx hb dX6_isUnderLease_20 (by decide) (fun c13 => ?_) (fun c13 => ?_)
    · have h := (if_pos c13).symm.trans h
      refine lv_iconst hx hb dX6_isUnderLease_27 qI_0 ?_
      obtain rfl := Option.some.inj h
      exact g_zret X hW rfl dX6_isUnderLease_28
    · have h := (if_neg c13).symm.trans h
      refine lv_iconst hx hb dX6_isUnderLease_23 qI_1 ?_
      refine lv_goto (tgt := 28) hx hb dX6_isUnderLease_24 (by decide) ?_
      obtain rfl := Option.some.inj h
      exact g_zret X hW rfl dX6_isUnderLease_28
theorem kcX6_isUnderLease {l : Launch} (G : Gt) (a_eb a_desk a_desk_boxes a_desk_boxes_a a_kept a_tape a_text a_plan a_mat a_desk_words a_desk_weeks a_desk_routes a_desk_offers a_desk_wants a_desk_leaves a_desk_leases a_desk_uses : Nat) (v1 : Int32) (isKept : Int32) (planStands : Int32) (today : Int32) (lack : Int32) (rate : Int32) (free : Int32) (boxes_r : Int32) (boxes_f : (Nat → Int32)) {r : Int32}  (h : fX6_isUnderLease v1 boxes_r boxes_f = some r) : CtI G l yX6_isUnderLease wsX6_isUnderLease rmX6_isUnderLease [.ref a_eb, .int v1] (wX6_isUnderLease G a_eb a_desk a_desk_boxes a_desk_boxes_a a_kept a_tape a_text a_plan a_mat a_desk_words a_desk_weeks a_desk_routes a_desk_offers a_desk_wants a_desk_leaves a_desk_leases a_desk_uses isKept planStands today lack rate free boxes_r boxes_f) r (wX6_isUnderLease G a_eb a_desk a_desk_boxes a_desk_boxes_a a_kept a_tape a_text a_plan a_mat a_desk_words a_desk_weeks a_desk_routes a_desk_offers a_desk_wants a_desk_leaves a_desk_leases a_desk_uses isKept planStands today lack rate free boxes_r boxes_f) := k0X6_isUnderLease G a_eb a_desk a_desk_boxes a_desk_boxes_a a_kept a_tape a_text a_plan a_mat a_desk_words a_desk_weeks a_desk_routes a_desk_offers a_desk_wants a_desk_leaves a_desk_leases a_desk_uses v1 isKept planStands today lack rate free boxes_r boxes_f h
end MX6_isUnderLease
/-! EmptyBoxes.givenBackThisWeek -/
section MX6_givenBackThisWeek
theorem hdX6_givenBackThisWeek : yX6_givenBackThisWeek.cls = RX6 ∧ yX6_givenBackThisWeek.cls ≠ "java/lang/invoke/MethodHandle" ∧ yX6_givenBackThisWeek.cls ≠ "java/lang/invoke/VarHandle" ∧ (parseMethodDescriptor yX6_givenBackThisWeek.desc).map (fun d => d.parameters.length) = some 2 := by decide +kernel
abbrev wX6_givenBackThisWeek (G : Gt) (a_eb a_desk a_desk_boxes a_desk_boxes_a a_kept a_tape a_text a_plan a_mat a_desk_words a_desk_weeks a_desk_routes a_desk_offers a_desk_wants a_desk_leaves a_desk_leases a_desk_uses : Nat) (isKept : Int32) (planStands : Int32) (today : Int32) (lack : Int32) (rate : Int32) (free : Int32) (boxes_r : Int32) (boxes_f : (Nat → Int32)) : va_W := [(a_eb, .inr (6, [.ref a_desk, .ref a_kept, .ref a_tape, .ref a_text, .ref a_plan, .ref a_mat, .int isKept, .int planStands])), (a_desk, .inr (0, [.ref a_desk_boxes, .ref a_desk_words, .ref a_desk_weeks, .ref a_desk_routes, .ref a_desk_offers, .ref a_desk_wants, .ref a_desk_leaves, .ref a_desk_leases, .ref a_desk_uses, .int today, .int lack, .int rate, .int free])), (a_desk_boxes, .inr (4, [.ref a_desk_boxes_a, .int (9 : Int32), .int (24 : Int32), .int boxes_r])), (a_desk_boxes_a, .inl (G.2.1, 216, .inl boxes_f))]
abbrev rmX6_givenBackThisWeek : Room := { frames := 2, cells := 0, slots := 0, locals := 44 }
theorem iX6_givenBackThisWeek_X0 : ∀ w ∈ wsX00, w ∈ wsX6_givenBackThisWeek := by decide +kernel
theorem iX6_givenBackThisWeek_X6 : ∀ w ∈ wsX60, w ∈ wsX6_givenBackThisWeek := by decide +kernel
theorem eX6_givenBackThisWeek_12 : Fk wsX6_givenBackThisWeek RX6 12 6 0 := ⟨RX6, TX6, 8, rfl, iX6_givenBackThisWeek_X6, by decide, by decide +kernel⟩
theorem eX6_givenBackThisWeek_58 : Fk wsX6_givenBackThisWeek RX6 58 0 9 := ⟨RX0, TX0, 13, rfl, iX6_givenBackThisWeek_X0, by decide, by decide +kernel⟩
theorem eX6_givenBackThisWeek_82 : Fk wsX6_givenBackThisWeek RX6 82 0 0 := ⟨RX0, TX0, 13, rfl, iX6_givenBackThisWeek_X0, by decide, by decide +kernel⟩
theorem ckX6_givenBackThisWeek_X4_cell_113 : CkV wsX6_givenBackThisWeek RX6 113 yX4_cell wsX4_cell cX4_cell 3 (some .int) 2 4 := ⟨RX4, TX4, 4, _, rfl, gX6_givenBackThisWeek_X4_cell, rfl, hdX4_cell⟩
theorem ckX6_givenBackThisWeek_X4_size_117 : CkV wsX6_givenBackThisWeek RX6 117 yX4_size wsX4_size cX4_size 1 (some .int) 0 4 := ⟨RX4, TX4, 4, _, rfl, gX6_givenBackThisWeek_X4_size, rfl, hdX4_size⟩
variable {p : Program} {l : Launch} {e : Env} {s : State} {m : MethodId} {args : Array Value} {below : List Frame} {meth : Method} {c : Code} {A : Nat → Prop} {G : Gt} {a_eb a_desk a_desk_boxes a_desk_boxes_a a_kept a_tape a_text a_plan a_mat a_desk_words a_desk_weeks a_desk_routes a_desk_offers a_desk_wants a_desk_leaves a_desk_leases a_desk_uses : Nat} {isKept : Int32} {planStands : Int32} {today : Int32} {lack : Int32} {rate : Int32} {free : Int32} {boxes_r : Int32} {boxes_f : (Nat → Int32)} {res : Int32}
set_option maxHeartbeats 4000000 in
set_option maxRecDepth 100000 in
theorem tX6_givenBackThisWeek_105 (X : Bx p s m args meth c cX6_givenBackThisWeek 5 wsX6_givenBackThisWeek RX6 (some .int)) (v1 : Int32) (v2 : Int32) (v3 : Int32) (v4 : Int32) (k_5 : Int32 → Int32 → Option (Int32)) (Hk_5 : ∀ (v3 : Int32) (v4 : Int32), k_5 v3 v4 = some res → ∀ (H : Heap) (locs : List Loc), Wo G A s (wX6_givenBackThisWeek G a_eb a_desk a_desk_boxes a_desk_boxes_a a_kept a_tape a_text a_plan a_mat a_desk_words a_desk_weeks a_desk_routes a_desk_offers a_desk_wants a_desk_leaves a_desk_leases a_desk_uses isKept planStands today lack rate free boxes_r boxes_f) H locs → ∀ ls : Array Slot, lv_has ls 5 [(0, .ref a_eb), (1, .int v1), (2, .int v2), (3, .int v3), (4, .int v4)] → W p l e rmX6_givenBackThisWeek s m args below meth c H locs 0 0 (QI G A below args s res (wX6_givenBackThisWeek G a_eb a_desk a_desk_boxes a_desk_boxes_a a_kept a_tape a_text a_plan a_mat a_desk_words a_desk_weeks a_desk_routes a_desk_offers a_desk_wants a_desk_leaves a_desk_leases a_desk_uses isKept planStands today lack rate free boxes_r boxes_f)) (F0 m 5 ls [])) (h : fX6_givenBackThisWeek_105 k_5 v3 v4 = some res) : ∀ (H : Heap) (locs : List Loc), Wo G A s (wX6_givenBackThisWeek G a_eb a_desk a_desk_boxes a_desk_boxes_a a_kept a_tape a_text a_plan a_mat a_desk_words a_desk_weeks a_desk_routes a_desk_offers a_desk_wants a_desk_leaves a_desk_leases a_desk_uses isKept planStands today lack rate free boxes_r boxes_f) H locs → ∀ ls : Array Slot, lv_has ls 5 [(0, .ref a_eb), (1, .int v1), (2, .int v2), (3, .int v3), (4, .int v4)] → W p l e rmX6_givenBackThisWeek s m args below meth c H locs 0 0 (QI G A below args s res (wX6_givenBackThisWeek G a_eb a_desk a_desk_boxes a_desk_boxes_a a_kept a_tape a_text a_plan a_mat a_desk_words a_desk_weeks a_desk_routes a_desk_offers a_desk_wants a_desk_leaves a_desk_leases a_desk_uses isKept planStands today lack rate free boxes_r boxes_f)) (F0 m 105 ls []) := by
  obtain ⟨hx, hb, -⟩ := id X.1
  intro H locs hW ls hl
  rw [fX6_givenBackThisWeek_105] at h
  refine lv_iinc (v := (v4 + (1 : Int32))) (lv' := [(4, .int (v4 + (1 : Int32))), (0, .ref a_eb), (1, .int v1), (2, .int v2), (3, .int v3)]) hx hb dX6_givenBackThisWeek_105 hl (k := 4) rfl (congrArg (fun z => v4 + z) qI_1) (by decide) rfl (fun ls hl => ?_)
  refine lv_goto (tgt := 5) hx hb dX6_givenBackThisWeek_108 (by decide) ?_
  exact Hk_5 v3 (v4 + (1 : Int32)) h H locs hW ls (lv_sub hl [1, 2, 3, 4, 0] rfl)
set_option maxHeartbeats 4000000 in
set_option maxRecDepth 100000 in
theorem tX6_givenBackThisWeek_5 (X : Bx p s m args meth c cX6_givenBackThisWeek 5 wsX6_givenBackThisWeek RX6 (some .int)) (v1 : Int32) (v2 : Int32)   : ∀ (n : Nat) (v3 : Int32) (v4 : Int32), fX6_givenBackThisWeek_5 v1 v2 today boxes_r boxes_f n v3 v4 = some res → ∀ (H : Heap) (locs : List Loc), Wo G A s (wX6_givenBackThisWeek G a_eb a_desk a_desk_boxes a_desk_boxes_a a_kept a_tape a_text a_plan a_mat a_desk_words a_desk_weeks a_desk_routes a_desk_offers a_desk_wants a_desk_leaves a_desk_leases a_desk_uses isKept planStands today lack rate free boxes_r boxes_f) H locs → ∀ ls : Array Slot, lv_has ls 5 [(0, .ref a_eb), (1, .int v1), (2, .int v2), (3, .int v3), (4, .int v4)] → W p l e rmX6_givenBackThisWeek s m args below meth c H locs 0 0 (QI G A below args s res (wX6_givenBackThisWeek G a_eb a_desk a_desk_boxes a_desk_boxes_a a_kept a_tape a_text a_plan a_mat a_desk_words a_desk_weeks a_desk_routes a_desk_offers a_desk_wants a_desk_leaves a_desk_leases a_desk_uses isKept planStands today lack rate free boxes_r boxes_f)) (F0 m 5 ls []) := by
  obtain ⟨hx, hb, -⟩ := id X.1
  intro n
  induction n with
  | zero => intro v3 v4 h; rw [fX6_givenBackThisWeek_5] at h; cases h
  | succ n ih =>
    intro v3 v4 h H locs hW ls hl
    rw [fX6_givenBackThisWeek_5] at h
    refine lv_iload hx hb dX6_givenBackThisWeek_5 (lv_at hl 4 rfl) ?_
    refine lv_aload_n hx hb dX6_givenBackThisWeek_7 rfl (lv_at hl 0 rfl) ?_
    refine g_get X hW eX6_givenBackThisWeek_12 0 rfl rfl dX6_givenBackThisWeek_8 ?_
    refine g_get X hW eX6_givenBackThisWeek_82 1 rfl rfl dX6_givenBackThisWeek_11 ?_
    obtain ⟨r7, hq, h⟩ := bn1_some h
    refine g_cvi X hW (As := []) (ws' := (wX6_givenBackThisWeek G a_eb a_desk a_desk_boxes a_desk_boxes_a a_kept a_tape a_text a_plan a_mat a_desk_words a_desk_weeks a_desk_routes a_desk_offers a_desk_wants a_desk_leaves a_desk_leases a_desk_uses isKept planStands today lack rate free boxes_r boxes_f)) ckX6_givenBackThisWeek_X4_size_117 (kcX4_size (l := l) G a_desk_boxes a_desk_boxes_a (9 : Int32) (24 : Int32) boxes_r hq) ⟨rfl, rfl, Nat.le_of_ble_eq_true rfl, Nat.le_of_ble_eq_true rfl⟩ [2] rfl rfl rfl rfl rfl rfl rfl hl.1 (Nat.le_of_ble_eq_true rfl) ⟨Nat.zero_le _, Nat.zero_le _⟩ dX6_givenBackThisWeek_14 (fun H locs hW => ?_)
    refine lv_icmp_ge (tgt := 111) hx hb dX6_givenBackThisWeek_17 (by decide) (fun c8 => ?_) (fun c8 => ?_)
    · have h := (if_pos c8).symm.trans h
      refine lv_iload_n hx hb dX6_givenBackThisWeek_111 rfl (lv_at hl 3 rfl) ?_
      obtain rfl := Option.some.inj h
      exact g_iret X hW dX6_givenBackThisWeek_112
    · have h := (if_neg c8).symm.trans h
      refine lv_aload_n hx hb dX6_givenBackThisWeek_20 rfl (lv_at hl 0 rfl) ?_
      refine g_get X hW eX6_givenBackThisWeek_12 0 rfl rfl dX6_givenBackThisWeek_21 ?_
      refine g_get X hW eX6_givenBackThisWeek_82 1 rfl rfl dX6_givenBackThisWeek_24 ?_
      refine lv_iload hx hb dX6_givenBackThisWeek_27 (lv_at hl 4 rfl) ?_
      refine lv_iconst hx hb dX6_givenBackThisWeek_29 qI_5 ?_
      obtain ⟨r16, hq, h⟩ := bn1_some h
      refine g_cvi X hW (As := [.int v4, .int (5 : Int32)]) (ws' := (wX6_givenBackThisWeek G a_eb a_desk a_desk_boxes a_desk_boxes_a a_kept a_tape a_text a_plan a_mat a_desk_words a_desk_weeks a_desk_routes a_desk_offers a_desk_wants a_desk_leaves a_desk_leases a_desk_uses isKept planStands today lack rate free boxes_r boxes_f)) ckX6_givenBackThisWeek_X4_cell_113 (kcX4_cell (l := l) G a_desk_boxes a_desk_boxes_a v4 (5 : Int32) (9 : Int32) (24 : Int32) boxes_r 216 boxes_f hq) ⟨rfl, rfl, Nat.le_of_ble_eq_true rfl, Nat.le_of_ble_eq_true rfl⟩ [2, 3] rfl rfl rfl rfl rfl rfl rfl hl.1 (Nat.le_of_ble_eq_true rfl) ⟨Nat.zero_le _, Nat.zero_le _⟩ dX6_givenBackThisWeek_30 (fun H locs hW => ?_)
      refine lv_iconst hx hb dX6_givenBackThisWeek_33 qI_1 ?_
      refine lv_icmp_ne (tgt := 105) hx hb dX6_givenBackThisWeek_34 (by decide) (fun c18 => ?_) (fun c18 => ?_)
      · have h := (if_neg c18).symm.trans h
        exact tX6_givenBackThisWeek_105 X v1 v2 v3 v4 (fun v3 v4 => fX6_givenBackThisWeek_5 v1 v2 today boxes_r boxes_f n v3 v4) ih h H locs hW ls hl
      · have h := (if_pos c18).symm.trans h
        refine lv_aload_n hx hb dX6_givenBackThisWeek_37 rfl (lv_at hl 0 rfl) ?_
        refine g_get X hW eX6_givenBackThisWeek_12 0 rfl rfl dX6_givenBackThisWeek_38 ?_
        refine g_get X hW eX6_givenBackThisWeek_82 1 rfl rfl dX6_givenBackThisWeek_41 ?_
        refine lv_iload hx hb dX6_givenBackThisWeek_44 (lv_at hl 4 rfl) ?_
        refine lv_iconst hx hb dX6_givenBackThisWeek_46 qI_3 ?_
        obtain ⟨r24, hq, h⟩ := bn1_some h
        refine g_cvi X hW (As := [.int v4, .int (3 : Int32)]) (ws' := (wX6_givenBackThisWeek G a_eb a_desk a_desk_boxes a_desk_boxes_a a_kept a_tape a_text a_plan a_mat a_desk_words a_desk_weeks a_desk_routes a_desk_offers a_desk_wants a_desk_leaves a_desk_leases a_desk_uses isKept planStands today lack rate free boxes_r boxes_f)) ckX6_givenBackThisWeek_X4_cell_113 (kcX4_cell (l := l) G a_desk_boxes a_desk_boxes_a v4 (3 : Int32) (9 : Int32) (24 : Int32) boxes_r 216 boxes_f hq) ⟨rfl, rfl, Nat.le_of_ble_eq_true rfl, Nat.le_of_ble_eq_true rfl⟩ [2, 3] rfl rfl rfl rfl rfl rfl rfl hl.1 (Nat.le_of_ble_eq_true rfl) ⟨Nat.zero_le _, Nat.zero_le _⟩ dX6_givenBackThisWeek_47 (fun H locs hW => ?_)
        refine lv_iload_n hx hb dX6_givenBackThisWeek_50 rfl (lv_at hl 1 rfl) ?_
        refine lv_icmp_ne (tgt := 105) hx hb dX6_givenBackThisWeek_51 (by decide) (fun c26 => ?_) (fun c26 => ?_)
        · have h := (if_neg c26).symm.trans h
          exact tX6_givenBackThisWeek_105 X v1 v2 v3 v4 (fun v3 v4 => fX6_givenBackThisWeek_5 v1 v2 today boxes_r boxes_f n v3 v4) ih h H locs hW ls hl
        · have h := (if_pos c26).symm.trans h
          refine lv_aload_n hx hb dX6_givenBackThisWeek_54 rfl (lv_at hl 0 rfl) ?_
          refine g_get X hW eX6_givenBackThisWeek_12 0 rfl rfl dX6_givenBackThisWeek_55 ?_
          refine g_get X hW eX6_givenBackThisWeek_82 1 rfl rfl dX6_givenBackThisWeek_58 ?_
          refine lv_iload hx hb dX6_givenBackThisWeek_61 (lv_at hl 4 rfl) ?_
          refine lv_bipush hx hb dX6_givenBackThisWeek_63 qB_8 ?_
          obtain ⟨r32, hq, h⟩ := bn1_some h
          refine g_cvi X hW (As := [.int v4, .int (8 : Int32)]) (ws' := (wX6_givenBackThisWeek G a_eb a_desk a_desk_boxes a_desk_boxes_a a_kept a_tape a_text a_plan a_mat a_desk_words a_desk_weeks a_desk_routes a_desk_offers a_desk_wants a_desk_leaves a_desk_leases a_desk_uses isKept planStands today lack rate free boxes_r boxes_f)) ckX6_givenBackThisWeek_X4_cell_113 (kcX4_cell (l := l) G a_desk_boxes a_desk_boxes_a v4 (8 : Int32) (9 : Int32) (24 : Int32) boxes_r 216 boxes_f hq) ⟨rfl, rfl, Nat.le_of_ble_eq_true rfl, Nat.le_of_ble_eq_true rfl⟩ [2, 3] rfl rfl rfl rfl rfl rfl rfl hl.1 (Nat.le_of_ble_eq_true rfl) ⟨Nat.zero_le _, Nat.zero_le _⟩ dX6_givenBackThisWeek_65 (fun H locs hW => ?_)
          refine lv_iload_n hx hb dX6_givenBackThisWeek_68 rfl (lv_at hl 2 rfl) ?_
          refine lv_icmp_ne (tgt := 105) hx hb dX6_givenBackThisWeek_69 (by decide) (fun c34 => ?_) (fun c34 => ?_)
          · have h := (if_neg c34).symm.trans h
            exact tX6_givenBackThisWeek_105 X v1 v2 v3 v4 (fun v3 v4 => fX6_givenBackThisWeek_5 v1 v2 today boxes_r boxes_f n v3 v4) ih h H locs hW ls hl
          · have h := (if_pos c34).symm.trans h
            refine lv_aload_n hx hb dX6_givenBackThisWeek_72 rfl (lv_at hl 0 rfl) ?_
            refine g_get X hW eX6_givenBackThisWeek_12 0 rfl rfl dX6_givenBackThisWeek_73 ?_
            refine g_get X hW eX6_givenBackThisWeek_82 1 rfl rfl dX6_givenBackThisWeek_76 ?_
            refine lv_iload hx hb dX6_givenBackThisWeek_79 (lv_at hl 4 rfl) ?_
            refine lv_bipush hx hb dX6_givenBackThisWeek_81 qB_7 ?_
            obtain ⟨r40, hq, h⟩ := bn1_some h
            refine g_cvi X hW (As := [.int v4, .int (7 : Int32)]) (ws' := (wX6_givenBackThisWeek G a_eb a_desk a_desk_boxes a_desk_boxes_a a_kept a_tape a_text a_plan a_mat a_desk_words a_desk_weeks a_desk_routes a_desk_offers a_desk_wants a_desk_leaves a_desk_leases a_desk_uses isKept planStands today lack rate free boxes_r boxes_f)) ckX6_givenBackThisWeek_X4_cell_113 (kcX4_cell (l := l) G a_desk_boxes a_desk_boxes_a v4 (7 : Int32) (9 : Int32) (24 : Int32) boxes_r 216 boxes_f hq) ⟨rfl, rfl, Nat.le_of_ble_eq_true rfl, Nat.le_of_ble_eq_true rfl⟩ [2, 3] rfl rfl rfl rfl rfl rfl rfl hl.1 (Nat.le_of_ble_eq_true rfl) ⟨Nat.zero_le _, Nat.zero_le _⟩ dX6_givenBackThisWeek_83 (fun H locs hW => ?_)
            refine lv_bipush hx hb dX6_givenBackThisWeek_86 qB_7 ?_
            refine lv_idiv hx hb dX6_givenBackThisWeek_88 (by decide) ?_
            refine lv_aload_n hx hb dX6_givenBackThisWeek_89 rfl (lv_at hl 0 rfl) ?_
            refine g_get X hW eX6_givenBackThisWeek_12 0 rfl rfl dX6_givenBackThisWeek_90 ?_
            refine g_get X hW eX6_givenBackThisWeek_58 1 rfl rfl dX6_givenBackThisWeek_93 ?_
            refine lv_bipush hx hb dX6_givenBackThisWeek_96 qB_7 ?_
            refine lv_idiv hx hb dX6_givenBackThisWeek_98 (by decide) ?_
            refine lv_icmp_ne (tgt := 105) hx hb dX6_givenBackThisWeek_99 (by decide) (fun c48 => ?_) (fun c48 => ?_)
            · have h := (if_neg c48).symm.trans h
              exact tX6_givenBackThisWeek_105 X v1 v2 v3 v4 (fun v3 v4 => fX6_givenBackThisWeek_5 v1 v2 today boxes_r boxes_f n v3 v4) ih h H locs hW ls hl
            · have h := (if_pos c48).symm.trans h
              refine lv_iinc (v := (v3 + (1 : Int32))) (lv' := [(3, .int (v3 + (1 : Int32))), (0, .ref a_eb), (1, .int v1), (2, .int v2), (4, .int v4)]) hx hb dX6_givenBackThisWeek_102 hl (k := 3) rfl (congrArg (fun z => v3 + z) qI_1) (by decide) rfl (fun ls hl => ?_)
              exact tX6_givenBackThisWeek_105 X v1 v2 (v3 + (1 : Int32)) v4 (fun v3 v4 => fX6_givenBackThisWeek_5 v1 v2 today boxes_r boxes_f n v3 v4) ih h H locs hW ls (lv_sub hl [1, 2, 3, 0, 4] rfl)
set_option maxHeartbeats 4000000 in
set_option maxRecDepth 100000 in
theorem k0X6_givenBackThisWeek {l : Launch} (G : Gt) (a_eb a_desk a_desk_boxes a_desk_boxes_a a_kept a_tape a_text a_plan a_mat a_desk_words a_desk_weeks a_desk_routes a_desk_offers a_desk_wants a_desk_leaves a_desk_leases a_desk_uses : Nat) (v1 : Int32) (v2 : Int32) (isKept : Int32) (planStands : Int32) (today : Int32) (lack : Int32) (rate : Int32) (free : Int32) (boxes_r : Int32) (boxes_f : (Nat → Int32)) {res : Int32} (h : fX6_givenBackThisWeek v1 v2 today boxes_r boxes_f = some res) : CtI G l yX6_givenBackThisWeek wsX6_givenBackThisWeek rmX6_givenBackThisWeek [.ref a_eb, .int v1, .int v2] (wX6_givenBackThisWeek G a_eb a_desk a_desk_boxes a_desk_boxes_a a_kept a_tape a_text a_plan a_mat a_desk_words a_desk_weeks a_desk_routes a_desk_offers a_desk_wants a_desk_leaves a_desk_leases a_desk_uses isKept planStands today lack rate free boxes_r boxes_f) res (wX6_givenBackThisWeek G a_eb a_desk a_desk_boxes a_desk_boxes_a a_kept a_tape a_text a_plan a_mat a_desk_words a_desk_weeks a_desk_routes a_desk_offers a_desk_wants a_desk_leaves a_desk_leases a_desk_uses isKept planStands today lack rate free boxes_r boxes_f) := by
  refine CtI.mk (cc := cX6_givenBackThisWeek) (maxL := 5) (ret := (some .int)) (own := RX6) (by decide) rfl rfl (Nat.le_of_ble_eq_true rfl) ?_
  intro p e s m below meth c A X ls hl hW
  obtain ⟨hx, hb, -⟩ := id X.1
  have hl : lv_has ls 5 [(0, .ref a_eb), (1, .int v1), (2, .int v2)] := hl
  generalize hH : s.heap = H at hW ⊢
  generalize hLo : ([] : List Loc) = locs at hW ⊢
  rw [fX6_givenBackThisWeek] at h
  refine lv_iconst hx hb dX6_givenBackThisWeek_0 qI_0 ?_
  refine lv_istore_n (lv' := [(3, .int (0 : Int32)), (0, .ref a_eb), (1, .int v1), (2, .int v2)]) hx hb dX6_givenBackThisWeek_1 rfl hl (by decide) rfl (fun ls hl => ?_)
  refine lv_iconst hx hb dX6_givenBackThisWeek_2 qI_0 ?_
  refine lv_istore (lv' := [(4, .int (0 : Int32)), (3, .int (0 : Int32)), (0, .ref a_eb), (1, .int v1), (2, .int v2)]) hx hb dX6_givenBackThisWeek_3 hl (by decide) rfl (fun ls hl => ?_)
  exact tX6_givenBackThisWeek_5 X v1 v2 FU (0 : Int32) (0 : Int32) h H locs hW ls (lv_sub hl [2, 3, 4, 1, 0] rfl)
theorem kcX6_givenBackThisWeek {l : Launch} (G : Gt) (a_eb a_desk a_desk_boxes a_desk_boxes_a a_kept a_tape a_text a_plan a_mat a_desk_words a_desk_weeks a_desk_routes a_desk_offers a_desk_wants a_desk_leaves a_desk_leases a_desk_uses : Nat) (v1 : Int32) (v2 : Int32) (isKept : Int32) (planStands : Int32) (today : Int32) (lack : Int32) (rate : Int32) (free : Int32) (boxes_r : Int32) (boxes_f : (Nat → Int32)) {r : Int32}  (h : fX6_givenBackThisWeek v1 v2 today boxes_r boxes_f = some r) : CtI G l yX6_givenBackThisWeek wsX6_givenBackThisWeek rmX6_givenBackThisWeek [.ref a_eb, .int v1, .int v2] (wX6_givenBackThisWeek G a_eb a_desk a_desk_boxes a_desk_boxes_a a_kept a_tape a_text a_plan a_mat a_desk_words a_desk_weeks a_desk_routes a_desk_offers a_desk_wants a_desk_leaves a_desk_leases a_desk_uses isKept planStands today lack rate free boxes_r boxes_f) r (wX6_givenBackThisWeek G a_eb a_desk a_desk_boxes a_desk_boxes_a a_kept a_tape a_text a_plan a_mat a_desk_words a_desk_weeks a_desk_routes a_desk_offers a_desk_wants a_desk_leaves a_desk_leases a_desk_uses isKept planStands today lack rate free boxes_r boxes_f) := k0X6_givenBackThisWeek G a_eb a_desk a_desk_boxes a_desk_boxes_a a_kept a_tape a_text a_plan a_mat a_desk_words a_desk_weeks a_desk_routes a_desk_offers a_desk_wants a_desk_leaves a_desk_leases a_desk_uses v1 v2 isKept planStands today lack rate free boxes_r boxes_f h
end MX6_givenBackThisWeek
/-! EmptyBoxes.dayBill -/
section MX6_dayBill
theorem hdX6_dayBill : yX6_dayBill.cls = RX6 ∧ yX6_dayBill.cls ≠ "java/lang/invoke/MethodHandle" ∧ yX6_dayBill.cls ≠ "java/lang/invoke/VarHandle" ∧ (parseMethodDescriptor yX6_dayBill.desc).map (fun d => d.parameters.length) = some 1 := by decide +kernel
abbrev wX6_dayBill (G : Gt) (a_eb a_desk a_desk_boxes a_desk_boxes_a a_desk_leases a_desk_leases_a a_kept a_tape a_text a_plan a_mat a_desk_words a_desk_weeks a_desk_routes a_desk_offers a_desk_wants a_desk_leaves a_desk_uses : Nat) (isKept : Int32) (planStands : Int32) (today : Int32) (lack : Int32) (rate : Int32) (free : Int32) (boxes_r : Int32) (boxes_f : (Nat → Int32)) (leases_r : Int32) (leases_f : (Nat → Int32)) : va_W := [(a_eb, .inr (6, [.ref a_desk, .ref a_kept, .ref a_tape, .ref a_text, .ref a_plan, .ref a_mat, .int isKept, .int planStands])), (a_desk, .inr (0, [.ref a_desk_boxes, .ref a_desk_words, .ref a_desk_weeks, .ref a_desk_routes, .ref a_desk_offers, .ref a_desk_wants, .ref a_desk_leaves, .ref a_desk_leases, .ref a_desk_uses, .int today, .int lack, .int rate, .int free])), (a_desk_boxes, .inr (4, [.ref a_desk_boxes_a, .int (9 : Int32), .int (24 : Int32), .int boxes_r])), (a_desk_boxes_a, .inl (G.2.1, 216, .inl boxes_f)), (a_desk_leases, .inr (4, [.ref a_desk_leases_a, .int (17 : Int32), .int (3 : Int32), .int leases_r])), (a_desk_leases_a, .inl (G.2.1, 51, .inl leases_f))]
abbrev rmX6_dayBill : Room := { frames := 2, cells := 0, slots := 0, locals := 44 }
theorem iX6_dayBill_X0 : ∀ w ∈ wsX00, w ∈ wsX6_dayBill := by decide +kernel
theorem iX6_dayBill_X6 : ∀ w ∈ wsX60, w ∈ wsX6_dayBill := by decide +kernel
theorem eX6_dayBill_12 : Fk wsX6_dayBill RX6 12 6 0 := ⟨RX6, TX6, 8, rfl, iX6_dayBill_X6, by decide, by decide +kernel⟩
theorem eX6_dayBill_261 : Fk wsX6_dayBill RX6 261 0 7 := ⟨RX0, TX0, 13, rfl, iX6_dayBill_X0, by decide, by decide +kernel⟩
theorem eX6_dayBill_58 : Fk wsX6_dayBill RX6 58 0 9 := ⟨RX0, TX0, 13, rfl, iX6_dayBill_X0, by decide, by decide +kernel⟩
theorem eX6_dayBill_82 : Fk wsX6_dayBill RX6 82 0 0 := ⟨RX0, TX0, 13, rfl, iX6_dayBill_X0, by decide, by decide +kernel⟩
theorem ckX6_dayBill_X4_cell_113 : CkV wsX6_dayBill RX6 113 yX4_cell wsX4_cell cX4_cell 3 (some .int) 2 4 := ⟨RX4, TX4, 4, _, rfl, gX6_dayBill_X4_cell, rfl, hdX4_cell⟩
theorem cmX6_dayBill_285 : CkM wsX6_dayBill RX6 285 Lib.Math.max.name Lib.Math.max.code 2 := by decide +kernel
variable {p : Program} {l : Launch} {e : Env} {s : State} {m : MethodId} {args : Array Value} {below : List Frame} {meth : Method} {c : Code} {A : Nat → Prop} {G : Gt} {a_eb a_desk a_desk_boxes a_desk_boxes_a a_desk_leases a_desk_leases_a a_kept a_tape a_text a_plan a_mat a_desk_words a_desk_weeks a_desk_routes a_desk_offers a_desk_wants a_desk_leaves a_desk_uses : Nat} {isKept : Int32} {planStands : Int32} {today : Int32} {lack : Int32} {rate : Int32} {free : Int32} {boxes_r : Int32} {boxes_f : (Nat → Int32)} {leases_r : Int32} {leases_f : (Nat → Int32)} {res : Int32}
set_option maxHeartbeats 4000000 in
set_option maxRecDepth 100000 in
theorem k0X6_dayBill {l : Launch} (G : Gt) (a_eb a_desk a_desk_boxes a_desk_boxes_a a_desk_leases a_desk_leases_a a_kept a_tape a_text a_plan a_mat a_desk_words a_desk_weeks a_desk_routes a_desk_offers a_desk_wants a_desk_leaves a_desk_uses : Nat) (v1 : Int32) (isKept : Int32) (planStands : Int32) (today : Int32) (lack : Int32) (rate : Int32) (free : Int32) (boxes_r : Int32) (boxes_f : (Nat → Int32)) (leases_r : Int32) (leases_f : (Nat → Int32)) {res : Int32} (h : fX6_dayBill v1 today boxes_r boxes_f leases_r leases_f = some res) : CtI G l yX6_dayBill wsX6_dayBill rmX6_dayBill [.ref a_eb, .int v1] (wX6_dayBill G a_eb a_desk a_desk_boxes a_desk_boxes_a a_desk_leases a_desk_leases_a a_kept a_tape a_text a_plan a_mat a_desk_words a_desk_weeks a_desk_routes a_desk_offers a_desk_wants a_desk_leaves a_desk_uses isKept planStands today lack rate free boxes_r boxes_f leases_r leases_f) res (wX6_dayBill G a_eb a_desk a_desk_boxes a_desk_boxes_a a_desk_leases a_desk_leases_a a_kept a_tape a_text a_plan a_mat a_desk_words a_desk_weeks a_desk_routes a_desk_offers a_desk_wants a_desk_leaves a_desk_uses isKept planStands today lack rate free boxes_r boxes_f leases_r leases_f) := by
  refine CtI.mk (cc := cX6_dayBill) (maxL := 5) (ret := (some .int)) (own := RX6) (by decide) rfl rfl (Nat.le_of_ble_eq_true rfl) ?_
  intro p e s m below meth c A X ls hl hW
  obtain ⟨hx, hb, -⟩ := id X.1
  have hl : lv_has ls 5 [(0, .ref a_eb), (1, .int v1)] := hl
  generalize hH : s.heap = H at hW ⊢
  generalize hLo : ([] : List Loc) = locs at hW ⊢
  rw [fX6_dayBill] at h
  refine lv_aload_n hx hb dX6_dayBill_0 rfl (lv_at hl 0 rfl) ?_
  refine g_get X hW eX6_dayBill_12 0 rfl rfl dX6_dayBill_1 ?_
  refine g_get X hW eX6_dayBill_82 1 rfl rfl dX6_dayBill_4 ?_
  refine lv_iload_n hx hb dX6_dayBill_7 rfl (lv_at hl 1 rfl) ?_
  refine lv_iconst hx hb dX6_dayBill_8 qI_3 ?_
  obtain ⟨r6, hq, h⟩ := bn1_some h
  refine g_cvi X hW (As := [.int v1, .int (3 : Int32)]) (ws' := (wX6_dayBill G a_eb a_desk a_desk_boxes a_desk_boxes_a a_desk_leases a_desk_leases_a a_kept a_tape a_text a_plan a_mat a_desk_words a_desk_weeks a_desk_routes a_desk_offers a_desk_wants a_desk_leaves a_desk_uses isKept planStands today lack rate free boxes_r boxes_f leases_r leases_f)) ckX6_dayBill_X4_cell_113 (kcX4_cell (l := l) G a_desk_boxes a_desk_boxes_a v1 (3 : Int32) (9 : Int32) (24 : Int32) boxes_r 216 boxes_f hq) ⟨rfl, rfl, Nat.le_of_ble_eq_true rfl, Nat.le_of_ble_eq_true rfl⟩ [2, 3] rfl rfl rfl rfl rfl rfl rfl hl.1 (Nat.le_of_ble_eq_true rfl) ⟨Nat.zero_le _, Nat.zero_le _⟩ dX6_dayBill_9 (fun H locs hW => ?_)
  refine lv_istore_n (lv' := [(2, .int r6), (0, .ref a_eb), (1, .int v1)]) hx hb dX6_dayBill_12 rfl hl (by decide) rfl (fun ls hl => ?_)
  refine lv_aload_n hx hb dX6_dayBill_13 rfl (lv_at hl 1 rfl) ?_
  refine g_get X hW eX6_dayBill_12 0 rfl rfl dX6_dayBill_14 ?_
  refine g_get X hW eX6_dayBill_58 1 rfl rfl dX6_dayBill_17 ?_
  refine lv_aload_n hx hb dX6_dayBill_20 rfl (lv_at hl 1 rfl) ?_
  refine g_get X hW eX6_dayBill_12 0 rfl rfl dX6_dayBill_21 ?_
  refine g_get X hW eX6_dayBill_82 1 rfl rfl dX6_dayBill_24 ?_
  refine lv_iload_n hx hb dX6_dayBill_27 rfl (lv_at hl 2 rfl) ?_
  refine lv_iconst hx hb dX6_dayBill_28 qI_4 ?_
  obtain ⟨r16, hq, h⟩ := bn1_some h
  refine g_cvi X hW (As := [.int v1, .int (4 : Int32)]) (ws' := (wX6_dayBill G a_eb a_desk a_desk_boxes a_desk_boxes_a a_desk_leases a_desk_leases_a a_kept a_tape a_text a_plan a_mat a_desk_words a_desk_weeks a_desk_routes a_desk_offers a_desk_wants a_desk_leaves a_desk_uses isKept planStands today lack rate free boxes_r boxes_f leases_r leases_f)) ckX6_dayBill_X4_cell_113 (kcX4_cell (l := l) G a_desk_boxes a_desk_boxes_a v1 (4 : Int32) (9 : Int32) (24 : Int32) boxes_r 216 boxes_f hq) ⟨rfl, rfl, Nat.le_of_ble_eq_true rfl, Nat.le_of_ble_eq_true rfl⟩ [2, 3] rfl rfl rfl rfl rfl rfl rfl hl.1 (Nat.le_of_ble_eq_true rfl) ⟨Nat.zero_le _, Nat.zero_le _⟩ dX6_dayBill_29 (fun H locs hW => ?_)
  refine lv_isub hx hb dX6_dayBill_32 ?_
  refine lv_iconst hx hb dX6_dayBill_33 qI_1 ?_
  refine lv_iadd hx hb dX6_dayBill_34 ?_
  refine lv_istore_n (lv' := [(3, .int ((today - r16) + (1 : Int32))), (2, .int r6), (0, .ref a_eb), (1, .int v1)]) hx hb dX6_dayBill_35 rfl hl (by decide) rfl (fun ls hl => ?_)
  refine lv_iconst hx hb dX6_dayBill_36 qI_0 ?_
  refine lv_iload_n hx hb dX6_dayBill_37 rfl (lv_at hl 0 rfl) ?_
  refine lv_aload_n hx hb dX6_dayBill_38 rfl (lv_at hl 2 rfl) ?_
  refine g_get X hW eX6_dayBill_12 0 rfl rfl dX6_dayBill_39 ?_
  refine g_get X hW eX6_dayBill_261 1 rfl rfl dX6_dayBill_42 ?_
  refine lv_iload_n hx hb dX6_dayBill_45 rfl (lv_at hl 1 rfl) ?_
  refine lv_iconst hx hb dX6_dayBill_46 qI_0 ?_
  obtain ⟨r28, hq, h⟩ := bn1_some h
  refine g_cvi X hW (As := [.int r6, .int (0 : Int32)]) (ws' := (wX6_dayBill G a_eb a_desk a_desk_boxes a_desk_boxes_a a_desk_leases a_desk_leases_a a_kept a_tape a_text a_plan a_mat a_desk_words a_desk_weeks a_desk_routes a_desk_offers a_desk_wants a_desk_leaves a_desk_uses isKept planStands today lack rate free boxes_r boxes_f leases_r leases_f)) ckX6_dayBill_X4_cell_113 (kcX4_cell (l := l) G a_desk_leases a_desk_leases_a r6 (0 : Int32) (17 : Int32) (3 : Int32) leases_r 51 leases_f hq) ⟨rfl, rfl, Nat.le_of_ble_eq_true rfl, Nat.le_of_ble_eq_true rfl⟩ [4, 5] rfl rfl rfl rfl rfl rfl rfl hl.1 (Nat.le_of_ble_eq_true rfl) ⟨Nat.zero_le _, Nat.zero_le _⟩ dX6_dayBill_47 (fun H locs hW => ?_)
  refine lv_isub hx hb dX6_dayBill_50 ?_
  refine g_mmax X cmX6_dayBill_285 hl.1 (Nat.le_of_ble_eq_true rfl) (Nat.le_of_ble_eq_true rfl) ⟨Nat.zero_le _, Nat.zero_le _⟩ dX6_dayBill_51 ?_
  refine lv_istore (lv' := [(4, .int (imax (0 : Int32) (((today - r16) + (1 : Int32)) - r28))), (3, .int ((today - r16) + (1 : Int32))), (2, .int r6), (0, .ref a_eb), (1, .int v1)]) hx hb dX6_dayBill_54 hl (by decide) rfl (fun ls hl => ?_)
  refine lv_iload hx hb dX6_dayBill_56 (lv_at hl 0 rfl) ?_
  refine lv_aload_n hx hb dX6_dayBill_58 rfl (lv_at hl 3 rfl) ?_
  refine g_get X hW eX6_dayBill_12 0 rfl rfl dX6_dayBill_59 ?_
  refine g_get X hW eX6_dayBill_261 1 rfl rfl dX6_dayBill_62 ?_
  refine lv_iload_n hx hb dX6_dayBill_65 rfl (lv_at hl 2 rfl) ?_
  refine lv_iconst hx hb dX6_dayBill_66 qI_1 ?_
  obtain ⟨r38, hq, h⟩ := bn1_some h
  refine g_cvi X hW (As := [.int r6, .int (1 : Int32)]) (ws' := (wX6_dayBill G a_eb a_desk a_desk_boxes a_desk_boxes_a a_desk_leases a_desk_leases_a a_kept a_tape a_text a_plan a_mat a_desk_words a_desk_weeks a_desk_routes a_desk_offers a_desk_wants a_desk_leaves a_desk_uses isKept planStands today lack rate free boxes_r boxes_f leases_r leases_f)) ckX6_dayBill_X4_cell_113 (kcX4_cell (l := l) G a_desk_leases a_desk_leases_a r6 (1 : Int32) (17 : Int32) (3 : Int32) leases_r 51 leases_f hq) ⟨rfl, rfl, Nat.le_of_ble_eq_true rfl, Nat.le_of_ble_eq_true rfl⟩ [4, 5] rfl rfl rfl rfl rfl rfl rfl hl.1 (Nat.le_of_ble_eq_true rfl) ⟨Nat.zero_le _, Nat.zero_le _⟩ dX6_dayBill_67 (fun H locs hW => ?_)
  refine lv_imul hx hb dX6_dayBill_70 ?_
  obtain rfl := Option.some.inj h
  exact g_iret X hW dX6_dayBill_71
theorem kcX6_dayBill {l : Launch} (G : Gt) (a_eb a_desk a_desk_boxes a_desk_boxes_a a_desk_leases a_desk_leases_a a_kept a_tape a_text a_plan a_mat a_desk_words a_desk_weeks a_desk_routes a_desk_offers a_desk_wants a_desk_leaves a_desk_uses : Nat) (v1 : Int32) (isKept : Int32) (planStands : Int32) (today : Int32) (lack : Int32) (rate : Int32) (free : Int32) (boxes_r : Int32) (boxes_f : (Nat → Int32)) (leases_r : Int32) (leases_f : (Nat → Int32)) {r : Int32}  (h : fX6_dayBill v1 today boxes_r boxes_f leases_r leases_f = some r) : CtI G l yX6_dayBill wsX6_dayBill rmX6_dayBill [.ref a_eb, .int v1] (wX6_dayBill G a_eb a_desk a_desk_boxes a_desk_boxes_a a_desk_leases a_desk_leases_a a_kept a_tape a_text a_plan a_mat a_desk_words a_desk_weeks a_desk_routes a_desk_offers a_desk_wants a_desk_leaves a_desk_uses isKept planStands today lack rate free boxes_r boxes_f leases_r leases_f) r (wX6_dayBill G a_eb a_desk a_desk_boxes a_desk_boxes_a a_desk_leases a_desk_leases_a a_kept a_tape a_text a_plan a_mat a_desk_words a_desk_weeks a_desk_routes a_desk_offers a_desk_wants a_desk_leaves a_desk_uses isKept planStands today lack rate free boxes_r boxes_f leases_r leases_f) := k0X6_dayBill G a_eb a_desk a_desk_boxes a_desk_boxes_a a_desk_leases a_desk_leases_a a_kept a_tape a_text a_plan a_mat a_desk_words a_desk_weeks a_desk_routes a_desk_offers a_desk_wants a_desk_leaves a_desk_uses v1 isKept planStands today lack rate free boxes_r boxes_f leases_r leases_f h
end MX6_dayBill
/-! EmptyBoxes.endLease -/
section MX6_endLease
theorem hdX6_endLease : yX6_endLease.cls = RX6 ∧ yX6_endLease.cls ≠ "java/lang/invoke/MethodHandle" ∧ yX6_endLease.cls ≠ "java/lang/invoke/VarHandle" ∧ (parseMethodDescriptor yX6_endLease.desc).map (fun d => d.parameters.length) = some 3 := by decide +kernel
abbrev wX6_endLease (G : Gt) (a_eb a_desk a_desk_boxes a_desk_boxes_a a_kept a_tape a_text a_plan a_mat a_desk_words a_desk_weeks a_desk_routes a_desk_offers a_desk_wants a_desk_leaves a_desk_leases a_desk_uses : Nat) (isKept : Int32) (planStands : Int32) (today : Int32) (lack : Int32) (rate : Int32) (free : Int32) (boxes_r : Int32) (boxes_f : (Nat → Int32)) : va_W := [(a_eb, .inr (6, [.ref a_desk, .ref a_kept, .ref a_tape, .ref a_text, .ref a_plan, .ref a_mat, .int isKept, .int planStands])), (a_desk, .inr (0, [.ref a_desk_boxes, .ref a_desk_words, .ref a_desk_weeks, .ref a_desk_routes, .ref a_desk_offers, .ref a_desk_wants, .ref a_desk_leaves, .ref a_desk_leases, .ref a_desk_uses, .int today, .int lack, .int rate, .int free])), (a_desk_boxes, .inr (4, [.ref a_desk_boxes_a, .int (9 : Int32), .int (24 : Int32), .int boxes_r])), (a_desk_boxes_a, .inl (G.2.1, 216, .inl boxes_f))]
abbrev rmX6_endLease : Room := { frames := 2, cells := 0, slots := 0, locals := 45 }
theorem iX6_endLease_X0 : ∀ w ∈ wsX00, w ∈ wsX6_endLease := by decide +kernel
theorem iX6_endLease_X6 : ∀ w ∈ wsX60, w ∈ wsX6_endLease := by decide +kernel
theorem eX6_endLease_12 : Fk wsX6_endLease RX6 12 6 0 := ⟨RX6, TX6, 8, rfl, iX6_endLease_X6, by decide, by decide +kernel⟩
theorem eX6_endLease_82 : Fk wsX6_endLease RX6 82 0 0 := ⟨RX0, TX0, 13, rfl, iX6_endLease_X0, by decide, by decide +kernel⟩
theorem ckX6_endLease_X4_put_96 : CkV wsX6_endLease RX6 96 yX4_put wsX4_put cX4_put 4 none 3 4 := ⟨RX4, TX4, 4, _, rfl, gX6_endLease_X4_put, rfl, hdX4_put⟩
variable {p : Program} {l : Launch} {e : Env} {s : State} {m : MethodId} {args : Array Value} {below : List Frame} {meth : Method} {c : Code} {A : Nat → Prop} {G : Gt} {a_eb a_desk a_desk_boxes a_desk_boxes_a a_kept a_tape a_text a_plan a_mat a_desk_words a_desk_weeks a_desk_routes a_desk_offers a_desk_wants a_desk_leaves a_desk_leases a_desk_uses : Nat} {isKept : Int32} {planStands : Int32} {today : Int32} {lack : Int32} {rate : Int32} {free : Int32} {boxes_r : Int32} {res : Int32 × (Nat → Int32)}
set_option maxHeartbeats 4000000 in
set_option maxRecDepth 100000 in
theorem k0X6_endLease {l : Launch} (G : Gt) (a_eb a_desk a_desk_boxes a_desk_boxes_a a_kept a_tape a_text a_plan a_mat a_desk_words a_desk_weeks a_desk_routes a_desk_offers a_desk_wants a_desk_leaves a_desk_leases a_desk_uses : Nat) (v1 : Int32) (v2 : Int32) (v3 : Int32) (isKept : Int32) (planStands : Int32) (today : Int32) (lack : Int32) (rate : Int32) (free : Int32) (boxes_r : Int32) (boxes_f : (Nat → Int32)) {res : Int32 × (Nat → Int32)} (h : fX6_endLease v1 v2 v3 boxes_r boxes_f = some res) : CtI G l yX6_endLease wsX6_endLease rmX6_endLease [.ref a_eb, .int v1, .int v2, .int v3] (wX6_endLease G a_eb a_desk a_desk_boxes a_desk_boxes_a a_kept a_tape a_text a_plan a_mat a_desk_words a_desk_weeks a_desk_routes a_desk_offers a_desk_wants a_desk_leaves a_desk_leases a_desk_uses isKept planStands today lack rate free boxes_r boxes_f) res.1 (wX6_endLease G a_eb a_desk a_desk_boxes a_desk_boxes_a a_kept a_tape a_text a_plan a_mat a_desk_words a_desk_weeks a_desk_routes a_desk_offers a_desk_wants a_desk_leaves a_desk_leases a_desk_uses isKept planStands today lack rate free boxes_r res.2) := by
  refine CtI.mk (cc := cX6_endLease) (maxL := 4) (ret := (some .int)) (own := RX6) (by decide) rfl rfl (Nat.le_of_ble_eq_true rfl) ?_
  intro p e s m below meth c A X ls hl hW
  obtain ⟨hx, hb, -⟩ := id X.1
  have hl : lv_has ls 4 [(0, .ref a_eb), (1, .int v1), (2, .int v2), (3, .int v3)] := hl
  generalize hH : s.heap = H at hW ⊢
  generalize hLo : ([] : List Loc) = locs at hW ⊢
  rw [fX6_endLease] at h
  refine lv_aload_n hx hb dX6_endLease_0 rfl (lv_at hl 0 rfl) ?_
  refine g_get X hW eX6_endLease_12 0 rfl rfl dX6_endLease_1 ?_
  refine g_get X hW eX6_endLease_82 1 rfl rfl dX6_endLease_4 ?_
  refine lv_iload_n hx hb dX6_endLease_7 rfl (lv_at hl 1 rfl) ?_
  refine lv_iconst hx hb dX6_endLease_8 qI_5 ?_
  refine lv_iload_n hx hb dX6_endLease_9 rfl (lv_at hl 2 rfl) ?_
  obtain ⟨o7_tb_f, hq, h⟩ := bn1_some h
  refine g_cvv X hW (As := [.int v1, .int (5 : Int32), .int v2]) (ws' := (wX6_endLease G a_eb a_desk a_desk_boxes a_desk_boxes_a a_kept a_tape a_text a_plan a_mat a_desk_words a_desk_weeks a_desk_routes a_desk_offers a_desk_wants a_desk_leaves a_desk_leases a_desk_uses isKept planStands today lack rate free boxes_r o7_tb_f)) ckX6_endLease_X4_put_96 (kcX4_put (l := l) G a_desk_boxes a_desk_boxes_a v1 (5 : Int32) v2 (9 : Int32) (24 : Int32) boxes_r 216 boxes_f hq) ⟨rfl, rfl, Nat.le_of_ble_eq_true rfl, Nat.le_of_ble_eq_true rfl⟩ [2, 3] rfl rfl rfl rfl rfl rfl rfl hl.1 (Nat.le_of_ble_eq_true rfl) ⟨Nat.zero_le _, Nat.zero_le _⟩ dX6_endLease_10 (fun H locs hW => ?_)
  refine lv_aload_n hx hb dX6_endLease_13 rfl (lv_at hl 0 rfl) ?_
  refine g_get X hW eX6_endLease_12 0 rfl rfl dX6_endLease_14 ?_
  refine g_get X hW eX6_endLease_82 1 rfl rfl dX6_endLease_17 ?_
  refine lv_iload_n hx hb dX6_endLease_20 rfl (lv_at hl 1 rfl) ?_
  refine lv_bipush hx hb dX6_endLease_21 qB_6 ?_
  refine lv_iload_n hx hb dX6_endLease_23 rfl (lv_at hl 3 rfl) ?_
  obtain ⟨o14_tb_f, hq, h⟩ := bn1_some h
  refine g_cvv X hW (As := [.int v1, .int (6 : Int32), .int v3]) (ws' := (wX6_endLease G a_eb a_desk a_desk_boxes a_desk_boxes_a a_kept a_tape a_text a_plan a_mat a_desk_words a_desk_weeks a_desk_routes a_desk_offers a_desk_wants a_desk_leaves a_desk_leases a_desk_uses isKept planStands today lack rate free boxes_r o14_tb_f)) ckX6_endLease_X4_put_96 (kcX4_put (l := l) G a_desk_boxes a_desk_boxes_a v1 (6 : Int32) v3 (9 : Int32) (24 : Int32) boxes_r 216 o7_tb_f hq) ⟨rfl, rfl, Nat.le_of_ble_eq_true rfl, Nat.le_of_ble_eq_true rfl⟩ [2, 3] rfl rfl rfl rfl rfl rfl rfl hl.1 (Nat.le_of_ble_eq_true rfl) ⟨Nat.zero_le _, Nat.zero_le _⟩ dX6_endLease_24 (fun H locs hW => ?_)
  refine lv_iload_n hx hb dX6_endLease_27 rfl (lv_at hl 3 rfl) ?_
  obtain rfl := Option.some.inj h
  exact g_iret X hW dX6_endLease_28
theorem kcX6_endLease {l : Launch} (G : Gt) (a_eb a_desk a_desk_boxes a_desk_boxes_a a_kept a_tape a_text a_plan a_mat a_desk_words a_desk_weeks a_desk_routes a_desk_offers a_desk_wants a_desk_leaves a_desk_leases a_desk_uses : Nat) (v1 : Int32) (v2 : Int32) (v3 : Int32) (isKept : Int32) (planStands : Int32) (today : Int32) (lack : Int32) (rate : Int32) (free : Int32) (boxes_r : Int32) (boxes_f : (Nat → Int32)) {r : Int32} {z_boxes_f : (Nat → Int32)} (h : fX6_endLease v1 v2 v3 boxes_r boxes_f = some (r, z_boxes_f)) : CtI G l yX6_endLease wsX6_endLease rmX6_endLease [.ref a_eb, .int v1, .int v2, .int v3] (wX6_endLease G a_eb a_desk a_desk_boxes a_desk_boxes_a a_kept a_tape a_text a_plan a_mat a_desk_words a_desk_weeks a_desk_routes a_desk_offers a_desk_wants a_desk_leaves a_desk_leases a_desk_uses isKept planStands today lack rate free boxes_r boxes_f) r (wX6_endLease G a_eb a_desk a_desk_boxes a_desk_boxes_a a_kept a_tape a_text a_plan a_mat a_desk_words a_desk_weeks a_desk_routes a_desk_offers a_desk_wants a_desk_leaves a_desk_leases a_desk_uses isKept planStands today lack rate free boxes_r z_boxes_f) := k0X6_endLease G a_eb a_desk a_desk_boxes a_desk_boxes_a a_kept a_tape a_text a_plan a_mat a_desk_words a_desk_weeks a_desk_routes a_desk_offers a_desk_wants a_desk_leaves a_desk_leases a_desk_uses v1 v2 v3 isKept planStands today lack rate free boxes_r boxes_f h
end MX6_endLease
/-! EmptyBoxes.giveBack -/
section MX6_giveBack
theorem hdX6_giveBack : yX6_giveBack.cls = RX6 ∧ yX6_giveBack.cls ≠ "java/lang/invoke/MethodHandle" ∧ yX6_giveBack.cls ≠ "java/lang/invoke/VarHandle" ∧ (parseMethodDescriptor yX6_giveBack.desc).map (fun d => d.parameters.length) = some 2 := by decide +kernel
abbrev wX6_giveBack (G : Gt) (a_eb a_desk a_desk_boxes a_desk_boxes_a a_desk_words a_desk_words_a a_desk_leases a_desk_leases_a a_kept a_tape a_text a_plan a_mat a_desk_weeks a_desk_routes a_desk_offers a_desk_wants a_desk_leaves a_desk_uses : Nat) (isKept : Int32) (planStands : Int32) (today : Int32) (lack : Int32) (rate : Int32) (free : Int32) (boxes_r : Int32) (boxes_f : (Nat → Int32)) (words_r : Int32) (words_f : (Nat → Int32)) (leases_r : Int32) (leases_f : (Nat → Int32)) : va_W := [(a_eb, .inr (6, [.ref a_desk, .ref a_kept, .ref a_tape, .ref a_text, .ref a_plan, .ref a_mat, .int isKept, .int planStands])), (a_desk, .inr (0, [.ref a_desk_boxes, .ref a_desk_words, .ref a_desk_weeks, .ref a_desk_routes, .ref a_desk_offers, .ref a_desk_wants, .ref a_desk_leaves, .ref a_desk_leases, .ref a_desk_uses, .int today, .int lack, .int rate, .int free])), (a_desk_boxes, .inr (4, [.ref a_desk_boxes_a, .int (9 : Int32), .int (24 : Int32), .int boxes_r])), (a_desk_boxes_a, .inl (G.2.1, 216, .inl boxes_f)), (a_desk_words, .inr (4, [.ref a_desk_words_a, .int (5 : Int32), .int (60 : Int32), .int words_r])), (a_desk_words_a, .inl (G.2.1, 300, .inl words_f)), (a_desk_leases, .inr (4, [.ref a_desk_leases_a, .int (17 : Int32), .int (3 : Int32), .int leases_r])), (a_desk_leases_a, .inl (G.2.1, 51, .inl leases_f))]
abbrev rmX6_giveBack : Room := { frames := 5, cells := 0, slots := 0, locals := 119 }
theorem iX6_giveBack_X0 : ∀ w ∈ wsX00, w ∈ wsX6_giveBack := by decide +kernel
theorem iX6_giveBack_X6 : ∀ w ∈ wsX60, w ∈ wsX6_giveBack := by decide +kernel
theorem eX6_giveBack_12 : Fk wsX6_giveBack RX6 12 6 0 := ⟨RX6, TX6, 8, rfl, iX6_giveBack_X6, by decide, by decide +kernel⟩
theorem eX6_giveBack_261 : Fk wsX6_giveBack RX6 261 0 7 := ⟨RX0, TX0, 13, rfl, iX6_giveBack_X0, by decide, by decide +kernel⟩
theorem eX6_giveBack_58 : Fk wsX6_giveBack RX6 58 0 9 := ⟨RX0, TX0, 13, rfl, iX6_giveBack_X0, by decide, by decide +kernel⟩
theorem eX6_giveBack_82 : Fk wsX6_giveBack RX6 82 0 0 := ⟨RX0, TX0, 13, rfl, iX6_giveBack_X0, by decide, by decide +kernel⟩
theorem ckX6_giveBack_X4_cell_113 : CkV wsX6_giveBack RX6 113 yX4_cell wsX4_cell cX4_cell 3 (some .int) 2 4 := ⟨RX4, TX4, 4, _, rfl, gX6_giveBack_X4_cell, rfl, hdX4_cell⟩
theorem ckX6_giveBack_X4_has_110 : CkV wsX6_giveBack RX6 110 yX4_has wsX4_has cX4_has 2 (some .boolean) 1 4 := ⟨RX4, TX4, 4, _, rfl, gX6_giveBack_X4_has, rfl, hdX4_has⟩
theorem ckX6_giveBack_X4_put_96 : CkV wsX6_giveBack RX6 96 yX4_put wsX4_put cX4_put 4 none 3 4 := ⟨RX4, TX4, 4, _, rfl, gX6_giveBack_X4_put, rfl, hdX4_put⟩
theorem ckX6_giveBack_X6_dayBill_279 : CkV wsX6_giveBack RX6 279 yX6_dayBill wsX6_dayBill cX6_dayBill 5 (some .int) 1 6 := ⟨RX6, TX6, 8, _, rfl, gX6_giveBack_X6_dayBill, rfl, hdX6_dayBill⟩
theorem ckX6_giveBack_X6_endLease_282 : CkV wsX6_giveBack RX6 282 yX6_endLease wsX6_endLease cX6_endLease 4 (some .int) 3 6 := ⟨RX6, TX6, 8, _, rfl, gX6_giveBack_X6_endLease, rfl, hdX6_endLease⟩
theorem ckX6_giveBack_X6_givenBackThisWeek_276 : CkV wsX6_giveBack RX6 276 yX6_givenBackThisWeek wsX6_givenBackThisWeek cX6_givenBackThisWeek 5 (some .int) 2 6 := ⟨RX6, TX6, 8, _, rfl, gX6_giveBack_X6_givenBackThisWeek, rfl, hdX6_givenBackThisWeek⟩
theorem ckX6_giveBack_X6_isPlace_126 : CkS wsX6_giveBack RX6 126 yX6_isPlace wsX6_isPlace cX6_isPlace 1 (some .boolean) 1 := ⟨_, gX6_giveBack_X6_isPlace, rfl, hdX6_isPlace.2⟩
theorem ckX6_giveBack_X6_isUnderLease_273 : CkV wsX6_giveBack RX6 273 yX6_isUnderLease wsX6_isUnderLease cX6_isUnderLease 2 (some .boolean) 1 6 := ⟨RX6, TX6, 8, _, rfl, gX6_giveBack_X6_isUnderLease, rfl, hdX6_isUnderLease⟩
theorem ckX6_giveBack_X6_isWithin_54 : CkS wsX6_giveBack RX6 54 yX6_isWithin wsX6_isWithin cX6_isWithin 3 (some .boolean) 3 := ⟨_, gX6_giveBack_X6_isWithin, rfl, hdX6_isWithin.2⟩
theorem ckX6_giveBack_X6_standing_138 : CkV wsX6_giveBack RX6 138 yX6_standing wsX6_standing cX6_standing 6 (some .int) 3 6 := ⟨RX6, TX6, 8, _, rfl, gX6_giveBack_X6_standing, rfl, hdX6_standing⟩
variable {p : Program} {l : Launch} {e : Env} {s : State} {m : MethodId} {args : Array Value} {below : List Frame} {meth : Method} {c : Code} {A : Nat → Prop} {G : Gt} {a_eb a_desk a_desk_boxes a_desk_boxes_a a_desk_words a_desk_words_a a_desk_leases a_desk_leases_a a_kept a_tape a_text a_plan a_mat a_desk_weeks a_desk_routes a_desk_offers a_desk_wants a_desk_leaves a_desk_uses : Nat} {isKept : Int32} {planStands : Int32} {today : Int32} {lack : Int32} {rate : Int32} {free : Int32} {boxes_r : Int32} {words_r : Int32} {words_f : (Nat → Int32)} {leases_r : Int32} {leases_f : (Nat → Int32)} {res : Int32 × (Nat → Int32)}
set_option maxHeartbeats 4000000 in
set_option maxRecDepth 100000 in
theorem k0X6_giveBack {l : Launch} (G : Gt) (a_eb a_desk a_desk_boxes a_desk_boxes_a a_desk_words a_desk_words_a a_desk_leases a_desk_leases_a a_kept a_tape a_text a_plan a_mat a_desk_weeks a_desk_routes a_desk_offers a_desk_wants a_desk_leaves a_desk_uses : Nat) (v1 : Int32) (v2 : Int32) (isKept : Int32) (planStands : Int32) (today : Int32) (lack : Int32) (rate : Int32) (free : Int32) (boxes_r : Int32) (boxes_f : (Nat → Int32)) (words_r : Int32) (words_f : (Nat → Int32)) (leases_r : Int32) (leases_f : (Nat → Int32)) {res : Int32 × (Nat → Int32)} (h : fX6_giveBack v1 v2 today boxes_r boxes_f words_r words_f leases_r leases_f = some res) : CtI G l yX6_giveBack wsX6_giveBack rmX6_giveBack [.ref a_eb, .int v1, .int v2] (wX6_giveBack G a_eb a_desk a_desk_boxes a_desk_boxes_a a_desk_words a_desk_words_a a_desk_leases a_desk_leases_a a_kept a_tape a_text a_plan a_mat a_desk_weeks a_desk_routes a_desk_offers a_desk_wants a_desk_leaves a_desk_uses isKept planStands today lack rate free boxes_r boxes_f words_r words_f leases_r leases_f) res.1 (wX6_giveBack G a_eb a_desk a_desk_boxes a_desk_boxes_a a_desk_words a_desk_words_a a_desk_leases a_desk_leases_a a_kept a_tape a_text a_plan a_mat a_desk_weeks a_desk_routes a_desk_offers a_desk_wants a_desk_leaves a_desk_uses isKept planStands today lack rate free boxes_r res.2 words_r words_f leases_r leases_f) := by
  refine CtI.mk (cc := cX6_giveBack) (maxL := 6) (ret := (some .int)) (own := RX6) (by decide) rfl rfl (Nat.le_of_ble_eq_true rfl) ?_
  intro p e s m below meth c A X ls hl hW
  obtain ⟨hx, hb, -⟩ := id X.1
  have hl : lv_has ls 6 [(0, .ref a_eb), (1, .int v1), (2, .int v2)] := hl
  generalize hH : s.heap = H at hW ⊢
  generalize hLo : ([] : List Loc) = locs at hW ⊢
  rw [fX6_giveBack] at h
  refine lv_aload_n hx hb dX6_giveBack_0 rfl (lv_at hl 0 rfl) ?_
  refine g_get X hW eX6_giveBack_12 0 rfl rfl dX6_giveBack_1 ?_
  refine g_get X hW eX6_giveBack_82 1 rfl rfl dX6_giveBack_4 ?_
  refine lv_iload_n hx hb dX6_giveBack_7 rfl (lv_at hl 1 rfl) ?_
  obtain ⟨r5, hq, h⟩ := bn1_some h
  refine g_cvi X hW (As := [.int v1]) (ws' := (wX6_giveBack G a_eb a_desk a_desk_boxes a_desk_boxes_a a_desk_words a_desk_words_a a_desk_leases a_desk_leases_a a_kept a_tape a_text a_plan a_mat a_desk_weeks a_desk_routes a_desk_offers a_desk_wants a_desk_leaves a_desk_uses isKept planStands today lack rate free boxes_r boxes_f words_r words_f leases_r leases_f)) ckX6_giveBack_X4_has_110 (kcX4_has (l := l) G a_desk_boxes a_desk_boxes_a v1 (9 : Int32) (24 : Int32) boxes_r hq) ⟨rfl, rfl, Nat.le_of_ble_eq_true rfl, Nat.le_of_ble_eq_true rfl⟩ [2] rfl rfl rfl rfl rfl rfl rfl hl.1 (Nat.le_of_ble_eq_true rfl) ⟨Nat.zero_le _, Nat.zero_le _⟩ dX6_giveBack_8 (fun H locs hW => ?_)
  refine lv_if_eq (tgt := 24) hx hb dX6_giveBack_11 (by decide) (fun c6 => ?_) (fun c6 => ?_)
  · have h := (if_pos c6).symm.trans h
    refine lv_iconst hx hb dX6_giveBack_24 qI_m1 ?_
    obtain rfl := Option.some.inj h
    exact g_iret X hW dX6_giveBack_25
  · have h := (if_neg c6).symm.trans h
    refine lv_iload_n hx hb dX6_giveBack_14 rfl (lv_at hl 2 rfl) ?_
    refine lv_iconst hx hb dX6_giveBack_15 qI_0 ?_
    refine lv_bipush hx hb dX6_giveBack_16 qB_9 ?_
    obtain ⟨r12, hq, h⟩ := bn1_some h
    refine g_csi X hW (As := [.int v2, .int (0 : Int32), .int (9 : Int32)]) (ws' := (wX6_giveBack G a_eb a_desk a_desk_boxes a_desk_boxes_a a_desk_words a_desk_words_a a_desk_leases a_desk_leases_a a_kept a_tape a_text a_plan a_mat a_desk_weeks a_desk_routes a_desk_offers a_desk_wants a_desk_leaves a_desk_uses isKept planStands today lack rate free boxes_r boxes_f words_r words_f leases_r leases_f)) ckX6_giveBack_X6_isWithin_54 (kcX6_isWithin (l := l) G v2 (0 : Int32) (9 : Int32) hq) ⟨rfl, rfl, Nat.le_of_ble_eq_true rfl, Nat.le_of_ble_eq_true rfl⟩ [] rfl rfl rfl rfl rfl rfl hl.1 (Nat.le_of_ble_eq_true rfl) ⟨Nat.zero_le _, Nat.zero_le _⟩ dX6_giveBack_18 (fun H locs hW => ?_)
    refine lv_if_ne (tgt := 26) hx hb dX6_giveBack_21 (by decide) (fun c13 => ?_) (fun c13 => ?_)
    · have h := (if_neg c13).symm.trans h
      refine lv_aload_n hx hb dX6_giveBack_26 rfl (lv_at hl 0 rfl) ?_
      refine lv_iload_n hx hb dX6_giveBack_27 rfl (lv_at hl 1 rfl) ?_
      refine lv_aload_n hx hb dX6_giveBack_28 rfl (lv_at hl 0 rfl) ?_
      refine g_get X hW eX6_giveBack_12 0 rfl rfl dX6_giveBack_29 ?_
      refine g_get X hW eX6_giveBack_58 1 rfl rfl dX6_giveBack_32 ?_
      refine lv_aload_n hx hb dX6_giveBack_35 rfl (lv_at hl 0 rfl) ?_
      refine g_get X hW eX6_giveBack_12 0 rfl rfl dX6_giveBack_36 ?_
      refine g_get X hW eX6_giveBack_58 1 rfl rfl dX6_giveBack_39 ?_
      obtain ⟨r22, hq, h⟩ := bn1_some h
      refine g_cvi X hW (As := [.int v1, .int today, .int today]) (ws' := (wX6_giveBack G a_eb a_desk a_desk_boxes a_desk_boxes_a a_desk_words a_desk_words_a a_desk_leases a_desk_leases_a a_kept a_tape a_text a_plan a_mat a_desk_weeks a_desk_routes a_desk_offers a_desk_wants a_desk_leaves a_desk_uses isKept planStands today lack rate free boxes_r boxes_f words_r words_f leases_r leases_f)) ckX6_giveBack_X6_standing_138 (kcX6_standing (l := l) G a_eb a_desk a_desk_words a_desk_words_a a_kept a_tape a_text a_plan a_mat a_desk_boxes a_desk_weeks a_desk_routes a_desk_offers a_desk_wants a_desk_leaves a_desk_leases a_desk_uses v1 today today isKept planStands today lack rate free words_r words_f hq) ⟨rfl, rfl, Nat.le_of_ble_eq_true rfl, Nat.le_of_ble_eq_true rfl⟩ [0, 1, 4, 5] rfl rfl rfl rfl rfl rfl rfl hl.1 (Nat.le_of_ble_eq_true rfl) ⟨Nat.zero_le _, Nat.zero_le _⟩ dX6_giveBack_42 (fun H locs hW => ?_)
      refine lv_istore_n (lv' := [(3, .int r22), (0, .ref a_eb), (1, .int v1), (2, .int v2)]) hx hb dX6_giveBack_45 rfl hl (by decide) rfl (fun ls hl => ?_)
      refine lv_aload_n hx hb dX6_giveBack_46 rfl (lv_at hl 1 rfl) ?_
      refine lv_iload_n hx hb dX6_giveBack_47 rfl (lv_at hl 2 rfl) ?_
      obtain ⟨r26, hq, h⟩ := bn1_some h
      refine g_cvi X hW (As := [.int v1]) (ws' := (wX6_giveBack G a_eb a_desk a_desk_boxes a_desk_boxes_a a_desk_words a_desk_words_a a_desk_leases a_desk_leases_a a_kept a_tape a_text a_plan a_mat a_desk_weeks a_desk_routes a_desk_offers a_desk_wants a_desk_leaves a_desk_uses isKept planStands today lack rate free boxes_r boxes_f words_r words_f leases_r leases_f)) ckX6_giveBack_X6_isUnderLease_273 (kcX6_isUnderLease (l := l) G a_eb a_desk a_desk_boxes a_desk_boxes_a a_kept a_tape a_text a_plan a_mat a_desk_words a_desk_weeks a_desk_routes a_desk_offers a_desk_wants a_desk_leaves a_desk_leases a_desk_uses v1 isKept planStands today lack rate free boxes_r boxes_f hq) ⟨rfl, rfl, Nat.le_of_ble_eq_true rfl, Nat.le_of_ble_eq_true rfl⟩ [0, 1, 2, 3] rfl rfl rfl rfl rfl rfl rfl hl.1 (Nat.le_of_ble_eq_true rfl) ⟨Nat.zero_le _, Nat.zero_le _⟩ dX6_giveBack_48 (fun H locs hW => ?_)
      refine lv_if_eq (tgt := 61) hx hb dX6_giveBack_51 (by decide) (fun c27 => ?_) (fun c27 => ?_)
      · have h := (if_pos c27).symm.trans h
        refine lv_bipush hx hb dX6_giveBack_61 qB_m4 ?_
        obtain rfl := Option.some.inj h
        exact g_iret X hW dX6_giveBack_63
      · have h := (if_neg c27).symm.trans h
        refine lv_iload_n hx hb dX6_giveBack_54 rfl (lv_at hl 0 rfl) ?_
        obtain ⟨r31, hq, h⟩ := bn1_some h
        refine g_csi X hW (As := [.int r22]) (ws' := (wX6_giveBack G a_eb a_desk a_desk_boxes a_desk_boxes_a a_desk_words a_desk_words_a a_desk_leases a_desk_leases_a a_kept a_tape a_text a_plan a_mat a_desk_weeks a_desk_routes a_desk_offers a_desk_wants a_desk_leaves a_desk_uses isKept planStands today lack rate free boxes_r boxes_f words_r words_f leases_r leases_f)) ckX6_giveBack_X6_isPlace_126 (kcX6_isPlace (l := l) G r22 hq) ⟨rfl, rfl, Nat.le_of_ble_eq_true rfl, Nat.le_of_ble_eq_true rfl⟩ [] rfl rfl rfl rfl rfl rfl hl.1 (Nat.le_of_ble_eq_true rfl) ⟨Nat.zero_le _, Nat.zero_le _⟩ dX6_giveBack_55 (fun H locs hW => ?_)
        refine lv_if_ne (tgt := 64) hx hb dX6_giveBack_58 (by decide) (fun c32 => ?_) (fun c32 => ?_)
        · have h := (if_neg c32).symm.trans h
          refine lv_aload_n hx hb dX6_giveBack_64 rfl (lv_at hl 1 rfl) ?_
          refine g_get X hW eX6_giveBack_12 0 rfl rfl dX6_giveBack_65 ?_
          refine g_get X hW eX6_giveBack_82 1 rfl rfl dX6_giveBack_68 ?_
          refine lv_iload_n hx hb dX6_giveBack_71 rfl (lv_at hl 2 rfl) ?_
          refine lv_iconst hx hb dX6_giveBack_72 qI_3 ?_
          obtain ⟨r38, hq, h⟩ := bn1_some h
          refine g_cvi X hW (As := [.int v1, .int (3 : Int32)]) (ws' := (wX6_giveBack G a_eb a_desk a_desk_boxes a_desk_boxes_a a_desk_words a_desk_words_a a_desk_leases a_desk_leases_a a_kept a_tape a_text a_plan a_mat a_desk_weeks a_desk_routes a_desk_offers a_desk_wants a_desk_leaves a_desk_uses isKept planStands today lack rate free boxes_r boxes_f words_r words_f leases_r leases_f)) ckX6_giveBack_X4_cell_113 (kcX4_cell (l := l) G a_desk_boxes a_desk_boxes_a v1 (3 : Int32) (9 : Int32) (24 : Int32) boxes_r 216 boxes_f hq) ⟨rfl, rfl, Nat.le_of_ble_eq_true rfl, Nat.le_of_ble_eq_true rfl⟩ [2, 3] rfl rfl rfl rfl rfl rfl rfl hl.1 (Nat.le_of_ble_eq_true rfl) ⟨Nat.zero_le _, Nat.zero_le _⟩ dX6_giveBack_73 (fun H locs hW => ?_)
          refine lv_istore (lv' := [(4, .int r38), (3, .int r22), (0, .ref a_eb), (1, .int v1), (2, .int v2)]) hx hb dX6_giveBack_76 hl (by decide) rfl (fun ls hl => ?_)
          refine lv_aload_n hx hb dX6_giveBack_78 rfl (lv_at hl 2 rfl) ?_
          refine lv_iload hx hb dX6_giveBack_79 (lv_at hl 0 rfl) ?_
          refine lv_iload_n hx hb dX6_giveBack_81 rfl (lv_at hl 1 rfl) ?_
          obtain ⟨r43, hq, h⟩ := bn1_some h
          refine g_cvi X hW (As := [.int r38, .int r22]) (ws' := (wX6_giveBack G a_eb a_desk a_desk_boxes a_desk_boxes_a a_desk_words a_desk_words_a a_desk_leases a_desk_leases_a a_kept a_tape a_text a_plan a_mat a_desk_weeks a_desk_routes a_desk_offers a_desk_wants a_desk_leaves a_desk_uses isKept planStands today lack rate free boxes_r boxes_f words_r words_f leases_r leases_f)) ckX6_giveBack_X6_givenBackThisWeek_276 (kcX6_givenBackThisWeek (l := l) G a_eb a_desk a_desk_boxes a_desk_boxes_a a_kept a_tape a_text a_plan a_mat a_desk_words a_desk_weeks a_desk_routes a_desk_offers a_desk_wants a_desk_leaves a_desk_leases a_desk_uses r38 r22 isKept planStands today lack rate free boxes_r boxes_f hq) ⟨rfl, rfl, Nat.le_of_ble_eq_true rfl, Nat.le_of_ble_eq_true rfl⟩ [0, 1, 2, 3] rfl rfl rfl rfl rfl rfl rfl hl.1 (Nat.le_of_ble_eq_true rfl) ⟨Nat.zero_le _, Nat.zero_le _⟩ dX6_giveBack_82 (fun H locs hW => ?_)
          refine lv_aload_n hx hb dX6_giveBack_85 rfl (lv_at hl 2 rfl) ?_
          refine g_get X hW eX6_giveBack_12 0 rfl rfl dX6_giveBack_86 ?_
          refine g_get X hW eX6_giveBack_261 1 rfl rfl dX6_giveBack_89 ?_
          refine lv_iload hx hb dX6_giveBack_92 (lv_at hl 0 rfl) ?_
          refine lv_bipush hx hb dX6_giveBack_94 qB_10 ?_
          refine lv_iload_n hx hb dX6_giveBack_96 rfl (lv_at hl 1 rfl) ?_
          refine lv_iadd hx hb dX6_giveBack_97 ?_
          obtain ⟨r51, hq, h⟩ := bn1_some h
          refine g_cvi X hW (As := [.int r38, .int ((10 : Int32) + r22)]) (ws' := (wX6_giveBack G a_eb a_desk a_desk_boxes a_desk_boxes_a a_desk_words a_desk_words_a a_desk_leases a_desk_leases_a a_kept a_tape a_text a_plan a_mat a_desk_weeks a_desk_routes a_desk_offers a_desk_wants a_desk_leaves a_desk_uses isKept planStands today lack rate free boxes_r boxes_f words_r words_f leases_r leases_f)) ckX6_giveBack_X4_cell_113 (kcX4_cell (l := l) G a_desk_leases a_desk_leases_a r38 ((10 : Int32) + r22) (17 : Int32) (3 : Int32) leases_r 51 leases_f hq) ⟨rfl, rfl, Nat.le_of_ble_eq_true rfl, Nat.le_of_ble_eq_true rfl⟩ [6, 7] rfl rfl rfl rfl rfl rfl rfl hl.1 (Nat.le_of_ble_eq_true rfl) ⟨Nat.zero_le _, Nat.zero_le _⟩ dX6_giveBack_98 (fun H locs hW => ?_)
          refine lv_icmp_lt (tgt := 107) hx hb dX6_giveBack_101 (by decide) (fun c52 => ?_) (fun c52 => ?_)
          · have h := (if_pos c52).symm.trans h
            refine lv_aload_n hx hb dX6_giveBack_107 rfl (lv_at hl 2 rfl) ?_
            refine lv_iload_n hx hb dX6_giveBack_108 rfl (lv_at hl 3 rfl) ?_
            obtain ⟨r55, hq, h⟩ := bn1_some h
            refine g_cvi X hW (As := [.int v1]) (ws' := (wX6_giveBack G a_eb a_desk a_desk_boxes a_desk_boxes_a a_desk_words a_desk_words_a a_desk_leases a_desk_leases_a a_kept a_tape a_text a_plan a_mat a_desk_weeks a_desk_routes a_desk_offers a_desk_wants a_desk_leaves a_desk_uses isKept planStands today lack rate free boxes_r boxes_f words_r words_f leases_r leases_f)) ckX6_giveBack_X6_dayBill_279 (kcX6_dayBill (l := l) G a_eb a_desk a_desk_boxes a_desk_boxes_a a_desk_leases a_desk_leases_a a_kept a_tape a_text a_plan a_mat a_desk_words a_desk_weeks a_desk_routes a_desk_offers a_desk_wants a_desk_leaves a_desk_uses v1 isKept planStands today lack rate free boxes_r boxes_f leases_r leases_f hq) ⟨rfl, rfl, Nat.le_of_ble_eq_true rfl, Nat.le_of_ble_eq_true rfl⟩ [0, 1, 2, 3, 6, 7] rfl rfl rfl rfl rfl rfl rfl hl.1 (Nat.le_of_ble_eq_true rfl) ⟨Nat.zero_le _, Nat.zero_le _⟩ dX6_giveBack_109 (fun H locs hW => ?_)
            refine lv_aload_n hx hb dX6_giveBack_112 rfl (lv_at hl 2 rfl) ?_
            refine g_get X hW eX6_giveBack_12 0 rfl rfl dX6_giveBack_113 ?_
            refine g_get X hW eX6_giveBack_261 1 rfl rfl dX6_giveBack_116 ?_
            refine lv_iload hx hb dX6_giveBack_119 (lv_at hl 0 rfl) ?_
            refine lv_iconst hx hb dX6_giveBack_121 qI_4 ?_
            refine lv_iload_n hx hb dX6_giveBack_122 rfl (lv_at hl 1 rfl) ?_
            refine lv_iadd hx hb dX6_giveBack_123 ?_
            obtain ⟨r63, hq, h⟩ := bn1_some h
            refine g_cvi X hW (As := [.int r38, .int ((4 : Int32) + r22)]) (ws' := (wX6_giveBack G a_eb a_desk a_desk_boxes a_desk_boxes_a a_desk_words a_desk_words_a a_desk_leases a_desk_leases_a a_kept a_tape a_text a_plan a_mat a_desk_weeks a_desk_routes a_desk_offers a_desk_wants a_desk_leaves a_desk_uses isKept planStands today lack rate free boxes_r boxes_f words_r words_f leases_r leases_f)) ckX6_giveBack_X4_cell_113 (kcX4_cell (l := l) G a_desk_leases a_desk_leases_a r38 ((4 : Int32) + r22) (17 : Int32) (3 : Int32) leases_r 51 leases_f hq) ⟨rfl, rfl, Nat.le_of_ble_eq_true rfl, Nat.le_of_ble_eq_true rfl⟩ [6, 7] rfl rfl rfl rfl rfl rfl rfl hl.1 (Nat.le_of_ble_eq_true rfl) ⟨Nat.zero_le _, Nat.zero_le _⟩ dX6_giveBack_124 (fun H locs hW => ?_)
            refine lv_iadd hx hb dX6_giveBack_127 ?_
            refine lv_aload_n hx hb dX6_giveBack_128 rfl (lv_at hl 2 rfl) ?_
            refine g_get X hW eX6_giveBack_12 0 rfl rfl dX6_giveBack_129 ?_
            refine g_get X hW eX6_giveBack_261 1 rfl rfl dX6_giveBack_132 ?_
            refine lv_iload hx hb dX6_giveBack_135 (lv_at hl 0 rfl) ?_
            refine lv_iconst hx hb dX6_giveBack_137 qI_2 ?_
            obtain ⟨r70, hq, h⟩ := bn1_some h
            refine g_cvi X hW (As := [.int r38, .int (2 : Int32)]) (ws' := (wX6_giveBack G a_eb a_desk a_desk_boxes a_desk_boxes_a a_desk_words a_desk_words_a a_desk_leases a_desk_leases_a a_kept a_tape a_text a_plan a_mat a_desk_weeks a_desk_routes a_desk_offers a_desk_wants a_desk_leaves a_desk_uses isKept planStands today lack rate free boxes_r boxes_f words_r words_f leases_r leases_f)) ckX6_giveBack_X4_cell_113 (kcX4_cell (l := l) G a_desk_leases a_desk_leases_a r38 (2 : Int32) (17 : Int32) (3 : Int32) leases_r 51 leases_f hq) ⟨rfl, rfl, Nat.le_of_ble_eq_true rfl, Nat.le_of_ble_eq_true rfl⟩ [6, 7] rfl rfl rfl rfl rfl rfl rfl hl.1 (Nat.le_of_ble_eq_true rfl) ⟨Nat.zero_le _, Nat.zero_le _⟩ dX6_giveBack_138 (fun H locs hW => ?_)
            refine lv_iload_n hx hb dX6_giveBack_141 rfl (lv_at hl 4 rfl) ?_
            refine lv_imul hx hb dX6_giveBack_142 ?_
            refine lv_iadd hx hb dX6_giveBack_143 ?_
            refine lv_istore (lv' := [(5, .int ((r55 + r63) + (r70 * v2))), (4, .int r38), (3, .int r22), (0, .ref a_eb), (1, .int v1), (2, .int v2)]) hx hb dX6_giveBack_144 hl (by decide) rfl (fun ls hl => ?_)
            refine lv_aload_n hx hb dX6_giveBack_146 rfl (lv_at hl 3 rfl) ?_
            refine g_get X hW eX6_giveBack_12 0 rfl rfl dX6_giveBack_147 ?_
            refine g_get X hW eX6_giveBack_82 1 rfl rfl dX6_giveBack_150 ?_
            refine lv_iload_n hx hb dX6_giveBack_153 rfl (lv_at hl 4 rfl) ?_
            refine lv_bipush hx hb dX6_giveBack_154 qB_7 ?_
            refine lv_aload_n hx hb dX6_giveBack_156 rfl (lv_at hl 3 rfl) ?_
            refine g_get X hW eX6_giveBack_12 0 rfl rfl dX6_giveBack_157 ?_
            refine g_get X hW eX6_giveBack_58 1 rfl rfl dX6_giveBack_160 ?_
            obtain ⟨o83_tb_f, hq, h⟩ := bn1_some h
            refine g_cvv X hW (As := [.int v1, .int (7 : Int32), .int today]) (ws' := (wX6_giveBack G a_eb a_desk a_desk_boxes a_desk_boxes_a a_desk_words a_desk_words_a a_desk_leases a_desk_leases_a a_kept a_tape a_text a_plan a_mat a_desk_weeks a_desk_routes a_desk_offers a_desk_wants a_desk_leaves a_desk_uses isKept planStands today lack rate free boxes_r o83_tb_f words_r words_f leases_r leases_f)) ckX6_giveBack_X4_put_96 (kcX4_put (l := l) G a_desk_boxes a_desk_boxes_a v1 (7 : Int32) today (9 : Int32) (24 : Int32) boxes_r 216 boxes_f hq) ⟨rfl, rfl, Nat.le_of_ble_eq_true rfl, Nat.le_of_ble_eq_true rfl⟩ [2, 3] rfl rfl rfl rfl rfl rfl rfl hl.1 (Nat.le_of_ble_eq_true rfl) ⟨Nat.zero_le _, Nat.zero_le _⟩ dX6_giveBack_163 (fun H locs hW => ?_)
            refine lv_aload_n hx hb dX6_giveBack_166 rfl (lv_at hl 3 rfl) ?_
            refine g_get X hW eX6_giveBack_12 0 rfl rfl dX6_giveBack_167 ?_
            refine g_get X hW eX6_giveBack_82 1 rfl rfl dX6_giveBack_170 ?_
            refine lv_iload_n hx hb dX6_giveBack_173 rfl (lv_at hl 4 rfl) ?_
            refine lv_bipush hx hb dX6_giveBack_174 qB_8 ?_
            refine lv_iload_n hx hb dX6_giveBack_176 rfl (lv_at hl 2 rfl) ?_
            obtain ⟨o90_tb_f, hq, h⟩ := bn1_some h
            refine g_cvv X hW (As := [.int v1, .int (8 : Int32), .int r22]) (ws' := (wX6_giveBack G a_eb a_desk a_desk_boxes a_desk_boxes_a a_desk_words a_desk_words_a a_desk_leases a_desk_leases_a a_kept a_tape a_text a_plan a_mat a_desk_weeks a_desk_routes a_desk_offers a_desk_wants a_desk_leaves a_desk_uses isKept planStands today lack rate free boxes_r o90_tb_f words_r words_f leases_r leases_f)) ckX6_giveBack_X4_put_96 (kcX4_put (l := l) G a_desk_boxes a_desk_boxes_a v1 (8 : Int32) r22 (9 : Int32) (24 : Int32) boxes_r 216 o83_tb_f hq) ⟨rfl, rfl, Nat.le_of_ble_eq_true rfl, Nat.le_of_ble_eq_true rfl⟩ [2, 3] rfl rfl rfl rfl rfl rfl rfl hl.1 (Nat.le_of_ble_eq_true rfl) ⟨Nat.zero_le _, Nat.zero_le _⟩ dX6_giveBack_177 (fun H locs hW => ?_)
            refine lv_aload_n hx hb dX6_giveBack_180 rfl (lv_at hl 3 rfl) ?_
            refine lv_iload_n hx hb dX6_giveBack_181 rfl (lv_at hl 4 rfl) ?_
            refine lv_iconst hx hb dX6_giveBack_182 qI_1 ?_
            refine lv_iload hx hb dX6_giveBack_183 (lv_at hl 0 rfl) ?_
            obtain ⟨r95, o95_boxes_f, hq, h⟩ := bn2_some h
            refine g_cvi X hW (As := [.int v1, .int (1 : Int32), .int ((r55 + r63) + (r70 * v2))]) (ws' := (wX6_giveBack G a_eb a_desk a_desk_boxes a_desk_boxes_a a_desk_words a_desk_words_a a_desk_leases a_desk_leases_a a_kept a_tape a_text a_plan a_mat a_desk_weeks a_desk_routes a_desk_offers a_desk_wants a_desk_leaves a_desk_uses isKept planStands today lack rate free boxes_r o95_boxes_f words_r words_f leases_r leases_f)) ckX6_giveBack_X6_endLease_282 (kcX6_endLease (l := l) G a_eb a_desk a_desk_boxes a_desk_boxes_a a_kept a_tape a_text a_plan a_mat a_desk_words a_desk_weeks a_desk_routes a_desk_offers a_desk_wants a_desk_leaves a_desk_leases a_desk_uses v1 (1 : Int32) ((r55 + r63) + (r70 * v2)) isKept planStands today lack rate free boxes_r o90_tb_f hq) ⟨rfl, rfl, Nat.le_of_ble_eq_true rfl, Nat.le_of_ble_eq_true rfl⟩ [0, 1, 2, 3] rfl rfl rfl rfl rfl rfl rfl hl.1 (Nat.le_of_ble_eq_true rfl) ⟨Nat.zero_le _, Nat.zero_le _⟩ dX6_giveBack_185 (fun H locs hW => ?_)
            obtain rfl := Option.some.inj h
            exact g_iret X hW dX6_giveBack_188
          · have h := (if_neg c52).symm.trans h
            refine lv_bipush hx hb dX6_giveBack_104 qB_m2 ?_
            obtain rfl := Option.some.inj h
            exact g_iret X hW dX6_giveBack_106
        · have h := (if_pos c32).symm.trans h
          refine lv_bipush hx hb dX6_giveBack_61 qB_m4 ?_
          obtain rfl := Option.some.inj h
          exact g_iret X hW dX6_giveBack_63
    · have h := (if_pos c13).symm.trans h
      refine lv_iconst hx hb dX6_giveBack_24 qI_m1 ?_
      obtain rfl := Option.some.inj h
      exact g_iret X hW dX6_giveBack_25
theorem kcX6_giveBack {l : Launch} (G : Gt) (a_eb a_desk a_desk_boxes a_desk_boxes_a a_desk_words a_desk_words_a a_desk_leases a_desk_leases_a a_kept a_tape a_text a_plan a_mat a_desk_weeks a_desk_routes a_desk_offers a_desk_wants a_desk_leaves a_desk_uses : Nat) (v1 : Int32) (v2 : Int32) (isKept : Int32) (planStands : Int32) (today : Int32) (lack : Int32) (rate : Int32) (free : Int32) (boxes_r : Int32) (boxes_f : (Nat → Int32)) (words_r : Int32) (words_f : (Nat → Int32)) (leases_r : Int32) (leases_f : (Nat → Int32)) {r : Int32} {z_boxes_f : (Nat → Int32)} (h : fX6_giveBack v1 v2 today boxes_r boxes_f words_r words_f leases_r leases_f = some (r, z_boxes_f)) : CtI G l yX6_giveBack wsX6_giveBack rmX6_giveBack [.ref a_eb, .int v1, .int v2] (wX6_giveBack G a_eb a_desk a_desk_boxes a_desk_boxes_a a_desk_words a_desk_words_a a_desk_leases a_desk_leases_a a_kept a_tape a_text a_plan a_mat a_desk_weeks a_desk_routes a_desk_offers a_desk_wants a_desk_leaves a_desk_uses isKept planStands today lack rate free boxes_r boxes_f words_r words_f leases_r leases_f) r (wX6_giveBack G a_eb a_desk a_desk_boxes a_desk_boxes_a a_desk_words a_desk_words_a a_desk_leases a_desk_leases_a a_kept a_tape a_text a_plan a_mat a_desk_weeks a_desk_routes a_desk_offers a_desk_wants a_desk_leaves a_desk_uses isKept planStands today lack rate free boxes_r z_boxes_f words_r words_f leases_r leases_f) := k0X6_giveBack G a_eb a_desk a_desk_boxes a_desk_boxes_a a_desk_words a_desk_words_a a_desk_leases a_desk_leases_a a_kept a_tape a_text a_plan a_mat a_desk_weeks a_desk_routes a_desk_offers a_desk_wants a_desk_leaves a_desk_uses v1 v2 isKept planStands today lack rate free boxes_r boxes_f words_r words_f leases_r leases_f h
end MX6_giveBack
/-! EmptyBoxes.writeOff -/
section MX6_writeOff
theorem hdX6_writeOff : yX6_writeOff.cls = RX6 ∧ yX6_writeOff.cls ≠ "java/lang/invoke/MethodHandle" ∧ yX6_writeOff.cls ≠ "java/lang/invoke/VarHandle" ∧ (parseMethodDescriptor yX6_writeOff.desc).map (fun d => d.parameters.length) = some 1 := by decide +kernel
abbrev wX6_writeOff (G : Gt) (a_eb a_desk a_desk_boxes a_desk_boxes_a a_desk_words a_desk_words_a a_desk_leases a_desk_leases_a a_kept a_tape a_text a_plan a_mat a_desk_weeks a_desk_routes a_desk_offers a_desk_wants a_desk_leaves a_desk_uses : Nat) (isKept : Int32) (planStands : Int32) (today : Int32) (lack : Int32) (rate : Int32) (free : Int32) (boxes_r : Int32) (boxes_f : (Nat → Int32)) (words_r : Int32) (words_f : (Nat → Int32)) (leases_r : Int32) (leases_f : (Nat → Int32)) : va_W := [(a_eb, .inr (6, [.ref a_desk, .ref a_kept, .ref a_tape, .ref a_text, .ref a_plan, .ref a_mat, .int isKept, .int planStands])), (a_desk, .inr (0, [.ref a_desk_boxes, .ref a_desk_words, .ref a_desk_weeks, .ref a_desk_routes, .ref a_desk_offers, .ref a_desk_wants, .ref a_desk_leaves, .ref a_desk_leases, .ref a_desk_uses, .int today, .int lack, .int rate, .int free])), (a_desk_boxes, .inr (4, [.ref a_desk_boxes_a, .int (9 : Int32), .int (24 : Int32), .int boxes_r])), (a_desk_boxes_a, .inl (G.2.1, 216, .inl boxes_f)), (a_desk_words, .inr (4, [.ref a_desk_words_a, .int (5 : Int32), .int (60 : Int32), .int words_r])), (a_desk_words_a, .inl (G.2.1, 300, .inl words_f)), (a_desk_leases, .inr (4, [.ref a_desk_leases_a, .int (17 : Int32), .int (3 : Int32), .int leases_r])), (a_desk_leases_a, .inl (G.2.1, 51, .inl leases_f))]
abbrev rmX6_writeOff : Room := { frames := 5, cells := 0, slots := 0, locals := 119 }
theorem iX6_writeOff_X0 : ∀ w ∈ wsX00, w ∈ wsX6_writeOff := by decide +kernel
theorem iX6_writeOff_X6 : ∀ w ∈ wsX60, w ∈ wsX6_writeOff := by decide +kernel
theorem eX6_writeOff_12 : Fk wsX6_writeOff RX6 12 6 0 := ⟨RX6, TX6, 8, rfl, iX6_writeOff_X6, by decide, by decide +kernel⟩
theorem eX6_writeOff_261 : Fk wsX6_writeOff RX6 261 0 7 := ⟨RX0, TX0, 13, rfl, iX6_writeOff_X0, by decide, by decide +kernel⟩
theorem eX6_writeOff_58 : Fk wsX6_writeOff RX6 58 0 9 := ⟨RX0, TX0, 13, rfl, iX6_writeOff_X0, by decide, by decide +kernel⟩
theorem eX6_writeOff_82 : Fk wsX6_writeOff RX6 82 0 0 := ⟨RX0, TX0, 13, rfl, iX6_writeOff_X0, by decide, by decide +kernel⟩
theorem ckX6_writeOff_X4_cell_113 : CkV wsX6_writeOff RX6 113 yX4_cell wsX4_cell cX4_cell 3 (some .int) 2 4 := ⟨RX4, TX4, 4, _, rfl, gX6_writeOff_X4_cell, rfl, hdX4_cell⟩
theorem ckX6_writeOff_X4_has_110 : CkV wsX6_writeOff RX6 110 yX4_has wsX4_has cX4_has 2 (some .boolean) 1 4 := ⟨RX4, TX4, 4, _, rfl, gX6_writeOff_X4_has, rfl, hdX4_has⟩
theorem ckX6_writeOff_X6_dayBill_279 : CkV wsX6_writeOff RX6 279 yX6_dayBill wsX6_dayBill cX6_dayBill 5 (some .int) 1 6 := ⟨RX6, TX6, 8, _, rfl, gX6_writeOff_X6_dayBill, rfl, hdX6_dayBill⟩
theorem ckX6_writeOff_X6_endLease_282 : CkV wsX6_writeOff RX6 282 yX6_endLease wsX6_endLease cX6_endLease 4 (some .int) 3 6 := ⟨RX6, TX6, 8, _, rfl, gX6_writeOff_X6_endLease, rfl, hdX6_endLease⟩
theorem ckX6_writeOff_X6_isLateToday_161 : CkV wsX6_writeOff RX6 161 yX6_isLateToday wsX6_isLateToday cX6_isLateToday 3 (some .boolean) 1 6 := ⟨RX6, TX6, 8, _, rfl, gX6_writeOff_X6_isLateToday, rfl, hdX6_isLateToday⟩
theorem ckX6_writeOff_X6_isUnderLease_273 : CkV wsX6_writeOff RX6 273 yX6_isUnderLease wsX6_isUnderLease cX6_isUnderLease 2 (some .boolean) 1 6 := ⟨RX6, TX6, 8, _, rfl, gX6_writeOff_X6_isUnderLease, rfl, hdX6_isUnderLease⟩
theorem ckX6_writeOff_X6_standing_138 : CkV wsX6_writeOff RX6 138 yX6_standing wsX6_standing cX6_standing 6 (some .int) 3 6 := ⟨RX6, TX6, 8, _, rfl, gX6_writeOff_X6_standing, rfl, hdX6_standing⟩
variable {p : Program} {l : Launch} {e : Env} {s : State} {m : MethodId} {args : Array Value} {below : List Frame} {meth : Method} {c : Code} {A : Nat → Prop} {G : Gt} {a_eb a_desk a_desk_boxes a_desk_boxes_a a_desk_words a_desk_words_a a_desk_leases a_desk_leases_a a_kept a_tape a_text a_plan a_mat a_desk_weeks a_desk_routes a_desk_offers a_desk_wants a_desk_leaves a_desk_uses : Nat} {isKept : Int32} {planStands : Int32} {today : Int32} {lack : Int32} {rate : Int32} {free : Int32} {boxes_r : Int32} {words_r : Int32} {words_f : (Nat → Int32)} {leases_r : Int32} {leases_f : (Nat → Int32)} {res : Int32 × (Nat → Int32)}
set_option maxHeartbeats 4000000 in
set_option maxRecDepth 100000 in
theorem tX6_writeOff_69 (X : Bx p s m args meth c cX6_writeOff 4 wsX6_writeOff RX6 (some .int)) (v1 : Int32) (boxes_f : (Nat → Int32))   (h : fX6_writeOff_69 v1 today boxes_r boxes_f leases_r leases_f = some res) : ∀ (H : Heap) (locs : List Loc), Wo G A s (wX6_writeOff G a_eb a_desk a_desk_boxes a_desk_boxes_a a_desk_words a_desk_words_a a_desk_leases a_desk_leases_a a_kept a_tape a_text a_plan a_mat a_desk_weeks a_desk_routes a_desk_offers a_desk_wants a_desk_leaves a_desk_uses isKept planStands today lack rate free boxes_r boxes_f words_r words_f leases_r leases_f) H locs → ∀ ls : Array Slot, lv_has ls 4 [(0, .ref a_eb), (1, .int v1)] → W p l e rmX6_writeOff s m args below meth c H locs 0 0 (QI G A below args s res.1 (wX6_writeOff G a_eb a_desk a_desk_boxes a_desk_boxes_a a_desk_words a_desk_words_a a_desk_leases a_desk_leases_a a_kept a_tape a_text a_plan a_mat a_desk_weeks a_desk_routes a_desk_offers a_desk_wants a_desk_leaves a_desk_uses isKept planStands today lack rate free boxes_r res.2 words_r words_f leases_r leases_f)) (F0 m 69 ls []) := by
  obtain ⟨hx, hb, -⟩ := id X.1
  intro H locs hW ls hl
  rw [fX6_writeOff_69] at h
  refine lv_aload_n hx hb dX6_writeOff_69 rfl (lv_at hl 0 rfl) ?_
  refine g_get X hW eX6_writeOff_12 0 rfl rfl dX6_writeOff_70 ?_
  refine g_get X hW eX6_writeOff_261 1 rfl rfl dX6_writeOff_73 ?_
  refine lv_aload_n hx hb dX6_writeOff_76 rfl (lv_at hl 0 rfl) ?_
  refine g_get X hW eX6_writeOff_12 0 rfl rfl dX6_writeOff_77 ?_
  refine g_get X hW eX6_writeOff_82 1 rfl rfl dX6_writeOff_80 ?_
  refine lv_iload_n hx hb dX6_writeOff_83 rfl (lv_at hl 1 rfl) ?_
  refine lv_iconst hx hb dX6_writeOff_84 qI_3 ?_
  obtain ⟨r9, hq, h⟩ := bn1_some h
  refine g_cvi X hW (As := [.int v1, .int (3 : Int32)]) (ws' := (wX6_writeOff G a_eb a_desk a_desk_boxes a_desk_boxes_a a_desk_words a_desk_words_a a_desk_leases a_desk_leases_a a_kept a_tape a_text a_plan a_mat a_desk_weeks a_desk_routes a_desk_offers a_desk_wants a_desk_leaves a_desk_uses isKept planStands today lack rate free boxes_r boxes_f words_r words_f leases_r leases_f)) ckX6_writeOff_X4_cell_113 (kcX4_cell (l := l) G a_desk_boxes a_desk_boxes_a v1 (3 : Int32) (9 : Int32) (24 : Int32) boxes_r 216 boxes_f hq) ⟨rfl, rfl, Nat.le_of_ble_eq_true rfl, Nat.le_of_ble_eq_true rfl⟩ [2, 3] rfl rfl rfl rfl rfl rfl rfl hl.1 (Nat.le_of_ble_eq_true rfl) ⟨Nat.zero_le _, Nat.zero_le _⟩ dX6_writeOff_85 (fun H locs hW => ?_)
  refine lv_iconst hx hb dX6_writeOff_88 qI_3 ?_
  obtain ⟨r11, hq, h⟩ := bn1_some h
  refine g_cvi X hW (As := [.int r9, .int (3 : Int32)]) (ws' := (wX6_writeOff G a_eb a_desk a_desk_boxes a_desk_boxes_a a_desk_words a_desk_words_a a_desk_leases a_desk_leases_a a_kept a_tape a_text a_plan a_mat a_desk_weeks a_desk_routes a_desk_offers a_desk_wants a_desk_leaves a_desk_uses isKept planStands today lack rate free boxes_r boxes_f words_r words_f leases_r leases_f)) ckX6_writeOff_X4_cell_113 (kcX4_cell (l := l) G a_desk_leases a_desk_leases_a r9 (3 : Int32) (17 : Int32) (3 : Int32) leases_r 51 leases_f hq) ⟨rfl, rfl, Nat.le_of_ble_eq_true rfl, Nat.le_of_ble_eq_true rfl⟩ [6, 7] rfl rfl rfl rfl rfl rfl rfl hl.1 (Nat.le_of_ble_eq_true rfl) ⟨Nat.zero_le _, Nat.zero_le _⟩ dX6_writeOff_89 (fun H locs hW => ?_)
  refine lv_istore_n (lv' := [(3, .int r11), (0, .ref a_eb), (1, .int v1)]) hx hb dX6_writeOff_92 rfl hl (by decide) rfl (fun ls hl => ?_)
  refine lv_aload_n hx hb dX6_writeOff_93 rfl (lv_at hl 1 rfl) ?_
  refine lv_iload_n hx hb dX6_writeOff_94 rfl (lv_at hl 2 rfl) ?_
  refine lv_iconst hx hb dX6_writeOff_95 qI_2 ?_
  refine lv_aload_n hx hb dX6_writeOff_96 rfl (lv_at hl 1 rfl) ?_
  refine lv_iload_n hx hb dX6_writeOff_97 rfl (lv_at hl 2 rfl) ?_
  obtain ⟨r18, hq, h⟩ := bn1_some h
  refine g_cvi X hW (As := [.int v1]) (ws' := (wX6_writeOff G a_eb a_desk a_desk_boxes a_desk_boxes_a a_desk_words a_desk_words_a a_desk_leases a_desk_leases_a a_kept a_tape a_text a_plan a_mat a_desk_weeks a_desk_routes a_desk_offers a_desk_wants a_desk_leaves a_desk_uses isKept planStands today lack rate free boxes_r boxes_f words_r words_f leases_r leases_f)) ckX6_writeOff_X6_dayBill_279 (kcX6_dayBill (l := l) G a_eb a_desk a_desk_boxes a_desk_boxes_a a_desk_leases a_desk_leases_a a_kept a_tape a_text a_plan a_mat a_desk_words a_desk_weeks a_desk_routes a_desk_offers a_desk_wants a_desk_leaves a_desk_uses v1 isKept planStands today lack rate free boxes_r boxes_f leases_r leases_f hq) ⟨rfl, rfl, Nat.le_of_ble_eq_true rfl, Nat.le_of_ble_eq_true rfl⟩ [0, 1, 2, 3, 6, 7] rfl rfl rfl rfl rfl rfl rfl hl.1 (Nat.le_of_ble_eq_true rfl) ⟨Nat.zero_le _, Nat.zero_le _⟩ dX6_writeOff_98 (fun H locs hW => ?_)
  refine lv_iload_n hx hb dX6_writeOff_101 rfl (lv_at hl 0 rfl) ?_
  refine lv_iadd hx hb dX6_writeOff_102 ?_
  obtain ⟨r21, o21_boxes_f, hq, h⟩ := bn2_some h
  refine g_cvi X hW (As := [.int v1, .int (2 : Int32), .int (r18 + r11)]) (ws' := (wX6_writeOff G a_eb a_desk a_desk_boxes a_desk_boxes_a a_desk_words a_desk_words_a a_desk_leases a_desk_leases_a a_kept a_tape a_text a_plan a_mat a_desk_weeks a_desk_routes a_desk_offers a_desk_wants a_desk_leaves a_desk_uses isKept planStands today lack rate free boxes_r o21_boxes_f words_r words_f leases_r leases_f)) ckX6_writeOff_X6_endLease_282 (kcX6_endLease (l := l) G a_eb a_desk a_desk_boxes a_desk_boxes_a a_kept a_tape a_text a_plan a_mat a_desk_words a_desk_weeks a_desk_routes a_desk_offers a_desk_wants a_desk_leaves a_desk_leases a_desk_uses v1 (2 : Int32) (r18 + r11) isKept planStands today lack rate free boxes_r boxes_f hq) ⟨rfl, rfl, Nat.le_of_ble_eq_true rfl, Nat.le_of_ble_eq_true rfl⟩ [0, 1, 2, 3] rfl rfl rfl rfl rfl rfl rfl hl.1 (Nat.le_of_ble_eq_true rfl) ⟨Nat.zero_le _, Nat.zero_le _⟩ dX6_writeOff_103 (fun H locs hW => ?_)
  obtain rfl := Option.some.inj h
  exact g_iret X hW dX6_writeOff_106
set_option maxHeartbeats 4000000 in
set_option maxRecDepth 100000 in
theorem tX6_writeOff_45 (X : Bx p s m args meth c cX6_writeOff 4 wsX6_writeOff RX6 (some .int)) (v1 : Int32) (t0 : Int32) (boxes_f : (Nat → Int32))   (h : fX6_writeOff_45 v1 t0 today boxes_r boxes_f words_r words_f leases_r leases_f = some res) : ∀ (H : Heap) (locs : List Loc), Wo G A s (wX6_writeOff G a_eb a_desk a_desk_boxes a_desk_boxes_a a_desk_words a_desk_words_a a_desk_leases a_desk_leases_a a_kept a_tape a_text a_plan a_mat a_desk_weeks a_desk_routes a_desk_offers a_desk_wants a_desk_leaves a_desk_uses isKept planStands today lack rate free boxes_r boxes_f words_r words_f leases_r leases_f) H locs → ∀ ls : Array Slot, lv_has ls 4 [(0, .ref a_eb), (1, .int v1)] → W p l e rmX6_writeOff s m args below meth c H locs 0 0 (QI G A below args s res.1 (wX6_writeOff G a_eb a_desk a_desk_boxes a_desk_boxes_a a_desk_words a_desk_words_a a_desk_leases a_desk_leases_a a_kept a_tape a_text a_plan a_mat a_desk_weeks a_desk_routes a_desk_offers a_desk_wants a_desk_leaves a_desk_uses isKept planStands today lack rate free boxes_r res.2 words_r words_f leases_r leases_f)) (F0 m 45 ls [.int t0]) := by
  obtain ⟨hx, hb, -⟩ := id X.1
  intro H locs hW ls hl
  rw [fX6_writeOff_45] at h
  refine lv_istore_n (lv' := [(2, .int t0), (0, .ref a_eb), (1, .int v1)]) hx hb dX6_writeOff_45 rfl hl (by decide) rfl (fun ls hl => ?_)
  refine lv_aload_n hx hb dX6_writeOff_46 rfl (lv_at hl 1 rfl) ?_
  refine lv_iload_n hx hb dX6_writeOff_47 rfl (lv_at hl 2 rfl) ?_
  obtain ⟨r26, hq, h⟩ := bn1_some h
  refine g_cvi X hW (As := [.int v1]) (ws' := (wX6_writeOff G a_eb a_desk a_desk_boxes a_desk_boxes_a a_desk_words a_desk_words_a a_desk_leases a_desk_leases_a a_kept a_tape a_text a_plan a_mat a_desk_weeks a_desk_routes a_desk_offers a_desk_wants a_desk_leaves a_desk_uses isKept planStands today lack rate free boxes_r boxes_f words_r words_f leases_r leases_f)) ckX6_writeOff_X6_isUnderLease_273 (kcX6_isUnderLease (l := l) G a_eb a_desk a_desk_boxes a_desk_boxes_a a_kept a_tape a_text a_plan a_mat a_desk_words a_desk_weeks a_desk_routes a_desk_offers a_desk_wants a_desk_leaves a_desk_leases a_desk_uses v1 isKept planStands today lack rate free boxes_r boxes_f hq) ⟨rfl, rfl, Nat.le_of_ble_eq_true rfl, Nat.le_of_ble_eq_true rfl⟩ [0, 1, 2, 3] rfl rfl rfl rfl rfl rfl rfl hl.1 (Nat.le_of_ble_eq_true rfl) ⟨Nat.zero_le _, Nat.zero_le _⟩ dX6_writeOff_48 (fun H locs hW => ?_)
  refine lv_if_eq (tgt := 66) hx hb dX6_writeOff_51 (by decide) (fun c27 => ?_) (fun c27 => ?_)
  · have h := (if_pos c27).symm.trans h
    refine lv_bipush hx hb dX6_writeOff_66 qB_m4 ?_
    obtain rfl := Option.some.inj h
    exact g_iret X hW dX6_writeOff_68
  · have h := (if_neg c27).symm.trans h
    refine lv_iload_n hx hb dX6_writeOff_54 rfl (lv_at hl 0 rfl) ?_
    refine lv_if_ne (tgt := 69) hx hb dX6_writeOff_55 (by decide) (fun c31 => ?_) (fun c31 => ?_)
    · have h := (if_neg c31).symm.trans h
      exact tX6_writeOff_69 X v1 boxes_f h H locs hW ls (lv_sub hl [1, 2] rfl)
    · have h := (if_pos c31).symm.trans h
      refine lv_aload_n hx hb dX6_writeOff_58 rfl (lv_at hl 1 rfl) ?_
      refine lv_iload_n hx hb dX6_writeOff_59 rfl (lv_at hl 2 rfl) ?_
      obtain ⟨r34, hq, h⟩ := bn1_some h
      refine g_cvi X hW (As := [.int v1]) (ws' := (wX6_writeOff G a_eb a_desk a_desk_boxes a_desk_boxes_a a_desk_words a_desk_words_a a_desk_leases a_desk_leases_a a_kept a_tape a_text a_plan a_mat a_desk_weeks a_desk_routes a_desk_offers a_desk_wants a_desk_leaves a_desk_uses isKept planStands today lack rate free boxes_r boxes_f words_r words_f leases_r leases_f)) ckX6_writeOff_X6_isLateToday_161 (kcX6_isLateToday (l := l) G a_eb a_desk a_desk_words a_desk_words_a a_kept a_tape a_text a_plan a_mat a_desk_boxes a_desk_weeks a_desk_routes a_desk_offers a_desk_wants a_desk_leaves a_desk_leases a_desk_uses v1 isKept planStands today lack rate free words_r words_f hq) ⟨rfl, rfl, Nat.le_of_ble_eq_true rfl, Nat.le_of_ble_eq_true rfl⟩ [0, 1, 4, 5] rfl rfl rfl rfl rfl rfl rfl hl.1 (Nat.le_of_ble_eq_true rfl) ⟨Nat.zero_le _, Nat.zero_le _⟩ dX6_writeOff_60 (fun H locs hW => ?_)
      refine lv_if_ne (tgt := 69) hx hb dX6_writeOff_63 (by decide) (fun c35 => ?_) (fun c35 => ?_)
      · have h := (if_neg c35).symm.trans h
        exact tX6_writeOff_69 X v1 boxes_f h H locs hW ls (lv_sub hl [1, 2] rfl)
      · have h := (if_pos c35).symm.trans h
        refine lv_bipush hx hb dX6_writeOff_66 qB_m4 ?_
        obtain rfl := Option.some.inj h
        exact g_iret X hW dX6_writeOff_68
set_option maxHeartbeats 4000000 in
set_option maxRecDepth 100000 in
theorem k0X6_writeOff {l : Launch} (G : Gt) (a_eb a_desk a_desk_boxes a_desk_boxes_a a_desk_words a_desk_words_a a_desk_leases a_desk_leases_a a_kept a_tape a_text a_plan a_mat a_desk_weeks a_desk_routes a_desk_offers a_desk_wants a_desk_leaves a_desk_uses : Nat) (v1 : Int32) (isKept : Int32) (planStands : Int32) (today : Int32) (lack : Int32) (rate : Int32) (free : Int32) (boxes_r : Int32) (boxes_f : (Nat → Int32)) (words_r : Int32) (words_f : (Nat → Int32)) (leases_r : Int32) (leases_f : (Nat → Int32)) {res : Int32 × (Nat → Int32)} (h : fX6_writeOff v1 today boxes_r boxes_f words_r words_f leases_r leases_f = some res) : CtI G l yX6_writeOff wsX6_writeOff rmX6_writeOff [.ref a_eb, .int v1] (wX6_writeOff G a_eb a_desk a_desk_boxes a_desk_boxes_a a_desk_words a_desk_words_a a_desk_leases a_desk_leases_a a_kept a_tape a_text a_plan a_mat a_desk_weeks a_desk_routes a_desk_offers a_desk_wants a_desk_leaves a_desk_uses isKept planStands today lack rate free boxes_r boxes_f words_r words_f leases_r leases_f) res.1 (wX6_writeOff G a_eb a_desk a_desk_boxes a_desk_boxes_a a_desk_words a_desk_words_a a_desk_leases a_desk_leases_a a_kept a_tape a_text a_plan a_mat a_desk_weeks a_desk_routes a_desk_offers a_desk_wants a_desk_leaves a_desk_uses isKept planStands today lack rate free boxes_r res.2 words_r words_f leases_r leases_f) := by
  refine CtI.mk (cc := cX6_writeOff) (maxL := 4) (ret := (some .int)) (own := RX6) (by decide) rfl rfl (Nat.le_of_ble_eq_true rfl) ?_
  intro p e s m below meth c A X ls hl hW
  obtain ⟨hx, hb, -⟩ := id X.1
  have hl : lv_has ls 4 [(0, .ref a_eb), (1, .int v1)] := hl
  generalize hH : s.heap = H at hW ⊢
  generalize hLo : ([] : List Loc) = locs at hW ⊢
  rw [fX6_writeOff] at h
  refine lv_aload_n hx hb dX6_writeOff_0 rfl (lv_at hl 0 rfl) ?_
  refine g_get X hW eX6_writeOff_12 0 rfl rfl dX6_writeOff_1 ?_
  refine g_get X hW eX6_writeOff_82 1 rfl rfl dX6_writeOff_4 ?_
  refine lv_iload_n hx hb dX6_writeOff_7 rfl (lv_at hl 1 rfl) ?_
  obtain ⟨r42, hq, h⟩ := bn1_some h
  refine g_cvi X hW (As := [.int v1]) (ws' := (wX6_writeOff G a_eb a_desk a_desk_boxes a_desk_boxes_a a_desk_words a_desk_words_a a_desk_leases a_desk_leases_a a_kept a_tape a_text a_plan a_mat a_desk_weeks a_desk_routes a_desk_offers a_desk_wants a_desk_leaves a_desk_uses isKept planStands today lack rate free boxes_r boxes_f words_r words_f leases_r leases_f)) ckX6_writeOff_X4_has_110 (kcX4_has (l := l) G a_desk_boxes a_desk_boxes_a v1 (9 : Int32) (24 : Int32) boxes_r hq) ⟨rfl, rfl, Nat.le_of_ble_eq_true rfl, Nat.le_of_ble_eq_true rfl⟩ [2] rfl rfl rfl rfl rfl rfl rfl hl.1 (Nat.le_of_ble_eq_true rfl) ⟨Nat.zero_le _, Nat.zero_le _⟩ dX6_writeOff_8 (fun H locs hW => ?_)
  refine lv_if_ne (tgt := 16) hx hb dX6_writeOff_11 (by decide) (fun c43 => ?_) (fun c43 => ?_)
  · have h := (if_neg c43).symm.trans h
    refine lv_aload_n hx hb dX6_writeOff_16 rfl (lv_at hl 0 rfl) ?_
    refine lv_iload_n hx hb dX6_writeOff_17 rfl (lv_at hl 1 rfl) ?_
    refine lv_aload_n hx hb dX6_writeOff_18 rfl (lv_at hl 0 rfl) ?_
    refine g_get X hW eX6_writeOff_12 0 rfl rfl dX6_writeOff_19 ?_
    refine g_get X hW eX6_writeOff_58 1 rfl rfl dX6_writeOff_22 ?_
    refine lv_aload_n hx hb dX6_writeOff_25 rfl (lv_at hl 0 rfl) ?_
    refine g_get X hW eX6_writeOff_12 0 rfl rfl dX6_writeOff_26 ?_
    refine g_get X hW eX6_writeOff_58 1 rfl rfl dX6_writeOff_29 ?_
    obtain ⟨r52, hq, h⟩ := bn1_some h
    refine g_cvi X hW (As := [.int v1, .int today, .int today]) (ws' := (wX6_writeOff G a_eb a_desk a_desk_boxes a_desk_boxes_a a_desk_words a_desk_words_a a_desk_leases a_desk_leases_a a_kept a_tape a_text a_plan a_mat a_desk_weeks a_desk_routes a_desk_offers a_desk_wants a_desk_leaves a_desk_uses isKept planStands today lack rate free boxes_r boxes_f words_r words_f leases_r leases_f)) ckX6_writeOff_X6_standing_138 (kcX6_standing (l := l) G a_eb a_desk a_desk_words a_desk_words_a a_kept a_tape a_text a_plan a_mat a_desk_boxes a_desk_weeks a_desk_routes a_desk_offers a_desk_wants a_desk_leaves a_desk_leases a_desk_uses v1 today today isKept planStands today lack rate free words_r words_f hq) ⟨rfl, rfl, Nat.le_of_ble_eq_true rfl, Nat.le_of_ble_eq_true rfl⟩ [0, 1, 4, 5] rfl rfl rfl rfl rfl rfl rfl hl.1 (Nat.le_of_ble_eq_true rfl) ⟨Nat.zero_le _, Nat.zero_le _⟩ dX6_writeOff_32 (fun H locs hW => ?_)
    refine lv_bipush hx hb dX6_writeOff_35 qB_20 ?_
    refine lv_icmp_ne (tgt := 44) hx hb dX6_writeOff_37 (by decide) (fun c54 => ?_) (fun c54 => ?_)
    · have h := (if_neg c54).symm.trans h
      refine lv_iconst hx hb dX6_writeOff_44 qI_0 ?_
      exact tX6_writeOff_45 X v1 (0 : Int32) boxes_f h H locs hW ls hl
    · have h := (if_pos c54).symm.trans h
      refine lv_iconst hx hb dX6_writeOff_40 qI_1 ?_
      refine lv_goto (tgt := 45) hx hb dX6_writeOff_41 (by decide) ?_
      exact tX6_writeOff_45 X v1 (1 : Int32) boxes_f h H locs hW ls hl
  · have h := (if_pos c43).symm.trans h
    refine lv_iconst hx hb dX6_writeOff_14 qI_m1 ?_
    obtain rfl := Option.some.inj h
    exact g_iret X hW dX6_writeOff_15
theorem kcX6_writeOff {l : Launch} (G : Gt) (a_eb a_desk a_desk_boxes a_desk_boxes_a a_desk_words a_desk_words_a a_desk_leases a_desk_leases_a a_kept a_tape a_text a_plan a_mat a_desk_weeks a_desk_routes a_desk_offers a_desk_wants a_desk_leaves a_desk_uses : Nat) (v1 : Int32) (isKept : Int32) (planStands : Int32) (today : Int32) (lack : Int32) (rate : Int32) (free : Int32) (boxes_r : Int32) (boxes_f : (Nat → Int32)) (words_r : Int32) (words_f : (Nat → Int32)) (leases_r : Int32) (leases_f : (Nat → Int32)) {r : Int32} {z_boxes_f : (Nat → Int32)} (h : fX6_writeOff v1 today boxes_r boxes_f words_r words_f leases_r leases_f = some (r, z_boxes_f)) : CtI G l yX6_writeOff wsX6_writeOff rmX6_writeOff [.ref a_eb, .int v1] (wX6_writeOff G a_eb a_desk a_desk_boxes a_desk_boxes_a a_desk_words a_desk_words_a a_desk_leases a_desk_leases_a a_kept a_tape a_text a_plan a_mat a_desk_weeks a_desk_routes a_desk_offers a_desk_wants a_desk_leaves a_desk_uses isKept planStands today lack rate free boxes_r boxes_f words_r words_f leases_r leases_f) r (wX6_writeOff G a_eb a_desk a_desk_boxes a_desk_boxes_a a_desk_words a_desk_words_a a_desk_leases a_desk_leases_a a_kept a_tape a_text a_plan a_mat a_desk_weeks a_desk_routes a_desk_offers a_desk_wants a_desk_leaves a_desk_uses isKept planStands today lack rate free boxes_r z_boxes_f words_r words_f leases_r leases_f) := k0X6_writeOff G a_eb a_desk a_desk_boxes a_desk_boxes_a a_desk_words a_desk_words_a a_desk_leases a_desk_leases_a a_kept a_tape a_text a_plan a_mat a_desk_weeks a_desk_routes a_desk_offers a_desk_wants a_desk_leaves a_desk_uses v1 isKept planStands today lack rate free boxes_r boxes_f words_r words_f leases_r leases_f h
end MX6_writeOff
/-! EmptyBoxes.rate -/
section MX6_rate
theorem hdX6_rate : yX6_rate.cls = RX6 ∧ yX6_rate.cls ≠ "java/lang/invoke/MethodHandle" ∧ yX6_rate.cls ≠ "java/lang/invoke/VarHandle" ∧ (parseMethodDescriptor yX6_rate.desc).map (fun d => d.parameters.length) = some 2 := by decide +kernel
abbrev wX6_rate (G : Gt) (a_eb a_desk a_kept a_tape a_text a_plan a_mat a_desk_boxes a_desk_words a_desk_weeks a_desk_routes a_desk_offers a_desk_wants a_desk_leaves a_desk_leases a_desk_uses : Nat) (isKept : Int32) (planStands : Int32) (today : Int32) (lack : Int32) (rate : Int32) (free : Int32) : va_W := [(a_eb, .inr (6, [.ref a_desk, .ref a_kept, .ref a_tape, .ref a_text, .ref a_plan, .ref a_mat, .int isKept, .int planStands])), (a_desk, .inr (0, [.ref a_desk_boxes, .ref a_desk_words, .ref a_desk_weeks, .ref a_desk_routes, .ref a_desk_offers, .ref a_desk_wants, .ref a_desk_leaves, .ref a_desk_leases, .ref a_desk_uses, .int today, .int lack, .int rate, .int free]))]
abbrev rmX6_rate : Room := { frames := 1, cells := 0, slots := 0, locals := 22 }
theorem iX6_rate_X0 : ∀ w ∈ wsX00, w ∈ wsX6_rate := by decide +kernel
theorem iX6_rate_X6 : ∀ w ∈ wsX60, w ∈ wsX6_rate := by decide +kernel
theorem eX6_rate_12 : Fk wsX6_rate RX6 12 6 0 := ⟨RX6, TX6, 8, rfl, iX6_rate_X6, by decide, by decide +kernel⟩
theorem eX6_rate_288 : Fk wsX6_rate RX6 288 0 11 := ⟨RX0, TX0, 13, rfl, iX6_rate_X0, by decide, by decide +kernel⟩
theorem eX6_rate_291 : Fk wsX6_rate RX6 291 0 12 := ⟨RX0, TX0, 13, rfl, iX6_rate_X0, by decide, by decide +kernel⟩
theorem pX6_rate_288 : Fp wsX6_rate RX6 288 0 11 .int := ⟨RX0, TX0, 13, tyX0, rfl, iX6_rate_X0, by decide, by decide +kernel, tyX0_ok, nmX0, rfl, by decide +kernel⟩
theorem pX6_rate_291 : Fp wsX6_rate RX6 291 0 12 .int := ⟨RX0, TX0, 13, tyX0, rfl, iX6_rate_X0, by decide, by decide +kernel, tyX0_ok, nmX0, rfl, by decide +kernel⟩
theorem ckX6_rate_X6_isWithin_54 : CkS wsX6_rate RX6 54 yX6_isWithin wsX6_isWithin cX6_isWithin 3 (some .boolean) 3 := ⟨_, gX6_rate_X6_isWithin, rfl, hdX6_isWithin.2⟩
variable {p : Program} {l : Launch} {e : Env} {s : State} {m : MethodId} {args : Array Value} {below : List Frame} {meth : Method} {c : Code} {A : Nat → Prop} {G : Gt} {a_eb a_desk a_kept a_tape a_text a_plan a_mat a_desk_boxes a_desk_words a_desk_weeks a_desk_routes a_desk_offers a_desk_wants a_desk_leaves a_desk_leases a_desk_uses : Nat} {isKept : Int32} {planStands : Int32} {today : Int32} {lack : Int32} {res : Int32 × Int32 × Int32}
set_option maxHeartbeats 4000000 in
set_option maxRecDepth 100000 in
theorem tX6_rate_32 (X : Bx p s m args meth c cX6_rate 4 wsX6_rate RX6 (some .int)) (v1 : Int32) (v2 : Int32) (rate : Int32) (free : Int32)   (h : fX6_rate_32 v1 v2 rate free = some res) : ∀ (H : Heap) (locs : List Loc), Wo G A s (wX6_rate G a_eb a_desk a_kept a_tape a_text a_plan a_mat a_desk_boxes a_desk_words a_desk_weeks a_desk_routes a_desk_offers a_desk_wants a_desk_leaves a_desk_leases a_desk_uses isKept planStands today lack rate free) H locs → ∀ ls : Array Slot, lv_has ls 4 [(0, .ref a_eb), (1, .int v1), (2, .int v2)] → W p l e rmX6_rate s m args below meth c H locs 0 0 (QI G A below args s res.1 (wX6_rate G a_eb a_desk a_kept a_tape a_text a_plan a_mat a_desk_boxes a_desk_words a_desk_weeks a_desk_routes a_desk_offers a_desk_wants a_desk_leaves a_desk_leases a_desk_uses isKept planStands today lack res.2.1 res.2.2)) (F0 m 32 ls []) := by
  obtain ⟨hx, hb, -⟩ := id X.1
  intro H locs hW ls hl
  rw [fX6_rate_32] at h
  refine lv_iload_n hx hb dX6_rate_32 rfl (lv_at hl 1 rfl) ?_
  refine lv_iconst hx hb dX6_rate_33 qI_1 ?_
  refine lv_icmp_ne (tgt := 65) hx hb dX6_rate_34 (by decide) (fun c3 => ?_) (fun c3 => ?_)
  · have h := (if_neg c3).symm.trans h
    refine lv_iconst hx hb dX6_rate_65 qI_m1 ?_
    obtain rfl := Option.some.inj h
    exact g_iret X hW dX6_rate_66
  · have h := (if_pos c3).symm.trans h
    refine lv_iload_n hx hb dX6_rate_37 rfl (lv_at hl 2 rfl) ?_
    refine lv_iconst hx hb dX6_rate_38 qI_0 ?_
    refine lv_bipush hx hb dX6_rate_39 qB_10 ?_
    obtain ⟨r9, hq, h⟩ := bn1_some h
    refine g_csi X hW (As := [.int v2, .int (0 : Int32), .int (10 : Int32)]) (ws' := (wX6_rate G a_eb a_desk a_kept a_tape a_text a_plan a_mat a_desk_boxes a_desk_words a_desk_weeks a_desk_routes a_desk_offers a_desk_wants a_desk_leaves a_desk_leases a_desk_uses isKept planStands today lack rate free)) ckX6_rate_X6_isWithin_54 (kcX6_isWithin (l := l) G v2 (0 : Int32) (10 : Int32) hq) ⟨rfl, rfl, Nat.le_of_ble_eq_true rfl, Nat.le_of_ble_eq_true rfl⟩ [] rfl rfl rfl rfl rfl rfl hl.1 (Nat.le_of_ble_eq_true rfl) ⟨Nat.zero_le _, Nat.zero_le _⟩ dX6_rate_41 (fun H locs hW => ?_)
    refine lv_if_eq (tgt := 65) hx hb dX6_rate_44 (by decide) (fun c10 => ?_) (fun c10 => ?_)
    · have h := (if_pos c10).symm.trans h
      refine lv_iconst hx hb dX6_rate_65 qI_m1 ?_
      obtain rfl := Option.some.inj h
      exact g_iret X hW dX6_rate_66
    · have h := (if_neg c10).symm.trans h
      refine lv_aload_n hx hb dX6_rate_47 rfl (lv_at hl 0 rfl) ?_
      refine g_get X hW eX6_rate_12 0 rfl rfl dX6_rate_48 ?_
      refine g_get X hW eX6_rate_291 1 rfl rfl dX6_rate_51 ?_
      refine lv_istore_n (lv' := [(3, .int free), (0, .ref a_eb), (1, .int v1), (2, .int v2)]) hx hb dX6_rate_54 rfl hl (by decide) rfl (fun ls hl => ?_)
      refine lv_aload_n hx hb dX6_rate_55 rfl (lv_at hl 1 rfl) ?_
      refine g_get X hW eX6_rate_12 0 rfl rfl dX6_rate_56 ?_
      refine lv_iload_n hx hb dX6_rate_59 rfl (lv_at hl 3 rfl) ?_
      refine g_put X hW (ws' := (wX6_rate G a_eb a_desk a_kept a_tape a_text a_plan a_mat a_desk_boxes a_desk_words a_desk_weeks a_desk_routes a_desk_offers a_desk_wants a_desk_leaves a_desk_leases a_desk_uses isKept planStands today lack rate v2)) pX6_rate_291 1 rfl (Nat.le_of_ble_eq_true rfl) rfl rfl rfl dX6_rate_60 (fun H locs hW => ?_)
      refine lv_iload_n hx hb dX6_rate_63 rfl (lv_at hl 0 rfl) ?_
      obtain rfl := Option.some.inj h
      exact g_iret X hW dX6_rate_64
set_option maxHeartbeats 4000000 in
set_option maxRecDepth 100000 in
theorem k0X6_rate {l : Launch} (G : Gt) (a_eb a_desk a_kept a_tape a_text a_plan a_mat a_desk_boxes a_desk_words a_desk_weeks a_desk_routes a_desk_offers a_desk_wants a_desk_leaves a_desk_leases a_desk_uses : Nat) (v1 : Int32) (v2 : Int32) (isKept : Int32) (planStands : Int32) (today : Int32) (lack : Int32) (rate : Int32) (free : Int32) {res : Int32 × Int32 × Int32} (h : fX6_rate v1 v2 rate free = some res) : CtI G l yX6_rate wsX6_rate rmX6_rate [.ref a_eb, .int v1, .int v2] (wX6_rate G a_eb a_desk a_kept a_tape a_text a_plan a_mat a_desk_boxes a_desk_words a_desk_weeks a_desk_routes a_desk_offers a_desk_wants a_desk_leaves a_desk_leases a_desk_uses isKept planStands today lack rate free) res.1 (wX6_rate G a_eb a_desk a_kept a_tape a_text a_plan a_mat a_desk_boxes a_desk_words a_desk_weeks a_desk_routes a_desk_offers a_desk_wants a_desk_leaves a_desk_leases a_desk_uses isKept planStands today lack res.2.1 res.2.2) := by
  refine CtI.mk (cc := cX6_rate) (maxL := 4) (ret := (some .int)) (own := RX6) (by decide) rfl rfl (Nat.le_of_ble_eq_true rfl) ?_
  intro p e s m below meth c A X ls hl hW
  obtain ⟨hx, hb, -⟩ := id X.1
  have hl : lv_has ls 4 [(0, .ref a_eb), (1, .int v1), (2, .int v2)] := hl
  generalize hH : s.heap = H at hW ⊢
  generalize hLo : ([] : List Loc) = locs at hW ⊢
  rw [fX6_rate] at h
  refine lv_iload_n hx hb dX6_rate_0 rfl (lv_at hl 1 rfl) ?_
  refine lv_if_ne (tgt := 32) hx hb dX6_rate_1 (by decide) (fun c24 => ?_) (fun c24 => ?_)
  · have h := (if_neg c24).symm.trans h
    exact tX6_rate_32 X v1 v2 rate free h H locs hW ls hl
  · have h := (if_pos c24).symm.trans h
    refine lv_iload_n hx hb dX6_rate_4 rfl (lv_at hl 2 rfl) ?_
    refine lv_iconst hx hb dX6_rate_5 qI_0 ?_
    refine lv_bipush hx hb dX6_rate_6 qB_50 ?_
    obtain ⟨r28, hq, h⟩ := bn1_some h
    refine g_csi X hW (As := [.int v2, .int (0 : Int32), .int (50 : Int32)]) (ws' := (wX6_rate G a_eb a_desk a_kept a_tape a_text a_plan a_mat a_desk_boxes a_desk_words a_desk_weeks a_desk_routes a_desk_offers a_desk_wants a_desk_leaves a_desk_leases a_desk_uses isKept planStands today lack rate free)) ckX6_rate_X6_isWithin_54 (kcX6_isWithin (l := l) G v2 (0 : Int32) (50 : Int32) hq) ⟨rfl, rfl, Nat.le_of_ble_eq_true rfl, Nat.le_of_ble_eq_true rfl⟩ [] rfl rfl rfl rfl rfl rfl hl.1 (Nat.le_of_ble_eq_true rfl) ⟨Nat.zero_le _, Nat.zero_le _⟩ dX6_rate_8 (fun H locs hW => ?_)
    refine lv_if_eq (tgt := 32) hx hb dX6_rate_11 (by decide) (fun c29 => ?_) (fun c29 => ?_)
    · have h := (if_pos c29).symm.trans h
      exact tX6_rate_32 X v1 v2 rate free h H locs hW ls hl
    · have h := (if_neg c29).symm.trans h
      refine lv_aload_n hx hb dX6_rate_14 rfl (lv_at hl 0 rfl) ?_
      refine g_get X hW eX6_rate_12 0 rfl rfl dX6_rate_15 ?_
      refine g_get X hW eX6_rate_288 1 rfl rfl dX6_rate_18 ?_
      refine lv_istore_n (lv' := [(3, .int rate), (0, .ref a_eb), (1, .int v1), (2, .int v2)]) hx hb dX6_rate_21 rfl hl (by decide) rfl (fun ls hl => ?_)
      refine lv_aload_n hx hb dX6_rate_22 rfl (lv_at hl 1 rfl) ?_
      refine g_get X hW eX6_rate_12 0 rfl rfl dX6_rate_23 ?_
      refine lv_iload_n hx hb dX6_rate_26 rfl (lv_at hl 3 rfl) ?_
      refine g_put X hW (ws' := (wX6_rate G a_eb a_desk a_kept a_tape a_text a_plan a_mat a_desk_boxes a_desk_words a_desk_weeks a_desk_routes a_desk_offers a_desk_wants a_desk_leaves a_desk_leases a_desk_uses isKept planStands today lack v2 free)) pX6_rate_288 1 rfl (Nat.le_of_ble_eq_true rfl) rfl rfl rfl dX6_rate_27 (fun H locs hW => ?_)
      refine lv_iload_n hx hb dX6_rate_30 rfl (lv_at hl 0 rfl) ?_
      obtain rfl := Option.some.inj h
      exact g_iret X hW dX6_rate_31
theorem kcX6_rate {l : Launch} (G : Gt) (a_eb a_desk a_kept a_tape a_text a_plan a_mat a_desk_boxes a_desk_words a_desk_weeks a_desk_routes a_desk_offers a_desk_wants a_desk_leaves a_desk_leases a_desk_uses : Nat) (v1 : Int32) (v2 : Int32) (isKept : Int32) (planStands : Int32) (today : Int32) (lack : Int32) (rate : Int32) (free : Int32) {r : Int32} {z_rate : Int32} {z_free : Int32} (h : fX6_rate v1 v2 rate free = some (r, z_rate, z_free)) : CtI G l yX6_rate wsX6_rate rmX6_rate [.ref a_eb, .int v1, .int v2] (wX6_rate G a_eb a_desk a_kept a_tape a_text a_plan a_mat a_desk_boxes a_desk_words a_desk_weeks a_desk_routes a_desk_offers a_desk_wants a_desk_leaves a_desk_leases a_desk_uses isKept planStands today lack rate free) r (wX6_rate G a_eb a_desk a_kept a_tape a_text a_plan a_mat a_desk_boxes a_desk_words a_desk_weeks a_desk_routes a_desk_offers a_desk_wants a_desk_leaves a_desk_leases a_desk_uses isKept planStands today lack z_rate z_free) := k0X6_rate G a_eb a_desk a_kept a_tape a_text a_plan a_mat a_desk_boxes a_desk_words a_desk_weeks a_desk_routes a_desk_offers a_desk_wants a_desk_leaves a_desk_leases a_desk_uses v1 v2 isKept planStands today lack rate free h
end MX6_rate
/-! EmptyBoxes.use -/
section MX6_use
theorem hdX6_use : yX6_use.cls = RX6 ∧ yX6_use.cls ≠ "java/lang/invoke/MethodHandle" ∧ yX6_use.cls ≠ "java/lang/invoke/VarHandle" ∧ (parseMethodDescriptor yX6_use.desc).map (fun d => d.parameters.length) = some 4 := by decide +kernel
abbrev wX6_use (G : Gt) (a_eb a_desk a_desk_boxes a_desk_boxes_a a_desk_uses a_desk_uses_a a_kept a_tape a_text a_plan a_mat a_desk_words a_desk_weeks a_desk_routes a_desk_offers a_desk_wants a_desk_leaves a_desk_leases : Nat) (isKept : Int32) (planStands : Int32) (today : Int32) (lack : Int32) (rate : Int32) (free : Int32) (boxes_r : Int32) (boxes_f : (Nat → Int32)) (uses_r : Int32) (uses_f : (Nat → Int32)) : va_W := [(a_eb, .inr (6, [.ref a_desk, .ref a_kept, .ref a_tape, .ref a_text, .ref a_plan, .ref a_mat, .int isKept, .int planStands])), (a_desk, .inr (0, [.ref a_desk_boxes, .ref a_desk_words, .ref a_desk_weeks, .ref a_desk_routes, .ref a_desk_offers, .ref a_desk_wants, .ref a_desk_leaves, .ref a_desk_leases, .ref a_desk_uses, .int today, .int lack, .int rate, .int free])), (a_desk_boxes, .inr (4, [.ref a_desk_boxes_a, .int (9 : Int32), .int (24 : Int32), .int boxes_r])), (a_desk_boxes_a, .inl (G.2.1, 216, .inl boxes_f)), (a_desk_uses, .inr (4, [.ref a_desk_uses_a, .int (6 : Int32), .int (40 : Int32), .int uses_r])), (a_desk_uses_a, .inl (G.2.1, 240, .inl uses_f))]
abbrev rmX6_use : Room := { frames := 2, cells := 0, slots := 0, locals := 45 }
theorem iX6_use_X0 : ∀ w ∈ wsX00, w ∈ wsX6_use := by decide +kernel
theorem iX6_use_X6 : ∀ w ∈ wsX60, w ∈ wsX6_use := by decide +kernel
theorem eX6_use_12 : Fk wsX6_use RX6 12 6 0 := ⟨RX6, TX6, 8, rfl, iX6_use_X6, by decide, by decide +kernel⟩
theorem eX6_use_294 : Fk wsX6_use RX6 294 0 8 := ⟨RX0, TX0, 13, rfl, iX6_use_X0, by decide, by decide +kernel⟩
theorem eX6_use_58 : Fk wsX6_use RX6 58 0 9 := ⟨RX0, TX0, 13, rfl, iX6_use_X0, by decide, by decide +kernel⟩
theorem eX6_use_82 : Fk wsX6_use RX6 82 0 0 := ⟨RX0, TX0, 13, rfl, iX6_use_X0, by decide, by decide +kernel⟩
theorem ckX6_use_X4_cell_113 : CkV wsX6_use RX6 113 yX4_cell wsX4_cell cX4_cell 3 (some .int) 2 4 := ⟨RX4, TX4, 4, _, rfl, gX6_use_X4_cell, rfl, hdX4_cell⟩
theorem ckX6_use_X4_grow_92 : CkV wsX6_use RX6 92 yX4_grow wsX4_grow cX4_grow 1 (some .int) 0 4 := ⟨RX4, TX4, 4, _, rfl, gX6_use_X4_grow, rfl, hdX4_grow⟩
theorem ckX6_use_X4_has_110 : CkV wsX6_use RX6 110 yX4_has wsX4_has cX4_has 2 (some .boolean) 1 4 := ⟨RX4, TX4, 4, _, rfl, gX6_use_X4_has, rfl, hdX4_has⟩
theorem ckX6_use_X4_isFull_86 : CkV wsX6_use RX6 86 yX4_isFull wsX4_isFull cX4_isFull 1 (some .boolean) 0 4 := ⟨RX4, TX4, 4, _, rfl, gX6_use_X4_isFull, rfl, hdX4_isFull⟩
theorem ckX6_use_X4_put_96 : CkV wsX6_use RX6 96 yX4_put wsX4_put cX4_put 4 none 3 4 := ⟨RX4, TX4, 4, _, rfl, gX6_use_X4_put, rfl, hdX4_put⟩
theorem ckX6_use_X6_isLine_69 : CkS wsX6_use RX6 69 yX6_isLine wsX6_isLine cX6_isLine 1 (some .boolean) 1 := ⟨_, gX6_use_X6_isLine, rfl, hdX6_isLine.2⟩
theorem ckX6_use_X6_isPastDay_123 : CkV wsX6_use RX6 123 yX6_isPastDay wsX6_isPastDay cX6_isPastDay 2 (some .boolean) 1 6 := ⟨RX6, TX6, 8, _, rfl, gX6_use_X6_isPastDay, rfl, hdX6_isPastDay⟩
variable {p : Program} {l : Launch} {e : Env} {s : State} {m : MethodId} {args : Array Value} {below : List Frame} {meth : Method} {c : Code} {A : Nat → Prop} {G : Gt} {a_eb a_desk a_desk_boxes a_desk_boxes_a a_desk_uses a_desk_uses_a a_kept a_tape a_text a_plan a_mat a_desk_words a_desk_weeks a_desk_routes a_desk_offers a_desk_wants a_desk_leaves a_desk_leases : Nat} {isKept : Int32} {planStands : Int32} {today : Int32} {lack : Int32} {rate : Int32} {free : Int32} {boxes_r : Int32} {boxes_f : (Nat → Int32)} {res : Int32 × Int32 × (Nat → Int32)}
set_option maxHeartbeats 4000000 in
set_option maxRecDepth 100000 in
theorem k0X6_use {l : Launch} (G : Gt) (a_eb a_desk a_desk_boxes a_desk_boxes_a a_desk_uses a_desk_uses_a a_kept a_tape a_text a_plan a_mat a_desk_words a_desk_weeks a_desk_routes a_desk_offers a_desk_wants a_desk_leaves a_desk_leases : Nat) (v1 : Int32) (v2 : Int32) (v3 : Int32) (v4 : Int32) (isKept : Int32) (planStands : Int32) (today : Int32) (lack : Int32) (rate : Int32) (free : Int32) (boxes_r : Int32) (boxes_f : (Nat → Int32)) (uses_r : Int32) (uses_f : (Nat → Int32)) {res : Int32 × Int32 × (Nat → Int32)} (h : fX6_use v1 v2 v3 v4 today boxes_r boxes_f uses_r uses_f = some res) : CtI G l yX6_use wsX6_use rmX6_use [.ref a_eb, .int v1, .int v2, .int v3, .int v4] (wX6_use G a_eb a_desk a_desk_boxes a_desk_boxes_a a_desk_uses a_desk_uses_a a_kept a_tape a_text a_plan a_mat a_desk_words a_desk_weeks a_desk_routes a_desk_offers a_desk_wants a_desk_leaves a_desk_leases isKept planStands today lack rate free boxes_r boxes_f uses_r uses_f) res.1 (wX6_use G a_eb a_desk a_desk_boxes a_desk_boxes_a a_desk_uses a_desk_uses_a a_kept a_tape a_text a_plan a_mat a_desk_words a_desk_weeks a_desk_routes a_desk_offers a_desk_wants a_desk_leaves a_desk_leases isKept planStands today lack rate free boxes_r boxes_f res.2.1 res.2.2) := by
  refine CtI.mk (cc := cX6_use) (maxL := 6) (ret := (some .int)) (own := RX6) (by decide) rfl rfl (Nat.le_of_ble_eq_true rfl) ?_
  intro p e s m below meth c A X ls hl hW
  obtain ⟨hx, hb, -⟩ := id X.1
  have hl : lv_has ls 6 [(0, .ref a_eb), (1, .int v1), (2, .int v2), (3, .int v3), (4, .int v4)] := hl
  generalize hH : s.heap = H at hW ⊢
  generalize hLo : ([] : List Loc) = locs at hW ⊢
  rw [fX6_use] at h
  refine lv_aload_n hx hb dX6_use_0 rfl (lv_at hl 0 rfl) ?_
  refine g_get X hW eX6_use_12 0 rfl rfl dX6_use_1 ?_
  refine g_get X hW eX6_use_82 1 rfl rfl dX6_use_4 ?_
  refine lv_iload_n hx hb dX6_use_7 rfl (lv_at hl 1 rfl) ?_
  obtain ⟨r5, hq, h⟩ := bn1_some h
  refine g_cvi X hW (As := [.int v1]) (ws' := (wX6_use G a_eb a_desk a_desk_boxes a_desk_boxes_a a_desk_uses a_desk_uses_a a_kept a_tape a_text a_plan a_mat a_desk_words a_desk_weeks a_desk_routes a_desk_offers a_desk_wants a_desk_leaves a_desk_leases isKept planStands today lack rate free boxes_r boxes_f uses_r uses_f)) ckX6_use_X4_has_110 (kcX4_has (l := l) G a_desk_boxes a_desk_boxes_a v1 (9 : Int32) (24 : Int32) boxes_r hq) ⟨rfl, rfl, Nat.le_of_ble_eq_true rfl, Nat.le_of_ble_eq_true rfl⟩ [2] rfl rfl rfl rfl rfl rfl rfl hl.1 (Nat.le_of_ble_eq_true rfl) ⟨Nat.zero_le _, Nat.zero_le _⟩ dX6_use_8 (fun H locs hW => ?_)
  refine lv_if_eq (tgt := 44) hx hb dX6_use_11 (by decide) (fun c6 => ?_) (fun c6 => ?_)
  · have h := (if_pos c6).symm.trans h
    refine lv_iconst hx hb dX6_use_44 qI_m1 ?_
    obtain rfl := Option.some.inj h
    exact g_iret X hW dX6_use_45
  · have h := (if_neg c6).symm.trans h
    refine lv_iload_n hx hb dX6_use_14 rfl (lv_at hl 2 rfl) ?_
    obtain ⟨r10, hq, h⟩ := bn1_some h
    refine g_csi X hW (As := [.int v2]) (ws' := (wX6_use G a_eb a_desk a_desk_boxes a_desk_boxes_a a_desk_uses a_desk_uses_a a_kept a_tape a_text a_plan a_mat a_desk_words a_desk_weeks a_desk_routes a_desk_offers a_desk_wants a_desk_leaves a_desk_leases isKept planStands today lack rate free boxes_r boxes_f uses_r uses_f)) ckX6_use_X6_isLine_69 (kcX6_isLine (l := l) G v2 hq) ⟨rfl, rfl, Nat.le_of_ble_eq_true rfl, Nat.le_of_ble_eq_true rfl⟩ [] rfl rfl rfl rfl rfl rfl hl.1 (Nat.le_of_ble_eq_true rfl) ⟨Nat.zero_le _, Nat.zero_le _⟩ dX6_use_15 (fun H locs hW => ?_)
    refine lv_if_eq (tgt := 44) hx hb dX6_use_18 (by decide) (fun c11 => ?_) (fun c11 => ?_)
    · have h := (if_pos c11).symm.trans h
      refine lv_iconst hx hb dX6_use_44 qI_m1 ?_
      obtain rfl := Option.some.inj h
      exact g_iret X hW dX6_use_45
    · have h := (if_neg c11).symm.trans h
      refine lv_aload_n hx hb dX6_use_21 rfl (lv_at hl 0 rfl) ?_
      refine lv_iload_n hx hb dX6_use_22 rfl (lv_at hl 3 rfl) ?_
      obtain ⟨r16, hq, h⟩ := bn1_some h
      refine g_cvi X hW (As := [.int v3]) (ws' := (wX6_use G a_eb a_desk a_desk_boxes a_desk_boxes_a a_desk_uses a_desk_uses_a a_kept a_tape a_text a_plan a_mat a_desk_words a_desk_weeks a_desk_routes a_desk_offers a_desk_wants a_desk_leaves a_desk_leases isKept planStands today lack rate free boxes_r boxes_f uses_r uses_f)) ckX6_use_X6_isPastDay_123 (kcX6_isPastDay (l := l) G a_eb a_desk a_kept a_tape a_text a_plan a_mat a_desk_boxes a_desk_words a_desk_weeks a_desk_routes a_desk_offers a_desk_wants a_desk_leaves a_desk_leases a_desk_uses v3 isKept planStands today lack rate free hq) ⟨rfl, rfl, Nat.le_of_ble_eq_true rfl, Nat.le_of_ble_eq_true rfl⟩ [0, 1] rfl rfl rfl rfl rfl rfl rfl hl.1 (Nat.le_of_ble_eq_true rfl) ⟨Nat.zero_le _, Nat.zero_le _⟩ dX6_use_23 (fun H locs hW => ?_)
      refine lv_if_eq (tgt := 44) hx hb dX6_use_26 (by decide) (fun c17 => ?_) (fun c17 => ?_)
      · have h := (if_pos c17).symm.trans h
        refine lv_iconst hx hb dX6_use_44 qI_m1 ?_
        obtain rfl := Option.some.inj h
        exact g_iret X hW dX6_use_45
      · have h := (if_neg c17).symm.trans h
        refine lv_aload_n hx hb dX6_use_29 rfl (lv_at hl 0 rfl) ?_
        refine lv_iload hx hb dX6_use_30 (lv_at hl 4 rfl) ?_
        obtain ⟨r22, hq, h⟩ := bn1_some h
        refine g_cvi X hW (As := [.int v4]) (ws' := (wX6_use G a_eb a_desk a_desk_boxes a_desk_boxes_a a_desk_uses a_desk_uses_a a_kept a_tape a_text a_plan a_mat a_desk_words a_desk_weeks a_desk_routes a_desk_offers a_desk_wants a_desk_leaves a_desk_leases isKept planStands today lack rate free boxes_r boxes_f uses_r uses_f)) ckX6_use_X6_isPastDay_123 (kcX6_isPastDay (l := l) G a_eb a_desk a_kept a_tape a_text a_plan a_mat a_desk_boxes a_desk_words a_desk_weeks a_desk_routes a_desk_offers a_desk_wants a_desk_leaves a_desk_leases a_desk_uses v4 isKept planStands today lack rate free hq) ⟨rfl, rfl, Nat.le_of_ble_eq_true rfl, Nat.le_of_ble_eq_true rfl⟩ [0, 1] rfl rfl rfl rfl rfl rfl rfl hl.1 (Nat.le_of_ble_eq_true rfl) ⟨Nat.zero_le _, Nat.zero_le _⟩ dX6_use_32 (fun H locs hW => ?_)
        refine lv_if_eq (tgt := 44) hx hb dX6_use_35 (by decide) (fun c23 => ?_) (fun c23 => ?_)
        · have h := (if_pos c23).symm.trans h
          refine lv_iconst hx hb dX6_use_44 qI_m1 ?_
          obtain rfl := Option.some.inj h
          exact g_iret X hW dX6_use_45
        · have h := (if_neg c23).symm.trans h
          refine lv_iload hx hb dX6_use_38 (lv_at hl 4 rfl) ?_
          refine lv_iload_n hx hb dX6_use_40 rfl (lv_at hl 3 rfl) ?_
          refine lv_icmp_ge (tgt := 46) hx hb dX6_use_41 (by decide) (fun c28 => ?_) (fun c28 => ?_)
          · have h := (if_pos c28).symm.trans h
            refine lv_aload_n hx hb dX6_use_46 rfl (lv_at hl 0 rfl) ?_
            refine g_get X hW eX6_use_12 0 rfl rfl dX6_use_47 ?_
            refine g_get X hW eX6_use_82 1 rfl rfl dX6_use_50 ?_
            refine lv_iload_n hx hb dX6_use_53 rfl (lv_at hl 1 rfl) ?_
            refine lv_iconst hx hb dX6_use_54 qI_2 ?_
            obtain ⟨r34, hq, h⟩ := bn1_some h
            refine g_cvi X hW (As := [.int v1, .int (2 : Int32)]) (ws' := (wX6_use G a_eb a_desk a_desk_boxes a_desk_boxes_a a_desk_uses a_desk_uses_a a_kept a_tape a_text a_plan a_mat a_desk_words a_desk_weeks a_desk_routes a_desk_offers a_desk_wants a_desk_leaves a_desk_leases isKept planStands today lack rate free boxes_r boxes_f uses_r uses_f)) ckX6_use_X4_cell_113 (kcX4_cell (l := l) G a_desk_boxes a_desk_boxes_a v1 (2 : Int32) (9 : Int32) (24 : Int32) boxes_r 216 boxes_f hq) ⟨rfl, rfl, Nat.le_of_ble_eq_true rfl, Nat.le_of_ble_eq_true rfl⟩ [2, 3] rfl rfl rfl rfl rfl rfl rfl hl.1 (Nat.le_of_ble_eq_true rfl) ⟨Nat.zero_le _, Nat.zero_le _⟩ dX6_use_55 (fun H locs hW => ?_)
            refine lv_iload_n hx hb dX6_use_58 rfl (lv_at hl 2 rfl) ?_
            refine lv_icmp_ne (tgt := 65) hx hb dX6_use_59 (by decide) (fun c36 => ?_) (fun c36 => ?_)
            · have h := (if_neg c36).symm.trans h
              refine lv_aload_n hx hb dX6_use_65 rfl (lv_at hl 0 rfl) ?_
              refine g_get X hW eX6_use_12 0 rfl rfl dX6_use_66 ?_
              refine g_get X hW eX6_use_294 1 rfl rfl dX6_use_69 ?_
              obtain ⟨r40, hq, h⟩ := bn1_some h
              refine g_cvi X hW (As := []) (ws' := (wX6_use G a_eb a_desk a_desk_boxes a_desk_boxes_a a_desk_uses a_desk_uses_a a_kept a_tape a_text a_plan a_mat a_desk_words a_desk_weeks a_desk_routes a_desk_offers a_desk_wants a_desk_leaves a_desk_leases isKept planStands today lack rate free boxes_r boxes_f uses_r uses_f)) ckX6_use_X4_isFull_86 (kcX4_isFull (l := l) G a_desk_uses a_desk_uses_a (6 : Int32) (40 : Int32) uses_r hq) ⟨rfl, rfl, Nat.le_of_ble_eq_true rfl, Nat.le_of_ble_eq_true rfl⟩ [4] rfl rfl rfl rfl rfl rfl rfl hl.1 (Nat.le_of_ble_eq_true rfl) ⟨Nat.zero_le _, Nat.zero_le _⟩ dX6_use_72 (fun H locs hW => ?_)
              refine lv_if_eq (tgt := 81) hx hb dX6_use_75 (by decide) (fun c41 => ?_) (fun c41 => ?_)
              · have h := (if_pos c41).symm.trans h
                refine lv_aload_n hx hb dX6_use_81 rfl (lv_at hl 0 rfl) ?_
                refine g_get X hW eX6_use_12 0 rfl rfl dX6_use_82 ?_
                refine g_get X hW eX6_use_294 1 rfl rfl dX6_use_85 ?_
                obtain ⟨r45, o45_tb_r, hq, h⟩ := bn2_some h
                refine g_cvi X hW (As := []) (ws' := (wX6_use G a_eb a_desk a_desk_boxes a_desk_boxes_a a_desk_uses a_desk_uses_a a_kept a_tape a_text a_plan a_mat a_desk_words a_desk_weeks a_desk_routes a_desk_offers a_desk_wants a_desk_leaves a_desk_leases isKept planStands today lack rate free boxes_r boxes_f o45_tb_r uses_f)) ckX6_use_X4_grow_92 (kcX4_grow (l := l) G a_desk_uses a_desk_uses_a (6 : Int32) (40 : Int32) uses_r hq) ⟨rfl, rfl, Nat.le_of_ble_eq_true rfl, Nat.le_of_ble_eq_true rfl⟩ [4] rfl rfl rfl rfl rfl rfl rfl hl.1 (Nat.le_of_ble_eq_true rfl) ⟨Nat.zero_le _, Nat.zero_le _⟩ dX6_use_88 (fun H locs hW => ?_)
                refine lv_istore (lv' := [(5, .int r45), (0, .ref a_eb), (1, .int v1), (2, .int v2), (3, .int v3), (4, .int v4)]) hx hb dX6_use_91 hl (by decide) rfl (fun ls hl => ?_)
                refine lv_aload_n hx hb dX6_use_93 rfl (lv_at hl 1 rfl) ?_
                refine g_get X hW eX6_use_12 0 rfl rfl dX6_use_94 ?_
                refine g_get X hW eX6_use_294 1 rfl rfl dX6_use_97 ?_
                refine lv_iload hx hb dX6_use_100 (lv_at hl 0 rfl) ?_
                refine lv_iconst hx hb dX6_use_102 qI_0 ?_
                refine lv_iload_n hx hb dX6_use_103 rfl (lv_at hl 2 rfl) ?_
                obtain ⟨o53_tb_f, hq, h⟩ := bn1_some h
                refine g_cvv X hW (As := [.int r45, .int (0 : Int32), .int v1]) (ws' := (wX6_use G a_eb a_desk a_desk_boxes a_desk_boxes_a a_desk_uses a_desk_uses_a a_kept a_tape a_text a_plan a_mat a_desk_words a_desk_weeks a_desk_routes a_desk_offers a_desk_wants a_desk_leaves a_desk_leases isKept planStands today lack rate free boxes_r boxes_f o45_tb_r o53_tb_f)) ckX6_use_X4_put_96 (kcX4_put (l := l) G a_desk_uses a_desk_uses_a r45 (0 : Int32) v1 (6 : Int32) (40 : Int32) o45_tb_r 240 uses_f hq) ⟨rfl, rfl, Nat.le_of_ble_eq_true rfl, Nat.le_of_ble_eq_true rfl⟩ [4, 5] rfl rfl rfl rfl rfl rfl rfl hl.1 (Nat.le_of_ble_eq_true rfl) ⟨Nat.zero_le _, Nat.zero_le _⟩ dX6_use_104 (fun H locs hW => ?_)
                refine lv_aload_n hx hb dX6_use_107 rfl (lv_at hl 1 rfl) ?_
                refine g_get X hW eX6_use_12 0 rfl rfl dX6_use_108 ?_
                refine g_get X hW eX6_use_294 1 rfl rfl dX6_use_111 ?_
                refine lv_iload hx hb dX6_use_114 (lv_at hl 0 rfl) ?_
                refine lv_iconst hx hb dX6_use_116 qI_1 ?_
                refine lv_iload_n hx hb dX6_use_117 rfl (lv_at hl 3 rfl) ?_
                obtain ⟨o60_tb_f, hq, h⟩ := bn1_some h
                refine g_cvv X hW (As := [.int r45, .int (1 : Int32), .int v2]) (ws' := (wX6_use G a_eb a_desk a_desk_boxes a_desk_boxes_a a_desk_uses a_desk_uses_a a_kept a_tape a_text a_plan a_mat a_desk_words a_desk_weeks a_desk_routes a_desk_offers a_desk_wants a_desk_leaves a_desk_leases isKept planStands today lack rate free boxes_r boxes_f o45_tb_r o60_tb_f)) ckX6_use_X4_put_96 (kcX4_put (l := l) G a_desk_uses a_desk_uses_a r45 (1 : Int32) v2 (6 : Int32) (40 : Int32) o45_tb_r 240 o53_tb_f hq) ⟨rfl, rfl, Nat.le_of_ble_eq_true rfl, Nat.le_of_ble_eq_true rfl⟩ [4, 5] rfl rfl rfl rfl rfl rfl rfl hl.1 (Nat.le_of_ble_eq_true rfl) ⟨Nat.zero_le _, Nat.zero_le _⟩ dX6_use_118 (fun H locs hW => ?_)
                refine lv_aload_n hx hb dX6_use_121 rfl (lv_at hl 1 rfl) ?_
                refine g_get X hW eX6_use_12 0 rfl rfl dX6_use_122 ?_
                refine g_get X hW eX6_use_294 1 rfl rfl dX6_use_125 ?_
                refine lv_iload hx hb dX6_use_128 (lv_at hl 0 rfl) ?_
                refine lv_iconst hx hb dX6_use_130 qI_2 ?_
                refine lv_iload_n hx hb dX6_use_131 rfl (lv_at hl 4 rfl) ?_
                obtain ⟨o67_tb_f, hq, h⟩ := bn1_some h
                refine g_cvv X hW (As := [.int r45, .int (2 : Int32), .int v3]) (ws' := (wX6_use G a_eb a_desk a_desk_boxes a_desk_boxes_a a_desk_uses a_desk_uses_a a_kept a_tape a_text a_plan a_mat a_desk_words a_desk_weeks a_desk_routes a_desk_offers a_desk_wants a_desk_leaves a_desk_leases isKept planStands today lack rate free boxes_r boxes_f o45_tb_r o67_tb_f)) ckX6_use_X4_put_96 (kcX4_put (l := l) G a_desk_uses a_desk_uses_a r45 (2 : Int32) v3 (6 : Int32) (40 : Int32) o45_tb_r 240 o60_tb_f hq) ⟨rfl, rfl, Nat.le_of_ble_eq_true rfl, Nat.le_of_ble_eq_true rfl⟩ [4, 5] rfl rfl rfl rfl rfl rfl rfl hl.1 (Nat.le_of_ble_eq_true rfl) ⟨Nat.zero_le _, Nat.zero_le _⟩ dX6_use_132 (fun H locs hW => ?_)
                refine lv_aload_n hx hb dX6_use_135 rfl (lv_at hl 1 rfl) ?_
                refine g_get X hW eX6_use_12 0 rfl rfl dX6_use_136 ?_
                refine g_get X hW eX6_use_294 1 rfl rfl dX6_use_139 ?_
                refine lv_iload hx hb dX6_use_142 (lv_at hl 0 rfl) ?_
                refine lv_iconst hx hb dX6_use_144 qI_3 ?_
                refine lv_iload hx hb dX6_use_145 (lv_at hl 5 rfl) ?_
                obtain ⟨o74_tb_f, hq, h⟩ := bn1_some h
                refine g_cvv X hW (As := [.int r45, .int (3 : Int32), .int v4]) (ws' := (wX6_use G a_eb a_desk a_desk_boxes a_desk_boxes_a a_desk_uses a_desk_uses_a a_kept a_tape a_text a_plan a_mat a_desk_words a_desk_weeks a_desk_routes a_desk_offers a_desk_wants a_desk_leaves a_desk_leases isKept planStands today lack rate free boxes_r boxes_f o45_tb_r o74_tb_f)) ckX6_use_X4_put_96 (kcX4_put (l := l) G a_desk_uses a_desk_uses_a r45 (3 : Int32) v4 (6 : Int32) (40 : Int32) o45_tb_r 240 o67_tb_f hq) ⟨rfl, rfl, Nat.le_of_ble_eq_true rfl, Nat.le_of_ble_eq_true rfl⟩ [4, 5] rfl rfl rfl rfl rfl rfl rfl hl.1 (Nat.le_of_ble_eq_true rfl) ⟨Nat.zero_le _, Nat.zero_le _⟩ dX6_use_147 (fun H locs hW => ?_)
                refine lv_aload_n hx hb dX6_use_150 rfl (lv_at hl 1 rfl) ?_
                refine g_get X hW eX6_use_12 0 rfl rfl dX6_use_151 ?_
                refine g_get X hW eX6_use_294 1 rfl rfl dX6_use_154 ?_
                refine lv_iload hx hb dX6_use_157 (lv_at hl 0 rfl) ?_
                refine lv_iconst hx hb dX6_use_159 qI_4 ?_
                refine lv_aload_n hx hb dX6_use_160 rfl (lv_at hl 1 rfl) ?_
                refine g_get X hW eX6_use_12 0 rfl rfl dX6_use_161 ?_
                refine g_get X hW eX6_use_58 1 rfl rfl dX6_use_164 ?_
                obtain ⟨o83_tb_f, hq, h⟩ := bn1_some h
                refine g_cvv X hW (As := [.int r45, .int (4 : Int32), .int today]) (ws' := (wX6_use G a_eb a_desk a_desk_boxes a_desk_boxes_a a_desk_uses a_desk_uses_a a_kept a_tape a_text a_plan a_mat a_desk_words a_desk_weeks a_desk_routes a_desk_offers a_desk_wants a_desk_leaves a_desk_leases isKept planStands today lack rate free boxes_r boxes_f o45_tb_r o83_tb_f)) ckX6_use_X4_put_96 (kcX4_put (l := l) G a_desk_uses a_desk_uses_a r45 (4 : Int32) today (6 : Int32) (40 : Int32) o45_tb_r 240 o74_tb_f hq) ⟨rfl, rfl, Nat.le_of_ble_eq_true rfl, Nat.le_of_ble_eq_true rfl⟩ [4, 5] rfl rfl rfl rfl rfl rfl rfl hl.1 (Nat.le_of_ble_eq_true rfl) ⟨Nat.zero_le _, Nat.zero_le _⟩ dX6_use_167 (fun H locs hW => ?_)
                refine lv_aload_n hx hb dX6_use_170 rfl (lv_at hl 1 rfl) ?_
                refine g_get X hW eX6_use_12 0 rfl rfl dX6_use_171 ?_
                refine g_get X hW eX6_use_294 1 rfl rfl dX6_use_174 ?_
                refine lv_iload hx hb dX6_use_177 (lv_at hl 0 rfl) ?_
                refine lv_iconst hx hb dX6_use_179 qI_5 ?_
                refine lv_sipush hx hb dX6_use_180 qS_201 ?_
                obtain ⟨o90_tb_f, hq, h⟩ := bn1_some h
                refine g_cvv X hW (As := [.int r45, .int (5 : Int32), .int (201 : Int32)]) (ws' := (wX6_use G a_eb a_desk a_desk_boxes a_desk_boxes_a a_desk_uses a_desk_uses_a a_kept a_tape a_text a_plan a_mat a_desk_words a_desk_weeks a_desk_routes a_desk_offers a_desk_wants a_desk_leaves a_desk_leases isKept planStands today lack rate free boxes_r boxes_f o45_tb_r o90_tb_f)) ckX6_use_X4_put_96 (kcX4_put (l := l) G a_desk_uses a_desk_uses_a r45 (5 : Int32) (201 : Int32) (6 : Int32) (40 : Int32) o45_tb_r 240 o83_tb_f hq) ⟨rfl, rfl, Nat.le_of_ble_eq_true rfl, Nat.le_of_ble_eq_true rfl⟩ [4, 5] rfl rfl rfl rfl rfl rfl rfl hl.1 (Nat.le_of_ble_eq_true rfl) ⟨Nat.zero_le _, Nat.zero_le _⟩ dX6_use_183 (fun H locs hW => ?_)
                refine lv_iload hx hb dX6_use_186 (lv_at hl 0 rfl) ?_
                obtain rfl := Option.some.inj h
                exact g_iret X hW dX6_use_188
              · have h := (if_neg c41).symm.trans h
                refine lv_bipush hx hb dX6_use_78 qB_m2 ?_
                obtain rfl := Option.some.inj h
                exact g_iret X hW dX6_use_80
            · have h := (if_pos c36).symm.trans h
              refine lv_bipush hx hb dX6_use_62 qB_m4 ?_
              obtain rfl := Option.some.inj h
              exact g_iret X hW dX6_use_64
          · have h := (if_neg c28).symm.trans h
            refine lv_iconst hx hb dX6_use_44 qI_m1 ?_
            obtain rfl := Option.some.inj h
            exact g_iret X hW dX6_use_45
theorem kcX6_use {l : Launch} (G : Gt) (a_eb a_desk a_desk_boxes a_desk_boxes_a a_desk_uses a_desk_uses_a a_kept a_tape a_text a_plan a_mat a_desk_words a_desk_weeks a_desk_routes a_desk_offers a_desk_wants a_desk_leaves a_desk_leases : Nat) (v1 : Int32) (v2 : Int32) (v3 : Int32) (v4 : Int32) (isKept : Int32) (planStands : Int32) (today : Int32) (lack : Int32) (rate : Int32) (free : Int32) (boxes_r : Int32) (boxes_f : (Nat → Int32)) (uses_r : Int32) (uses_f : (Nat → Int32)) {r : Int32} {z_uses_r : Int32} {z_uses_f : (Nat → Int32)} (h : fX6_use v1 v2 v3 v4 today boxes_r boxes_f uses_r uses_f = some (r, z_uses_r, z_uses_f)) : CtI G l yX6_use wsX6_use rmX6_use [.ref a_eb, .int v1, .int v2, .int v3, .int v4] (wX6_use G a_eb a_desk a_desk_boxes a_desk_boxes_a a_desk_uses a_desk_uses_a a_kept a_tape a_text a_plan a_mat a_desk_words a_desk_weeks a_desk_routes a_desk_offers a_desk_wants a_desk_leaves a_desk_leases isKept planStands today lack rate free boxes_r boxes_f uses_r uses_f) r (wX6_use G a_eb a_desk a_desk_boxes a_desk_boxes_a a_desk_uses a_desk_uses_a a_kept a_tape a_text a_plan a_mat a_desk_words a_desk_weeks a_desk_routes a_desk_offers a_desk_wants a_desk_leaves a_desk_leases isKept planStands today lack rate free boxes_r boxes_f z_uses_r z_uses_f) := k0X6_use G a_eb a_desk a_desk_boxes a_desk_boxes_a a_desk_uses a_desk_uses_a a_kept a_tape a_text a_plan a_mat a_desk_words a_desk_weeks a_desk_routes a_desk_offers a_desk_wants a_desk_leaves a_desk_leases v1 v2 v3 v4 isKept planStands today lack rate free boxes_r boxes_f uses_r uses_f h
end MX6_use
/-! EmptyBoxes.useWorth -/
section MX6_useWorth
theorem hdX6_useWorth : yX6_useWorth.cls = RX6 ∧ yX6_useWorth.cls ≠ "java/lang/invoke/MethodHandle" ∧ yX6_useWorth.cls ≠ "java/lang/invoke/VarHandle" ∧ (parseMethodDescriptor yX6_useWorth.desc).map (fun d => d.parameters.length) = some 1 := by decide +kernel
abbrev wX6_useWorth (G : Gt) (a_eb a_desk a_desk_uses a_desk_uses_a a_kept a_tape a_text a_plan a_mat a_desk_boxes a_desk_words a_desk_weeks a_desk_routes a_desk_offers a_desk_wants a_desk_leaves a_desk_leases : Nat) (isKept : Int32) (planStands : Int32) (today : Int32) (lack : Int32) (rate : Int32) (free : Int32) (uses_r : Int32) (uses_f : (Nat → Int32)) : va_W := [(a_eb, .inr (6, [.ref a_desk, .ref a_kept, .ref a_tape, .ref a_text, .ref a_plan, .ref a_mat, .int isKept, .int planStands])), (a_desk, .inr (0, [.ref a_desk_boxes, .ref a_desk_words, .ref a_desk_weeks, .ref a_desk_routes, .ref a_desk_offers, .ref a_desk_wants, .ref a_desk_leaves, .ref a_desk_leases, .ref a_desk_uses, .int today, .int lack, .int rate, .int free])), (a_desk_uses, .inr (4, [.ref a_desk_uses_a, .int (6 : Int32), .int (40 : Int32), .int uses_r])), (a_desk_uses_a, .inl (G.2.1, 240, .inl uses_f))]
abbrev rmX6_useWorth : Room := { frames := 2, cells := 0, slots := 0, locals := 44 }
theorem iX6_useWorth_X0 : ∀ w ∈ wsX00, w ∈ wsX6_useWorth := by decide +kernel
theorem iX6_useWorth_X6 : ∀ w ∈ wsX60, w ∈ wsX6_useWorth := by decide +kernel
theorem eX6_useWorth_12 : Fk wsX6_useWorth RX6 12 6 0 := ⟨RX6, TX6, 8, rfl, iX6_useWorth_X6, by decide, by decide +kernel⟩
theorem eX6_useWorth_288 : Fk wsX6_useWorth RX6 288 0 11 := ⟨RX0, TX0, 13, rfl, iX6_useWorth_X0, by decide, by decide +kernel⟩
theorem eX6_useWorth_291 : Fk wsX6_useWorth RX6 291 0 12 := ⟨RX0, TX0, 13, rfl, iX6_useWorth_X0, by decide, by decide +kernel⟩
theorem eX6_useWorth_294 : Fk wsX6_useWorth RX6 294 0 8 := ⟨RX0, TX0, 13, rfl, iX6_useWorth_X0, by decide, by decide +kernel⟩
theorem ckX6_useWorth_X4_cell_113 : CkV wsX6_useWorth RX6 113 yX4_cell wsX4_cell cX4_cell 3 (some .int) 2 4 := ⟨RX4, TX4, 4, _, rfl, gX6_useWorth_X4_cell, rfl, hdX4_cell⟩
theorem cmX6_useWorth_285 : CkM wsX6_useWorth RX6 285 Lib.Math.max.name Lib.Math.max.code 2 := by decide +kernel
variable {p : Program} {l : Launch} {e : Env} {s : State} {m : MethodId} {args : Array Value} {below : List Frame} {meth : Method} {c : Code} {A : Nat → Prop} {G : Gt} {a_eb a_desk a_desk_uses a_desk_uses_a a_kept a_tape a_text a_plan a_mat a_desk_boxes a_desk_words a_desk_weeks a_desk_routes a_desk_offers a_desk_wants a_desk_leaves a_desk_leases : Nat} {isKept : Int32} {planStands : Int32} {today : Int32} {lack : Int32} {rate : Int32} {free : Int32} {uses_r : Int32} {uses_f : (Nat → Int32)} {res : Int32}
set_option maxHeartbeats 4000000 in
set_option maxRecDepth 100000 in
theorem k0X6_useWorth {l : Launch} (G : Gt) (a_eb a_desk a_desk_uses a_desk_uses_a a_kept a_tape a_text a_plan a_mat a_desk_boxes a_desk_words a_desk_weeks a_desk_routes a_desk_offers a_desk_wants a_desk_leaves a_desk_leases : Nat) (v1 : Int32) (isKept : Int32) (planStands : Int32) (today : Int32) (lack : Int32) (rate : Int32) (free : Int32) (uses_r : Int32) (uses_f : (Nat → Int32)) {res : Int32} (h : fX6_useWorth v1 rate free uses_r uses_f = some res) : CtI G l yX6_useWorth wsX6_useWorth rmX6_useWorth [.ref a_eb, .int v1] (wX6_useWorth G a_eb a_desk a_desk_uses a_desk_uses_a a_kept a_tape a_text a_plan a_mat a_desk_boxes a_desk_words a_desk_weeks a_desk_routes a_desk_offers a_desk_wants a_desk_leaves a_desk_leases isKept planStands today lack rate free uses_r uses_f) res (wX6_useWorth G a_eb a_desk a_desk_uses a_desk_uses_a a_kept a_tape a_text a_plan a_mat a_desk_boxes a_desk_words a_desk_weeks a_desk_routes a_desk_offers a_desk_wants a_desk_leaves a_desk_leases isKept planStands today lack rate free uses_r uses_f) := by
  refine CtI.mk (cc := cX6_useWorth) (maxL := 3) (ret := (some .int)) (own := RX6) (by decide) rfl rfl (Nat.le_of_ble_eq_true rfl) ?_
  intro p e s m below meth c A X ls hl hW
  obtain ⟨hx, hb, -⟩ := id X.1
  have hl : lv_has ls 3 [(0, .ref a_eb), (1, .int v1)] := hl
  generalize hH : s.heap = H at hW ⊢
  generalize hLo : ([] : List Loc) = locs at hW ⊢
  rw [fX6_useWorth] at h
  refine lv_aload_n hx hb dX6_useWorth_0 rfl (lv_at hl 0 rfl) ?_
  refine g_get X hW eX6_useWorth_12 0 rfl rfl dX6_useWorth_1 ?_
  refine g_get X hW eX6_useWorth_294 1 rfl rfl dX6_useWorth_4 ?_
  refine lv_iload_n hx hb dX6_useWorth_7 rfl (lv_at hl 1 rfl) ?_
  refine lv_iconst hx hb dX6_useWorth_8 qI_3 ?_
  obtain ⟨r6, hq, h⟩ := bn1_some h
  refine g_cvi X hW (As := [.int v1, .int (3 : Int32)]) (ws' := (wX6_useWorth G a_eb a_desk a_desk_uses a_desk_uses_a a_kept a_tape a_text a_plan a_mat a_desk_boxes a_desk_words a_desk_weeks a_desk_routes a_desk_offers a_desk_wants a_desk_leaves a_desk_leases isKept planStands today lack rate free uses_r uses_f)) ckX6_useWorth_X4_cell_113 (kcX4_cell (l := l) G a_desk_uses a_desk_uses_a v1 (3 : Int32) (6 : Int32) (40 : Int32) uses_r 240 uses_f hq) ⟨rfl, rfl, Nat.le_of_ble_eq_true rfl, Nat.le_of_ble_eq_true rfl⟩ [2, 3] rfl rfl rfl rfl rfl rfl rfl hl.1 (Nat.le_of_ble_eq_true rfl) ⟨Nat.zero_le _, Nat.zero_le _⟩ dX6_useWorth_9 (fun H locs hW => ?_)
  refine lv_aload_n hx hb dX6_useWorth_12 rfl (lv_at hl 0 rfl) ?_
  refine g_get X hW eX6_useWorth_12 0 rfl rfl dX6_useWorth_13 ?_
  refine g_get X hW eX6_useWorth_294 1 rfl rfl dX6_useWorth_16 ?_
  refine lv_iload_n hx hb dX6_useWorth_19 rfl (lv_at hl 1 rfl) ?_
  refine lv_iconst hx hb dX6_useWorth_20 qI_2 ?_
  obtain ⟨r12, hq, h⟩ := bn1_some h
  refine g_cvi X hW (As := [.int v1, .int (2 : Int32)]) (ws' := (wX6_useWorth G a_eb a_desk a_desk_uses a_desk_uses_a a_kept a_tape a_text a_plan a_mat a_desk_boxes a_desk_words a_desk_weeks a_desk_routes a_desk_offers a_desk_wants a_desk_leaves a_desk_leases isKept planStands today lack rate free uses_r uses_f)) ckX6_useWorth_X4_cell_113 (kcX4_cell (l := l) G a_desk_uses a_desk_uses_a v1 (2 : Int32) (6 : Int32) (40 : Int32) uses_r 240 uses_f hq) ⟨rfl, rfl, Nat.le_of_ble_eq_true rfl, Nat.le_of_ble_eq_true rfl⟩ [2, 3] rfl rfl rfl rfl rfl rfl rfl hl.1 (Nat.le_of_ble_eq_true rfl) ⟨Nat.zero_le _, Nat.zero_le _⟩ dX6_useWorth_21 (fun H locs hW => ?_)
  refine lv_isub hx hb dX6_useWorth_24 ?_
  refine lv_iconst hx hb dX6_useWorth_25 qI_1 ?_
  refine lv_iadd hx hb dX6_useWorth_26 ?_
  refine lv_istore_n (lv' := [(2, .int ((r6 - r12) + (1 : Int32))), (0, .ref a_eb), (1, .int v1)]) hx hb dX6_useWorth_27 rfl hl (by decide) rfl (fun ls hl => ?_)
  refine lv_iconst hx hb dX6_useWorth_28 qI_0 ?_
  refine lv_iload_n hx hb dX6_useWorth_29 rfl (lv_at hl 0 rfl) ?_
  refine lv_aload_n hx hb dX6_useWorth_30 rfl (lv_at hl 1 rfl) ?_
  refine g_get X hW eX6_useWorth_12 0 rfl rfl dX6_useWorth_31 ?_
  refine g_get X hW eX6_useWorth_291 1 rfl rfl dX6_useWorth_34 ?_
  refine lv_isub hx hb dX6_useWorth_37 ?_
  refine g_mmax X cmX6_useWorth_285 hl.1 (Nat.le_of_ble_eq_true rfl) (Nat.le_of_ble_eq_true rfl) ⟨Nat.zero_le _, Nat.zero_le _⟩ dX6_useWorth_38 ?_
  refine lv_aload_n hx hb dX6_useWorth_41 rfl (lv_at hl 1 rfl) ?_
  refine g_get X hW eX6_useWorth_12 0 rfl rfl dX6_useWorth_42 ?_
  refine g_get X hW eX6_useWorth_288 1 rfl rfl dX6_useWorth_45 ?_
  refine lv_imul hx hb dX6_useWorth_48 ?_
  obtain rfl := Option.some.inj h
  exact g_iret X hW dX6_useWorth_49
theorem kcX6_useWorth {l : Launch} (G : Gt) (a_eb a_desk a_desk_uses a_desk_uses_a a_kept a_tape a_text a_plan a_mat a_desk_boxes a_desk_words a_desk_weeks a_desk_routes a_desk_offers a_desk_wants a_desk_leaves a_desk_leases : Nat) (v1 : Int32) (isKept : Int32) (planStands : Int32) (today : Int32) (lack : Int32) (rate : Int32) (free : Int32) (uses_r : Int32) (uses_f : (Nat → Int32)) {r : Int32}  (h : fX6_useWorth v1 rate free uses_r uses_f = some r) : CtI G l yX6_useWorth wsX6_useWorth rmX6_useWorth [.ref a_eb, .int v1] (wX6_useWorth G a_eb a_desk a_desk_uses a_desk_uses_a a_kept a_tape a_text a_plan a_mat a_desk_boxes a_desk_words a_desk_weeks a_desk_routes a_desk_offers a_desk_wants a_desk_leaves a_desk_leases isKept planStands today lack rate free uses_r uses_f) r (wX6_useWorth G a_eb a_desk a_desk_uses a_desk_uses_a a_kept a_tape a_text a_plan a_mat a_desk_boxes a_desk_words a_desk_weeks a_desk_routes a_desk_offers a_desk_wants a_desk_leaves a_desk_leases isKept planStands today lack rate free uses_r uses_f) := k0X6_useWorth G a_eb a_desk a_desk_uses a_desk_uses_a a_kept a_tape a_text a_plan a_mat a_desk_boxes a_desk_words a_desk_weeks a_desk_routes a_desk_offers a_desk_wants a_desk_leaves a_desk_leases v1 isKept planStands today lack rate free uses_r uses_f h
end MX6_useWorth
/-! EmptyBoxes.strike -/
section MX6_strike
theorem hdX6_strike : yX6_strike.cls = RX6 ∧ yX6_strike.cls ≠ "java/lang/invoke/MethodHandle" ∧ yX6_strike.cls ≠ "java/lang/invoke/VarHandle" ∧ (parseMethodDescriptor yX6_strike.desc).map (fun d => d.parameters.length) = some 1 := by decide +kernel
abbrev wX6_strike (G : Gt) (a_eb a_desk a_desk_uses a_desk_uses_a a_kept a_tape a_text a_plan a_mat a_desk_boxes a_desk_words a_desk_weeks a_desk_routes a_desk_offers a_desk_wants a_desk_leaves a_desk_leases : Nat) (isKept : Int32) (planStands : Int32) (today : Int32) (lack : Int32) (rate : Int32) (free : Int32) (uses_r : Int32) (uses_f : (Nat → Int32)) : va_W := [(a_eb, .inr (6, [.ref a_desk, .ref a_kept, .ref a_tape, .ref a_text, .ref a_plan, .ref a_mat, .int isKept, .int planStands])), (a_desk, .inr (0, [.ref a_desk_boxes, .ref a_desk_words, .ref a_desk_weeks, .ref a_desk_routes, .ref a_desk_offers, .ref a_desk_wants, .ref a_desk_leaves, .ref a_desk_leases, .ref a_desk_uses, .int today, .int lack, .int rate, .int free])), (a_desk_uses, .inr (4, [.ref a_desk_uses_a, .int (6 : Int32), .int (40 : Int32), .int uses_r])), (a_desk_uses_a, .inl (G.2.1, 240, .inl uses_f))]
abbrev rmX6_strike : Room := { frames := 3, cells := 0, slots := 0, locals := 66 }
theorem iX6_strike_X0 : ∀ w ∈ wsX00, w ∈ wsX6_strike := by decide +kernel
theorem iX6_strike_X6 : ∀ w ∈ wsX60, w ∈ wsX6_strike := by decide +kernel
theorem eX6_strike_12 : Fk wsX6_strike RX6 12 6 0 := ⟨RX6, TX6, 8, rfl, iX6_strike_X6, by decide, by decide +kernel⟩
theorem eX6_strike_294 : Fk wsX6_strike RX6 294 0 8 := ⟨RX0, TX0, 13, rfl, iX6_strike_X0, by decide, by decide +kernel⟩
theorem eX6_strike_58 : Fk wsX6_strike RX6 58 0 9 := ⟨RX0, TX0, 13, rfl, iX6_strike_X0, by decide, by decide +kernel⟩
theorem ckX6_strike_X4_cell_113 : CkV wsX6_strike RX6 113 yX4_cell wsX4_cell cX4_cell 3 (some .int) 2 4 := ⟨RX4, TX4, 4, _, rfl, gX6_strike_X4_cell, rfl, hdX4_cell⟩
theorem ckX6_strike_X4_has_110 : CkV wsX6_strike RX6 110 yX4_has wsX4_has cX4_has 2 (some .boolean) 1 4 := ⟨RX4, TX4, 4, _, rfl, gX6_strike_X4_has, rfl, hdX4_has⟩
theorem ckX6_strike_X4_put_96 : CkV wsX6_strike RX6 96 yX4_put wsX4_put cX4_put 4 none 3 4 := ⟨RX4, TX4, 4, _, rfl, gX6_strike_X4_put, rfl, hdX4_put⟩
theorem ckX6_strike_X6_useWorth_297 : CkV wsX6_strike RX6 297 yX6_useWorth wsX6_useWorth cX6_useWorth 3 (some .int) 1 6 := ⟨RX6, TX6, 8, _, rfl, gX6_strike_X6_useWorth, rfl, hdX6_useWorth⟩
variable {p : Program} {l : Launch} {e : Env} {s : State} {m : MethodId} {args : Array Value} {below : List Frame} {meth : Method} {c : Code} {A : Nat → Prop} {G : Gt} {a_eb a_desk a_desk_uses a_desk_uses_a a_kept a_tape a_text a_plan a_mat a_desk_boxes a_desk_words a_desk_weeks a_desk_routes a_desk_offers a_desk_wants a_desk_leaves a_desk_leases : Nat} {isKept : Int32} {planStands : Int32} {today : Int32} {lack : Int32} {rate : Int32} {free : Int32} {uses_r : Int32} {res : Int32 × (Nat → Int32)}
set_option maxHeartbeats 4000000 in
set_option maxRecDepth 100000 in
theorem k0X6_strike {l : Launch} (G : Gt) (a_eb a_desk a_desk_uses a_desk_uses_a a_kept a_tape a_text a_plan a_mat a_desk_boxes a_desk_words a_desk_weeks a_desk_routes a_desk_offers a_desk_wants a_desk_leaves a_desk_leases : Nat) (v1 : Int32) (isKept : Int32) (planStands : Int32) (today : Int32) (lack : Int32) (rate : Int32) (free : Int32) (uses_r : Int32) (uses_f : (Nat → Int32)) {res : Int32 × (Nat → Int32)} (h : fX6_strike v1 today rate free uses_r uses_f = some res) : CtI G l yX6_strike wsX6_strike rmX6_strike [.ref a_eb, .int v1] (wX6_strike G a_eb a_desk a_desk_uses a_desk_uses_a a_kept a_tape a_text a_plan a_mat a_desk_boxes a_desk_words a_desk_weeks a_desk_routes a_desk_offers a_desk_wants a_desk_leaves a_desk_leases isKept planStands today lack rate free uses_r uses_f) res.1 (wX6_strike G a_eb a_desk a_desk_uses a_desk_uses_a a_kept a_tape a_text a_plan a_mat a_desk_boxes a_desk_words a_desk_weeks a_desk_routes a_desk_offers a_desk_wants a_desk_leaves a_desk_leases isKept planStands today lack rate free uses_r res.2) := by
  refine CtI.mk (cc := cX6_strike) (maxL := 2) (ret := (some .int)) (own := RX6) (by decide) rfl rfl (Nat.le_of_ble_eq_true rfl) ?_
  intro p e s m below meth c A X ls hl hW
  obtain ⟨hx, hb, -⟩ := id X.1
  have hl : lv_has ls 2 [(0, .ref a_eb), (1, .int v1)] := hl
  generalize hH : s.heap = H at hW ⊢
  generalize hLo : ([] : List Loc) = locs at hW ⊢
  rw [fX6_strike] at h
  refine lv_aload_n hx hb dX6_strike_0 rfl (lv_at hl 0 rfl) ?_
  refine g_get X hW eX6_strike_12 0 rfl rfl dX6_strike_1 ?_
  refine g_get X hW eX6_strike_294 1 rfl rfl dX6_strike_4 ?_
  refine lv_iload_n hx hb dX6_strike_7 rfl (lv_at hl 1 rfl) ?_
  obtain ⟨r5, hq, h⟩ := bn1_some h
  refine g_cvi X hW (As := [.int v1]) (ws' := (wX6_strike G a_eb a_desk a_desk_uses a_desk_uses_a a_kept a_tape a_text a_plan a_mat a_desk_boxes a_desk_words a_desk_weeks a_desk_routes a_desk_offers a_desk_wants a_desk_leaves a_desk_leases isKept planStands today lack rate free uses_r uses_f)) ckX6_strike_X4_has_110 (kcX4_has (l := l) G a_desk_uses a_desk_uses_a v1 (6 : Int32) (40 : Int32) uses_r hq) ⟨rfl, rfl, Nat.le_of_ble_eq_true rfl, Nat.le_of_ble_eq_true rfl⟩ [2] rfl rfl rfl rfl rfl rfl rfl hl.1 (Nat.le_of_ble_eq_true rfl) ⟨Nat.zero_le _, Nat.zero_le _⟩ dX6_strike_8 (fun H locs hW => ?_)
  refine lv_if_ne (tgt := 16) hx hb dX6_strike_11 (by decide) (fun c6 => ?_) (fun c6 => ?_)
  · have h := (if_neg c6).symm.trans h
    refine lv_aload_n hx hb dX6_strike_16 rfl (lv_at hl 0 rfl) ?_
    refine g_get X hW eX6_strike_12 0 rfl rfl dX6_strike_17 ?_
    refine g_get X hW eX6_strike_294 1 rfl rfl dX6_strike_20 ?_
    refine lv_iload_n hx hb dX6_strike_23 rfl (lv_at hl 1 rfl) ?_
    refine lv_iconst hx hb dX6_strike_24 qI_5 ?_
    obtain ⟨r12, hq, h⟩ := bn1_some h
    refine g_cvi X hW (As := [.int v1, .int (5 : Int32)]) (ws' := (wX6_strike G a_eb a_desk a_desk_uses a_desk_uses_a a_kept a_tape a_text a_plan a_mat a_desk_boxes a_desk_words a_desk_weeks a_desk_routes a_desk_offers a_desk_wants a_desk_leaves a_desk_leases isKept planStands today lack rate free uses_r uses_f)) ckX6_strike_X4_cell_113 (kcX4_cell (l := l) G a_desk_uses a_desk_uses_a v1 (5 : Int32) (6 : Int32) (40 : Int32) uses_r 240 uses_f hq) ⟨rfl, rfl, Nat.le_of_ble_eq_true rfl, Nat.le_of_ble_eq_true rfl⟩ [2, 3] rfl rfl rfl rfl rfl rfl rfl hl.1 (Nat.le_of_ble_eq_true rfl) ⟨Nat.zero_le _, Nat.zero_le _⟩ dX6_strike_25 (fun H locs hW => ?_)
    refine lv_sipush hx hb dX6_strike_28 qS_201 ?_
    refine lv_icmp_eq (tgt := 37) hx hb dX6_strike_31 (by decide) (fun c14 => ?_) (fun c14 => ?_)
    · have h := (if_pos c14).symm.trans h
      refine lv_aload_n hx hb dX6_strike_37 rfl (lv_at hl 0 rfl) ?_
      refine g_get X hW eX6_strike_12 0 rfl rfl dX6_strike_38 ?_
      refine g_get X hW eX6_strike_294 1 rfl rfl dX6_strike_41 ?_
      refine lv_iload_n hx hb dX6_strike_44 rfl (lv_at hl 1 rfl) ?_
      refine lv_iconst hx hb dX6_strike_45 qI_5 ?_
      refine lv_aload_n hx hb dX6_strike_46 rfl (lv_at hl 0 rfl) ?_
      refine g_get X hW eX6_strike_12 0 rfl rfl dX6_strike_47 ?_
      refine g_get X hW eX6_strike_58 1 rfl rfl dX6_strike_50 ?_
      obtain ⟨o23_tb_f, hq, h⟩ := bn1_some h
      refine g_cvv X hW (As := [.int v1, .int (5 : Int32), .int today]) (ws' := (wX6_strike G a_eb a_desk a_desk_uses a_desk_uses_a a_kept a_tape a_text a_plan a_mat a_desk_boxes a_desk_words a_desk_weeks a_desk_routes a_desk_offers a_desk_wants a_desk_leaves a_desk_leases isKept planStands today lack rate free uses_r o23_tb_f)) ckX6_strike_X4_put_96 (kcX4_put (l := l) G a_desk_uses a_desk_uses_a v1 (5 : Int32) today (6 : Int32) (40 : Int32) uses_r 240 uses_f hq) ⟨rfl, rfl, Nat.le_of_ble_eq_true rfl, Nat.le_of_ble_eq_true rfl⟩ [2, 3] rfl rfl rfl rfl rfl rfl rfl hl.1 (Nat.le_of_ble_eq_true rfl) ⟨Nat.zero_le _, Nat.zero_le _⟩ dX6_strike_53 (fun H locs hW => ?_)
      refine lv_aload_n hx hb dX6_strike_56 rfl (lv_at hl 0 rfl) ?_
      refine lv_iload_n hx hb dX6_strike_57 rfl (lv_at hl 1 rfl) ?_
      obtain ⟨r26, hq, h⟩ := bn1_some h
      refine g_cvi X hW (As := [.int v1]) (ws' := (wX6_strike G a_eb a_desk a_desk_uses a_desk_uses_a a_kept a_tape a_text a_plan a_mat a_desk_boxes a_desk_words a_desk_weeks a_desk_routes a_desk_offers a_desk_wants a_desk_leaves a_desk_leases isKept planStands today lack rate free uses_r o23_tb_f)) ckX6_strike_X6_useWorth_297 (kcX6_useWorth (l := l) G a_eb a_desk a_desk_uses a_desk_uses_a a_kept a_tape a_text a_plan a_mat a_desk_boxes a_desk_words a_desk_weeks a_desk_routes a_desk_offers a_desk_wants a_desk_leaves a_desk_leases v1 isKept planStands today lack rate free uses_r o23_tb_f hq) ⟨rfl, rfl, Nat.le_of_ble_eq_true rfl, Nat.le_of_ble_eq_true rfl⟩ [0, 1, 2, 3] rfl rfl rfl rfl rfl rfl rfl hl.1 (Nat.le_of_ble_eq_true rfl) ⟨Nat.zero_le _, Nat.zero_le _⟩ dX6_strike_58 (fun H locs hW => ?_)
      obtain rfl := Option.some.inj h
      exact g_iret X hW dX6_strike_61
    · have h := (if_neg c14).symm.trans h
      refine lv_bipush hx hb dX6_strike_34 qB_m4 ?_
      obtain rfl := Option.some.inj h
      exact g_iret X hW dX6_strike_36
  · have h := (if_pos c6).symm.trans h
    refine lv_iconst hx hb dX6_strike_14 qI_m1 ?_
    obtain rfl := Option.some.inj h
    exact g_iret X hW dX6_strike_15
theorem kcX6_strike {l : Launch} (G : Gt) (a_eb a_desk a_desk_uses a_desk_uses_a a_kept a_tape a_text a_plan a_mat a_desk_boxes a_desk_words a_desk_weeks a_desk_routes a_desk_offers a_desk_wants a_desk_leaves a_desk_leases : Nat) (v1 : Int32) (isKept : Int32) (planStands : Int32) (today : Int32) (lack : Int32) (rate : Int32) (free : Int32) (uses_r : Int32) (uses_f : (Nat → Int32)) {r : Int32} {z_uses_f : (Nat → Int32)} (h : fX6_strike v1 today rate free uses_r uses_f = some (r, z_uses_f)) : CtI G l yX6_strike wsX6_strike rmX6_strike [.ref a_eb, .int v1] (wX6_strike G a_eb a_desk a_desk_uses a_desk_uses_a a_kept a_tape a_text a_plan a_mat a_desk_boxes a_desk_words a_desk_weeks a_desk_routes a_desk_offers a_desk_wants a_desk_leaves a_desk_leases isKept planStands today lack rate free uses_r uses_f) r (wX6_strike G a_eb a_desk a_desk_uses a_desk_uses_a a_kept a_tape a_text a_plan a_mat a_desk_boxes a_desk_words a_desk_weeks a_desk_routes a_desk_offers a_desk_wants a_desk_leaves a_desk_leases isKept planStands today lack rate free uses_r z_uses_f) := k0X6_strike G a_eb a_desk a_desk_uses a_desk_uses_a a_kept a_tape a_text a_plan a_mat a_desk_boxes a_desk_words a_desk_weeks a_desk_routes a_desk_offers a_desk_wants a_desk_leaves a_desk_leases v1 isKept planStands today lack rate free uses_r uses_f h
end MX6_strike
/-! EmptyBoxes.isUseKnown -/
section MX6_isUseKnown
theorem hdX6_isUseKnown : yX6_isUseKnown.cls = RX6 ∧ yX6_isUseKnown.cls ≠ "java/lang/invoke/MethodHandle" ∧ yX6_isUseKnown.cls ≠ "java/lang/invoke/VarHandle" ∧ (parseMethodDescriptor yX6_isUseKnown.desc).map (fun d => d.parameters.length) = some 2 := by decide +kernel
abbrev wX6_isUseKnown (G : Gt) (a_eb a_desk a_desk_uses a_desk_uses_a a_kept a_tape a_text a_plan a_mat a_desk_boxes a_desk_words a_desk_weeks a_desk_routes a_desk_offers a_desk_wants a_desk_leaves a_desk_leases : Nat) (isKept : Int32) (planStands : Int32) (today : Int32) (lack : Int32) (rate : Int32) (free : Int32) (uses_r : Int32) (uses_f : (Nat → Int32)) : va_W := [(a_eb, .inr (6, [.ref a_desk, .ref a_kept, .ref a_tape, .ref a_text, .ref a_plan, .ref a_mat, .int isKept, .int planStands])), (a_desk, .inr (0, [.ref a_desk_boxes, .ref a_desk_words, .ref a_desk_weeks, .ref a_desk_routes, .ref a_desk_offers, .ref a_desk_wants, .ref a_desk_leaves, .ref a_desk_leases, .ref a_desk_uses, .int today, .int lack, .int rate, .int free])), (a_desk_uses, .inr (4, [.ref a_desk_uses_a, .int (6 : Int32), .int (40 : Int32), .int uses_r])), (a_desk_uses_a, .inl (G.2.1, 240, .inl uses_f))]
abbrev rmX6_isUseKnown : Room := { frames := 2, cells := 0, slots := 0, locals := 44 }
theorem iX6_isUseKnown_X0 : ∀ w ∈ wsX00, w ∈ wsX6_isUseKnown := by decide +kernel
theorem iX6_isUseKnown_X6 : ∀ w ∈ wsX60, w ∈ wsX6_isUseKnown := by decide +kernel
theorem eX6_isUseKnown_12 : Fk wsX6_isUseKnown RX6 12 6 0 := ⟨RX6, TX6, 8, rfl, iX6_isUseKnown_X6, by decide, by decide +kernel⟩
theorem eX6_isUseKnown_294 : Fk wsX6_isUseKnown RX6 294 0 8 := ⟨RX0, TX0, 13, rfl, iX6_isUseKnown_X0, by decide, by decide +kernel⟩
theorem ckX6_isUseKnown_X4_cell_113 : CkV wsX6_isUseKnown RX6 113 yX4_cell wsX4_cell cX4_cell 3 (some .int) 2 4 := ⟨RX4, TX4, 4, _, rfl, gX6_isUseKnown_X4_cell, rfl, hdX4_cell⟩
variable {p : Program} {l : Launch} {e : Env} {s : State} {m : MethodId} {args : Array Value} {below : List Frame} {meth : Method} {c : Code} {A : Nat → Prop} {G : Gt} {a_eb a_desk a_desk_uses a_desk_uses_a a_kept a_tape a_text a_plan a_mat a_desk_boxes a_desk_words a_desk_weeks a_desk_routes a_desk_offers a_desk_wants a_desk_leaves a_desk_leases : Nat} {isKept : Int32} {planStands : Int32} {today : Int32} {lack : Int32} {rate : Int32} {free : Int32} {uses_r : Int32} {uses_f : (Nat → Int32)} {res : Int32}
set_option maxHeartbeats 4000000 in
set_option maxRecDepth 100000 in
theorem k0X6_isUseKnown {l : Launch} (G : Gt) (a_eb a_desk a_desk_uses a_desk_uses_a a_kept a_tape a_text a_plan a_mat a_desk_boxes a_desk_words a_desk_weeks a_desk_routes a_desk_offers a_desk_wants a_desk_leaves a_desk_leases : Nat) (v1 : Int32) (v2 : Int32) (isKept : Int32) (planStands : Int32) (today : Int32) (lack : Int32) (rate : Int32) (free : Int32) (uses_r : Int32) (uses_f : (Nat → Int32)) {res : Int32} (h : fX6_isUseKnown v1 v2 uses_r uses_f = some res) : CtI G l yX6_isUseKnown wsX6_isUseKnown rmX6_isUseKnown [.ref a_eb, .int v1, .int v2] (wX6_isUseKnown G a_eb a_desk a_desk_uses a_desk_uses_a a_kept a_tape a_text a_plan a_mat a_desk_boxes a_desk_words a_desk_weeks a_desk_routes a_desk_offers a_desk_wants a_desk_leaves a_desk_leases isKept planStands today lack rate free uses_r uses_f) res (wX6_isUseKnown G a_eb a_desk a_desk_uses a_desk_uses_a a_kept a_tape a_text a_plan a_mat a_desk_boxes a_desk_words a_desk_weeks a_desk_routes a_desk_offers a_desk_wants a_desk_leaves a_desk_leases isKept planStands today lack rate free uses_r uses_f) := by
  refine CtI.mk (cc := cX6_isUseKnown) (maxL := 3) (ret := (some .boolean)) (own := RX6) (by decide) rfl rfl (Nat.le_of_ble_eq_true rfl) ?_
  intro p e s m below meth c A X ls hl hW
  obtain ⟨hx, hb, -⟩ := id X.1
  have hl : lv_has ls 3 [(0, .ref a_eb), (1, .int v1), (2, .int v2)] := hl
  generalize hH : s.heap = H at hW ⊢
  generalize hLo : ([] : List Loc) = locs at hW ⊢
  rw [fX6_isUseKnown] at h
  refine lv_aload_n hx hb dX6_isUseKnown_0 rfl (lv_at hl 0 rfl) ?_
  refine g_get X hW eX6_isUseKnown_12 0 rfl rfl dX6_isUseKnown_1 ?_
  refine g_get X hW eX6_isUseKnown_294 1 rfl rfl dX6_isUseKnown_4 ?_
  refine lv_iload_n hx hb dX6_isUseKnown_7 rfl (lv_at hl 1 rfl) ?_
  refine lv_iconst hx hb dX6_isUseKnown_8 qI_4 ?_
  obtain ⟨r6, hq, h⟩ := bn1_some h
  refine g_cvi X hW (As := [.int v1, .int (4 : Int32)]) (ws' := (wX6_isUseKnown G a_eb a_desk a_desk_uses a_desk_uses_a a_kept a_tape a_text a_plan a_mat a_desk_boxes a_desk_words a_desk_weeks a_desk_routes a_desk_offers a_desk_wants a_desk_leaves a_desk_leases isKept planStands today lack rate free uses_r uses_f)) ckX6_isUseKnown_X4_cell_113 (kcX4_cell (l := l) G a_desk_uses a_desk_uses_a v1 (4 : Int32) (6 : Int32) (40 : Int32) uses_r 240 uses_f hq) ⟨rfl, rfl, Nat.le_of_ble_eq_true rfl, Nat.le_of_ble_eq_true rfl⟩ [2, 3] rfl rfl rfl rfl rfl rfl rfl hl.1 (Nat.le_of_ble_eq_true rfl) ⟨Nat.zero_le _, Nat.zero_le _⟩ dX6_isUseKnown_9 (fun H locs hW => ?_)
  refine lv_iload_n hx hb dX6_isUseKnown_12 rfl (lv_at hl 2 rfl) ?_
  refine lv_icmp_gt (tgt := 36) hx hb dX6_isUseKnown_13 (by decide) (fun c8 => ?_) (fun c8 => ?_)
  · have h := (if_pos c8).symm.trans h
    refine lv_iconst hx hb dX6_isUseKnown_36 qI_0 ?_
    obtain rfl := Option.some.inj h
    exact g_zret X hW rfl dX6_isUseKnown_37
  · have h := (if_neg c8).symm.trans h
    refine lv_aload_n hx hb dX6_isUseKnown_16 rfl (lv_at hl 0 rfl) ?_
    refine g_get X hW eX6_isUseKnown_12 0 rfl rfl dX6_isUseKnown_17 ?_
    refine g_get X hW eX6_isUseKnown_294 1 rfl rfl dX6_isUseKnown_20 ?_
    refine lv_iload_n hx hb dX6_isUseKnown_23 rfl (lv_at hl 1 rfl) ?_
    refine lv_iconst hx hb dX6_isUseKnown_24 qI_5 ?_
    obtain ⟨r16, hq, h⟩ := bn1_some h
    refine g_cvi X hW (As := [.int v1, .int (5 : Int32)]) (ws' := (wX6_isUseKnown G a_eb a_desk a_desk_uses a_desk_uses_a a_kept a_tape a_text a_plan a_mat a_desk_boxes a_desk_words a_desk_weeks a_desk_routes a_desk_offers a_desk_wants a_desk_leaves a_desk_leases isKept planStands today lack rate free uses_r uses_f)) ckX6_isUseKnown_X4_cell_113 (kcX4_cell (l := l) G a_desk_uses a_desk_uses_a v1 (5 : Int32) (6 : Int32) (40 : Int32) uses_r 240 uses_f hq) ⟨rfl, rfl, Nat.le_of_ble_eq_true rfl, Nat.le_of_ble_eq_true rfl⟩ [2, 3] rfl rfl rfl rfl rfl rfl rfl hl.1 (Nat.le_of_ble_eq_true rfl) ⟨Nat.zero_le _, Nat.zero_le _⟩ dX6_isUseKnown_25 (fun H locs hW => ?_)
    refine lv_iload_n hx hb dX6_isUseKnown_28 rfl (lv_at hl 2 rfl) ?_
    refine lv_icmp_le (tgt := 36) hx hb dX6_isUseKnown_29 (by decide) (fun c18 => ?_) (fun c18 => ?_)
    · have h := (if_pos c18).symm.trans h
      refine lv_iconst hx hb dX6_isUseKnown_36 qI_0 ?_
      obtain rfl := Option.some.inj h
      exact g_zret X hW rfl dX6_isUseKnown_37
    · have h := (if_neg c18).symm.trans h
      refine lv_iconst hx hb dX6_isUseKnown_32 qI_1 ?_
      refine lv_goto (tgt := 37) hx hb dX6_isUseKnown_33 (by decide) ?_
      obtain rfl := Option.some.inj h
      exact g_zret X hW rfl dX6_isUseKnown_37
theorem kcX6_isUseKnown {l : Launch} (G : Gt) (a_eb a_desk a_desk_uses a_desk_uses_a a_kept a_tape a_text a_plan a_mat a_desk_boxes a_desk_words a_desk_weeks a_desk_routes a_desk_offers a_desk_wants a_desk_leaves a_desk_leases : Nat) (v1 : Int32) (v2 : Int32) (isKept : Int32) (planStands : Int32) (today : Int32) (lack : Int32) (rate : Int32) (free : Int32) (uses_r : Int32) (uses_f : (Nat → Int32)) {r : Int32}  (h : fX6_isUseKnown v1 v2 uses_r uses_f = some r) : CtI G l yX6_isUseKnown wsX6_isUseKnown rmX6_isUseKnown [.ref a_eb, .int v1, .int v2] (wX6_isUseKnown G a_eb a_desk a_desk_uses a_desk_uses_a a_kept a_tape a_text a_plan a_mat a_desk_boxes a_desk_words a_desk_weeks a_desk_routes a_desk_offers a_desk_wants a_desk_leaves a_desk_leases isKept planStands today lack rate free uses_r uses_f) r (wX6_isUseKnown G a_eb a_desk a_desk_uses a_desk_uses_a a_kept a_tape a_text a_plan a_mat a_desk_boxes a_desk_words a_desk_weeks a_desk_routes a_desk_offers a_desk_wants a_desk_leaves a_desk_leases isKept planStands today lack rate free uses_r uses_f) := k0X6_isUseKnown G a_eb a_desk a_desk_uses a_desk_uses_a a_kept a_tape a_text a_plan a_mat a_desk_boxes a_desk_words a_desk_weeks a_desk_routes a_desk_offers a_desk_wants a_desk_leaves a_desk_leases v1 v2 isKept planStands today lack rate free uses_r uses_f h
end MX6_isUseKnown
/-! EmptyBoxes.debt -/
section MX6_debt
theorem hdX6_debt : yX6_debt.cls = RX6 ∧ yX6_debt.cls ≠ "java/lang/invoke/MethodHandle" ∧ yX6_debt.cls ≠ "java/lang/invoke/VarHandle" ∧ (parseMethodDescriptor yX6_debt.desc).map (fun d => d.parameters.length) = some 3 := by decide +kernel
abbrev wX6_debt (G : Gt) (a_eb a_desk a_desk_boxes a_desk_boxes_a a_desk_uses a_desk_uses_a a_kept a_tape a_text a_plan a_mat a_desk_words a_desk_weeks a_desk_routes a_desk_offers a_desk_wants a_desk_leaves a_desk_leases : Nat) (isKept : Int32) (planStands : Int32) (today : Int32) (lack : Int32) (rate : Int32) (free : Int32) (boxes_r : Int32) (boxes_f : (Nat → Int32)) (uses_r : Int32) (uses_f : (Nat → Int32)) : va_W := [(a_eb, .inr (6, [.ref a_desk, .ref a_kept, .ref a_tape, .ref a_text, .ref a_plan, .ref a_mat, .int isKept, .int planStands])), (a_desk, .inr (0, [.ref a_desk_boxes, .ref a_desk_words, .ref a_desk_weeks, .ref a_desk_routes, .ref a_desk_offers, .ref a_desk_wants, .ref a_desk_leaves, .ref a_desk_leases, .ref a_desk_uses, .int today, .int lack, .int rate, .int free])), (a_desk_boxes, .inr (4, [.ref a_desk_boxes_a, .int (9 : Int32), .int (24 : Int32), .int boxes_r])), (a_desk_boxes_a, .inl (G.2.1, 216, .inl boxes_f)), (a_desk_uses, .inr (4, [.ref a_desk_uses_a, .int (6 : Int32), .int (40 : Int32), .int uses_r])), (a_desk_uses_a, .inl (G.2.1, 240, .inl uses_f))]
abbrev rmX6_debt : Room := { frames := 3, cells := 0, slots := 0, locals := 66 }
theorem iX6_debt_X0 : ∀ w ∈ wsX00, w ∈ wsX6_debt := by decide +kernel
theorem iX6_debt_X6 : ∀ w ∈ wsX60, w ∈ wsX6_debt := by decide +kernel
theorem eX6_debt_12 : Fk wsX6_debt RX6 12 6 0 := ⟨RX6, TX6, 8, rfl, iX6_debt_X6, by decide, by decide +kernel⟩
theorem eX6_debt_294 : Fk wsX6_debt RX6 294 0 8 := ⟨RX0, TX0, 13, rfl, iX6_debt_X0, by decide, by decide +kernel⟩
theorem eX6_debt_82 : Fk wsX6_debt RX6 82 0 0 := ⟨RX0, TX0, 13, rfl, iX6_debt_X0, by decide, by decide +kernel⟩
theorem ckX6_debt_X4_cell_113 : CkV wsX6_debt RX6 113 yX4_cell wsX4_cell cX4_cell 3 (some .int) 2 4 := ⟨RX4, TX4, 4, _, rfl, gX6_debt_X4_cell, rfl, hdX4_cell⟩
theorem ckX6_debt_X4_size_117 : CkV wsX6_debt RX6 117 yX4_size wsX4_size cX4_size 1 (some .int) 0 4 := ⟨RX4, TX4, 4, _, rfl, gX6_debt_X4_size, rfl, hdX4_size⟩
theorem ckX6_debt_X6_isUseKnown_313 : CkV wsX6_debt RX6 313 yX6_isUseKnown wsX6_isUseKnown cX6_isUseKnown 3 (some .boolean) 2 6 := ⟨RX6, TX6, 8, _, rfl, gX6_debt_X6_isUseKnown, rfl, hdX6_isUseKnown⟩
theorem ckX6_debt_X6_useWorth_297 : CkV wsX6_debt RX6 297 yX6_useWorth wsX6_useWorth cX6_useWorth 3 (some .int) 1 6 := ⟨RX6, TX6, 8, _, rfl, gX6_debt_X6_useWorth, rfl, hdX6_useWorth⟩
variable {p : Program} {l : Launch} {e : Env} {s : State} {m : MethodId} {args : Array Value} {below : List Frame} {meth : Method} {c : Code} {A : Nat → Prop} {G : Gt} {a_eb a_desk a_desk_boxes a_desk_boxes_a a_desk_uses a_desk_uses_a a_kept a_tape a_text a_plan a_mat a_desk_words a_desk_weeks a_desk_routes a_desk_offers a_desk_wants a_desk_leaves a_desk_leases : Nat} {isKept : Int32} {planStands : Int32} {today : Int32} {lack : Int32} {rate : Int32} {free : Int32} {boxes_r : Int32} {boxes_f : (Nat → Int32)} {uses_r : Int32} {uses_f : (Nat → Int32)} {res : Int32}
set_option maxHeartbeats 4000000 in
set_option maxRecDepth 100000 in
theorem tX6_debt_91 (X : Bx p s m args meth c cX6_debt 7 wsX6_debt RX6 (some .int)) (v1 : Int32) (v2 : Int32) (v3 : Int32) (v4 : Int32) (v5 : Int32) (k_6 : Int32 → Int32 → Option (Int32)) (Hk_6 : ∀ (v4 : Int32) (v5 : Int32), k_6 v4 v5 = some res → ∀ (H : Heap) (locs : List Loc), Wo G A s (wX6_debt G a_eb a_desk a_desk_boxes a_desk_boxes_a a_desk_uses a_desk_uses_a a_kept a_tape a_text a_plan a_mat a_desk_words a_desk_weeks a_desk_routes a_desk_offers a_desk_wants a_desk_leaves a_desk_leases isKept planStands today lack rate free boxes_r boxes_f uses_r uses_f) H locs → ∀ ls : Array Slot, lv_has ls 7 [(0, .ref a_eb), (1, .int v1), (2, .int v2), (3, .int v3), (4, .int v4), (5, .int v5)] → W p l e rmX6_debt s m args below meth c H locs 0 0 (QI G A below args s res (wX6_debt G a_eb a_desk a_desk_boxes a_desk_boxes_a a_desk_uses a_desk_uses_a a_kept a_tape a_text a_plan a_mat a_desk_words a_desk_weeks a_desk_routes a_desk_offers a_desk_wants a_desk_leaves a_desk_leases isKept planStands today lack rate free boxes_r boxes_f uses_r uses_f)) (F0 m 6 ls [])) (h : fX6_debt_91 k_6 v4 v5 = some res) : ∀ (H : Heap) (locs : List Loc), Wo G A s (wX6_debt G a_eb a_desk a_desk_boxes a_desk_boxes_a a_desk_uses a_desk_uses_a a_kept a_tape a_text a_plan a_mat a_desk_words a_desk_weeks a_desk_routes a_desk_offers a_desk_wants a_desk_leaves a_desk_leases isKept planStands today lack rate free boxes_r boxes_f uses_r uses_f) H locs → ∀ ls : Array Slot, lv_has ls 7 [(0, .ref a_eb), (1, .int v1), (2, .int v2), (3, .int v3), (4, .int v4), (5, .int v5)] → W p l e rmX6_debt s m args below meth c H locs 0 0 (QI G A below args s res (wX6_debt G a_eb a_desk a_desk_boxes a_desk_boxes_a a_desk_uses a_desk_uses_a a_kept a_tape a_text a_plan a_mat a_desk_words a_desk_weeks a_desk_routes a_desk_offers a_desk_wants a_desk_leaves a_desk_leases isKept planStands today lack rate free boxes_r boxes_f uses_r uses_f)) (F0 m 91 ls []) := by
  obtain ⟨hx, hb, -⟩ := id X.1
  intro H locs hW ls hl
  rw [fX6_debt_91] at h
  refine lv_iinc (v := (v5 + (1 : Int32))) (lv' := [(5, .int (v5 + (1 : Int32))), (0, .ref a_eb), (1, .int v1), (2, .int v2), (3, .int v3), (4, .int v4)]) hx hb dX6_debt_91 hl (k := 5) rfl (congrArg (fun z => v5 + z) qI_1) (by decide) rfl (fun ls hl => ?_)
  refine lv_goto (tgt := 6) hx hb dX6_debt_94 (by decide) ?_
  exact Hk_6 v4 (v5 + (1 : Int32)) h H locs hW ls (lv_sub hl [1, 2, 3, 4, 5, 0] rfl)
set_option maxHeartbeats 4000000 in
set_option maxRecDepth 100000 in
theorem tX6_debt_6 (X : Bx p s m args meth c cX6_debt 7 wsX6_debt RX6 (some .int)) (v1 : Int32) (v2 : Int32) (v3 : Int32)   : ∀ (n : Nat) (v4 : Int32) (v5 : Int32), fX6_debt_6 v1 v2 v3 rate free boxes_r boxes_f uses_r uses_f n v4 v5 = some res → ∀ (H : Heap) (locs : List Loc), Wo G A s (wX6_debt G a_eb a_desk a_desk_boxes a_desk_boxes_a a_desk_uses a_desk_uses_a a_kept a_tape a_text a_plan a_mat a_desk_words a_desk_weeks a_desk_routes a_desk_offers a_desk_wants a_desk_leaves a_desk_leases isKept planStands today lack rate free boxes_r boxes_f uses_r uses_f) H locs → ∀ ls : Array Slot, lv_has ls 7 [(0, .ref a_eb), (1, .int v1), (2, .int v2), (3, .int v3), (4, .int v4), (5, .int v5)] → W p l e rmX6_debt s m args below meth c H locs 0 0 (QI G A below args s res (wX6_debt G a_eb a_desk a_desk_boxes a_desk_boxes_a a_desk_uses a_desk_uses_a a_kept a_tape a_text a_plan a_mat a_desk_words a_desk_weeks a_desk_routes a_desk_offers a_desk_wants a_desk_leaves a_desk_leases isKept planStands today lack rate free boxes_r boxes_f uses_r uses_f)) (F0 m 6 ls []) := by
  obtain ⟨hx, hb, -⟩ := id X.1
  intro n
  induction n with
  | zero => intro v4 v5 h; rw [fX6_debt_6] at h; cases h
  | succ n ih =>
    intro v4 v5 h H locs hW ls hl
    rw [fX6_debt_6] at h
    refine lv_iload hx hb dX6_debt_6 (lv_at hl 5 rfl) ?_
    refine lv_aload_n hx hb dX6_debt_8 rfl (lv_at hl 0 rfl) ?_
    refine g_get X hW eX6_debt_12 0 rfl rfl dX6_debt_9 ?_
    refine g_get X hW eX6_debt_294 1 rfl rfl dX6_debt_12 ?_
    obtain ⟨r7, hq, h⟩ := bn1_some h
    refine g_cvi X hW (As := []) (ws' := (wX6_debt G a_eb a_desk a_desk_boxes a_desk_boxes_a a_desk_uses a_desk_uses_a a_kept a_tape a_text a_plan a_mat a_desk_words a_desk_weeks a_desk_routes a_desk_offers a_desk_wants a_desk_leaves a_desk_leases isKept planStands today lack rate free boxes_r boxes_f uses_r uses_f)) ckX6_debt_X4_size_117 (kcX4_size (l := l) G a_desk_uses a_desk_uses_a (6 : Int32) (40 : Int32) uses_r hq) ⟨rfl, rfl, Nat.le_of_ble_eq_true rfl, Nat.le_of_ble_eq_true rfl⟩ [4] rfl rfl rfl rfl rfl rfl rfl hl.1 (Nat.le_of_ble_eq_true rfl) ⟨Nat.zero_le _, Nat.zero_le _⟩ dX6_debt_15 (fun H locs hW => ?_)
    refine lv_icmp_ge (tgt := 97) hx hb dX6_debt_18 (by decide) (fun c8 => ?_) (fun c8 => ?_)
    · have h := (if_pos c8).symm.trans h
      refine lv_iload hx hb dX6_debt_97 (lv_at hl 4 rfl) ?_
      obtain rfl := Option.some.inj h
      exact g_iret X hW dX6_debt_99
    · have h := (if_neg c8).symm.trans h
      refine lv_aload_n hx hb dX6_debt_21 rfl (lv_at hl 0 rfl) ?_
      refine g_get X hW eX6_debt_12 0 rfl rfl dX6_debt_22 ?_
      refine g_get X hW eX6_debt_82 1 rfl rfl dX6_debt_25 ?_
      refine lv_aload_n hx hb dX6_debt_28 rfl (lv_at hl 0 rfl) ?_
      refine g_get X hW eX6_debt_12 0 rfl rfl dX6_debt_29 ?_
      refine g_get X hW eX6_debt_294 1 rfl rfl dX6_debt_32 ?_
      refine lv_iload hx hb dX6_debt_35 (lv_at hl 5 rfl) ?_
      refine lv_iconst hx hb dX6_debt_37 qI_0 ?_
      obtain ⟨r19, hq, h⟩ := bn1_some h
      refine g_cvi X hW (As := [.int v5, .int (0 : Int32)]) (ws' := (wX6_debt G a_eb a_desk a_desk_boxes a_desk_boxes_a a_desk_uses a_desk_uses_a a_kept a_tape a_text a_plan a_mat a_desk_words a_desk_weeks a_desk_routes a_desk_offers a_desk_wants a_desk_leaves a_desk_leases isKept planStands today lack rate free boxes_r boxes_f uses_r uses_f)) ckX6_debt_X4_cell_113 (kcX4_cell (l := l) G a_desk_uses a_desk_uses_a v5 (0 : Int32) (6 : Int32) (40 : Int32) uses_r 240 uses_f hq) ⟨rfl, rfl, Nat.le_of_ble_eq_true rfl, Nat.le_of_ble_eq_true rfl⟩ [4, 5] rfl rfl rfl rfl rfl rfl rfl hl.1 (Nat.le_of_ble_eq_true rfl) ⟨Nat.zero_le _, Nat.zero_le _⟩ dX6_debt_38 (fun H locs hW => ?_)
      refine lv_iconst hx hb dX6_debt_41 qI_2 ?_
      obtain ⟨r21, hq, h⟩ := bn1_some h
      refine g_cvi X hW (As := [.int r19, .int (2 : Int32)]) (ws' := (wX6_debt G a_eb a_desk a_desk_boxes a_desk_boxes_a a_desk_uses a_desk_uses_a a_kept a_tape a_text a_plan a_mat a_desk_words a_desk_weeks a_desk_routes a_desk_offers a_desk_wants a_desk_leaves a_desk_leases isKept planStands today lack rate free boxes_r boxes_f uses_r uses_f)) ckX6_debt_X4_cell_113 (kcX4_cell (l := l) G a_desk_boxes a_desk_boxes_a r19 (2 : Int32) (9 : Int32) (24 : Int32) boxes_r 216 boxes_f hq) ⟨rfl, rfl, Nat.le_of_ble_eq_true rfl, Nat.le_of_ble_eq_true rfl⟩ [2, 3] rfl rfl rfl rfl rfl rfl rfl hl.1 (Nat.le_of_ble_eq_true rfl) ⟨Nat.zero_le _, Nat.zero_le _⟩ dX6_debt_42 (fun H locs hW => ?_)
      refine lv_istore (lv' := [(6, .int r21), (0, .ref a_eb), (1, .int v1), (2, .int v2), (3, .int v3), (4, .int v4), (5, .int v5)]) hx hb dX6_debt_45 hl (by decide) rfl (fun ls hl => ?_)
      refine lv_aload_n hx hb dX6_debt_47 rfl (lv_at hl 1 rfl) ?_
      refine g_get X hW eX6_debt_12 0 rfl rfl dX6_debt_48 ?_
      refine g_get X hW eX6_debt_294 1 rfl rfl dX6_debt_51 ?_
      refine lv_iload hx hb dX6_debt_54 (lv_at hl 6 rfl) ?_
      refine lv_iconst hx hb dX6_debt_56 qI_1 ?_
      obtain ⟨r28, hq, h⟩ := bn1_some h
      refine g_cvi X hW (As := [.int v5, .int (1 : Int32)]) (ws' := (wX6_debt G a_eb a_desk a_desk_boxes a_desk_boxes_a a_desk_uses a_desk_uses_a a_kept a_tape a_text a_plan a_mat a_desk_words a_desk_weeks a_desk_routes a_desk_offers a_desk_wants a_desk_leaves a_desk_leases isKept planStands today lack rate free boxes_r boxes_f uses_r uses_f)) ckX6_debt_X4_cell_113 (kcX4_cell (l := l) G a_desk_uses a_desk_uses_a v5 (1 : Int32) (6 : Int32) (40 : Int32) uses_r 240 uses_f hq) ⟨rfl, rfl, Nat.le_of_ble_eq_true rfl, Nat.le_of_ble_eq_true rfl⟩ [4, 5] rfl rfl rfl rfl rfl rfl rfl hl.1 (Nat.le_of_ble_eq_true rfl) ⟨Nat.zero_le _, Nat.zero_le _⟩ dX6_debt_57 (fun H locs hW => ?_)
      refine lv_iload_n hx hb dX6_debt_60 rfl (lv_at hl 2 rfl) ?_
      refine lv_icmp_ne (tgt := 91) hx hb dX6_debt_61 (by decide) (fun c30 => ?_) (fun c30 => ?_)
      · have h := (if_neg c30).symm.trans h
        exact tX6_debt_91 X v1 v2 v3 v4 v5 (fun v4 v5 => fX6_debt_6 v1 v2 v3 rate free boxes_r boxes_f uses_r uses_f n v4 v5) ih h H locs hW ls (lv_sub hl [1, 2, 3, 4, 5, 6] rfl)
      · have h := (if_pos c30).symm.trans h
        refine lv_iload hx hb dX6_debt_64 (lv_at hl 0 rfl) ?_
        refine lv_iload_n hx hb dX6_debt_66 rfl (lv_at hl 3 rfl) ?_
        refine lv_icmp_ne (tgt := 91) hx hb dX6_debt_67 (by decide) (fun c33 => ?_) (fun c33 => ?_)
        · have h := (if_neg c33).symm.trans h
          exact tX6_debt_91 X v1 v2 v3 v4 v5 (fun v4 v5 => fX6_debt_6 v1 v2 v3 rate free boxes_r boxes_f uses_r uses_f n v4 v5) ih h H locs hW ls (lv_sub hl [1, 2, 3, 4, 5, 6] rfl)
        · have h := (if_pos c33).symm.trans h
          refine lv_aload_n hx hb dX6_debt_70 rfl (lv_at hl 1 rfl) ?_
          refine lv_iload hx hb dX6_debt_71 (lv_at hl 6 rfl) ?_
          refine lv_iload_n hx hb dX6_debt_73 rfl (lv_at hl 4 rfl) ?_
          obtain ⟨r37, hq, h⟩ := bn1_some h
          refine g_cvi X hW (As := [.int v5, .int v3]) (ws' := (wX6_debt G a_eb a_desk a_desk_boxes a_desk_boxes_a a_desk_uses a_desk_uses_a a_kept a_tape a_text a_plan a_mat a_desk_words a_desk_weeks a_desk_routes a_desk_offers a_desk_wants a_desk_leaves a_desk_leases isKept planStands today lack rate free boxes_r boxes_f uses_r uses_f)) ckX6_debt_X6_isUseKnown_313 (kcX6_isUseKnown (l := l) G a_eb a_desk a_desk_uses a_desk_uses_a a_kept a_tape a_text a_plan a_mat a_desk_boxes a_desk_words a_desk_weeks a_desk_routes a_desk_offers a_desk_wants a_desk_leaves a_desk_leases v5 v3 isKept planStands today lack rate free uses_r uses_f hq) ⟨rfl, rfl, Nat.le_of_ble_eq_true rfl, Nat.le_of_ble_eq_true rfl⟩ [0, 1, 4, 5] rfl rfl rfl rfl rfl rfl rfl hl.1 (Nat.le_of_ble_eq_true rfl) ⟨Nat.zero_le _, Nat.zero_le _⟩ dX6_debt_74 (fun H locs hW => ?_)
          refine lv_if_eq (tgt := 91) hx hb dX6_debt_77 (by decide) (fun c38 => ?_) (fun c38 => ?_)
          · have h := (if_pos c38).symm.trans h
            exact tX6_debt_91 X v1 v2 v3 v4 v5 (fun v4 v5 => fX6_debt_6 v1 v2 v3 rate free boxes_r boxes_f uses_r uses_f n v4 v5) ih h H locs hW ls (lv_sub hl [1, 2, 3, 4, 5, 6] rfl)
          · have h := (if_neg c38).symm.trans h
            refine lv_iload hx hb dX6_debt_80 (lv_at hl 5 rfl) ?_
            refine lv_aload_n hx hb dX6_debt_82 rfl (lv_at hl 1 rfl) ?_
            refine lv_iload hx hb dX6_debt_83 (lv_at hl 6 rfl) ?_
            obtain ⟨r42, hq, h⟩ := bn1_some h
            refine g_cvi X hW (As := [.int v5]) (ws' := (wX6_debt G a_eb a_desk a_desk_boxes a_desk_boxes_a a_desk_uses a_desk_uses_a a_kept a_tape a_text a_plan a_mat a_desk_words a_desk_weeks a_desk_routes a_desk_offers a_desk_wants a_desk_leaves a_desk_leases isKept planStands today lack rate free boxes_r boxes_f uses_r uses_f)) ckX6_debt_X6_useWorth_297 (kcX6_useWorth (l := l) G a_eb a_desk a_desk_uses a_desk_uses_a a_kept a_tape a_text a_plan a_mat a_desk_boxes a_desk_words a_desk_weeks a_desk_routes a_desk_offers a_desk_wants a_desk_leaves a_desk_leases v5 isKept planStands today lack rate free uses_r uses_f hq) ⟨rfl, rfl, Nat.le_of_ble_eq_true rfl, Nat.le_of_ble_eq_true rfl⟩ [0, 1, 4, 5] rfl rfl rfl rfl rfl rfl rfl hl.1 (Nat.le_of_ble_eq_true rfl) ⟨Nat.zero_le _, Nat.zero_le _⟩ dX6_debt_85 (fun H locs hW => ?_)
            refine lv_iadd hx hb dX6_debt_88 ?_
            refine lv_istore (lv' := [(4, .int (v4 + r42)), (6, .int r21), (0, .ref a_eb), (1, .int v1), (2, .int v2), (3, .int v3), (5, .int v5)]) hx hb dX6_debt_89 hl (by decide) rfl (fun ls hl => ?_)
            exact tX6_debt_91 X v1 v2 v3 (v4 + r42) v5 (fun v4 v5 => fX6_debt_6 v1 v2 v3 rate free boxes_r boxes_f uses_r uses_f n v4 v5) ih h H locs hW ls (lv_sub hl [2, 3, 4, 5, 0, 6] rfl)
set_option maxHeartbeats 4000000 in
set_option maxRecDepth 100000 in
theorem k0X6_debt {l : Launch} (G : Gt) (a_eb a_desk a_desk_boxes a_desk_boxes_a a_desk_uses a_desk_uses_a a_kept a_tape a_text a_plan a_mat a_desk_words a_desk_weeks a_desk_routes a_desk_offers a_desk_wants a_desk_leaves a_desk_leases : Nat) (v1 : Int32) (v2 : Int32) (v3 : Int32) (isKept : Int32) (planStands : Int32) (today : Int32) (lack : Int32) (rate : Int32) (free : Int32) (boxes_r : Int32) (boxes_f : (Nat → Int32)) (uses_r : Int32) (uses_f : (Nat → Int32)) {res : Int32} (h : fX6_debt v1 v2 v3 rate free boxes_r boxes_f uses_r uses_f = some res) : CtI G l yX6_debt wsX6_debt rmX6_debt [.ref a_eb, .int v1, .int v2, .int v3] (wX6_debt G a_eb a_desk a_desk_boxes a_desk_boxes_a a_desk_uses a_desk_uses_a a_kept a_tape a_text a_plan a_mat a_desk_words a_desk_weeks a_desk_routes a_desk_offers a_desk_wants a_desk_leaves a_desk_leases isKept planStands today lack rate free boxes_r boxes_f uses_r uses_f) res (wX6_debt G a_eb a_desk a_desk_boxes a_desk_boxes_a a_desk_uses a_desk_uses_a a_kept a_tape a_text a_plan a_mat a_desk_words a_desk_weeks a_desk_routes a_desk_offers a_desk_wants a_desk_leaves a_desk_leases isKept planStands today lack rate free boxes_r boxes_f uses_r uses_f) := by
  refine CtI.mk (cc := cX6_debt) (maxL := 7) (ret := (some .int)) (own := RX6) (by decide) rfl rfl (Nat.le_of_ble_eq_true rfl) ?_
  intro p e s m below meth c A X ls hl hW
  obtain ⟨hx, hb, -⟩ := id X.1
  have hl : lv_has ls 7 [(0, .ref a_eb), (1, .int v1), (2, .int v2), (3, .int v3)] := hl
  generalize hH : s.heap = H at hW ⊢
  generalize hLo : ([] : List Loc) = locs at hW ⊢
  rw [fX6_debt] at h
  refine lv_iconst hx hb dX6_debt_0 qI_0 ?_
  refine lv_istore (lv' := [(4, .int (0 : Int32)), (0, .ref a_eb), (1, .int v1), (2, .int v2), (3, .int v3)]) hx hb dX6_debt_1 hl (by decide) rfl (fun ls hl => ?_)
  refine lv_iconst hx hb dX6_debt_3 qI_0 ?_
  refine lv_istore (lv' := [(5, .int (0 : Int32)), (4, .int (0 : Int32)), (0, .ref a_eb), (1, .int v1), (2, .int v2), (3, .int v3)]) hx hb dX6_debt_4 hl (by decide) rfl (fun ls hl => ?_)
  exact tX6_debt_6 X v1 v2 v3 FU (0 : Int32) (0 : Int32) h H locs hW ls (lv_sub hl [2, 3, 4, 5, 1, 0] rfl)
theorem kcX6_debt {l : Launch} (G : Gt) (a_eb a_desk a_desk_boxes a_desk_boxes_a a_desk_uses a_desk_uses_a a_kept a_tape a_text a_plan a_mat a_desk_words a_desk_weeks a_desk_routes a_desk_offers a_desk_wants a_desk_leaves a_desk_leases : Nat) (v1 : Int32) (v2 : Int32) (v3 : Int32) (isKept : Int32) (planStands : Int32) (today : Int32) (lack : Int32) (rate : Int32) (free : Int32) (boxes_r : Int32) (boxes_f : (Nat → Int32)) (uses_r : Int32) (uses_f : (Nat → Int32)) {r : Int32}  (h : fX6_debt v1 v2 v3 rate free boxes_r boxes_f uses_r uses_f = some r) : CtI G l yX6_debt wsX6_debt rmX6_debt [.ref a_eb, .int v1, .int v2, .int v3] (wX6_debt G a_eb a_desk a_desk_boxes a_desk_boxes_a a_desk_uses a_desk_uses_a a_kept a_tape a_text a_plan a_mat a_desk_words a_desk_weeks a_desk_routes a_desk_offers a_desk_wants a_desk_leaves a_desk_leases isKept planStands today lack rate free boxes_r boxes_f uses_r uses_f) r (wX6_debt G a_eb a_desk a_desk_boxes a_desk_boxes_a a_desk_uses a_desk_uses_a a_kept a_tape a_text a_plan a_mat a_desk_words a_desk_weeks a_desk_routes a_desk_offers a_desk_wants a_desk_leaves a_desk_leases isKept planStands today lack rate free boxes_r boxes_f uses_r uses_f) := k0X6_debt G a_eb a_desk a_desk_boxes a_desk_boxes_a a_desk_uses a_desk_uses_a a_kept a_tape a_text a_plan a_mat a_desk_words a_desk_weeks a_desk_routes a_desk_offers a_desk_wants a_desk_leaves a_desk_leases v1 v2 v3 isKept planStands today lack rate free boxes_r boxes_f uses_r uses_f h
end MX6_debt
/-! EmptyBoxes.net -/
section MX6_net
theorem hdX6_net : yX6_net.cls = RX6 ∧ yX6_net.cls ≠ "java/lang/invoke/MethodHandle" ∧ yX6_net.cls ≠ "java/lang/invoke/VarHandle" ∧ (parseMethodDescriptor yX6_net.desc).map (fun d => d.parameters.length) = some 2 := by decide +kernel
abbrev wX6_net (G : Gt) (a_eb a_desk a_desk_boxes a_desk_boxes_a a_desk_uses a_desk_uses_a a_kept a_tape a_text a_plan a_mat a_desk_words a_desk_weeks a_desk_routes a_desk_offers a_desk_wants a_desk_leaves a_desk_leases : Nat) (isKept : Int32) (planStands : Int32) (today : Int32) (lack : Int32) (rate : Int32) (free : Int32) (boxes_r : Int32) (boxes_f : (Nat → Int32)) (uses_r : Int32) (uses_f : (Nat → Int32)) : va_W := [(a_eb, .inr (6, [.ref a_desk, .ref a_kept, .ref a_tape, .ref a_text, .ref a_plan, .ref a_mat, .int isKept, .int planStands])), (a_desk, .inr (0, [.ref a_desk_boxes, .ref a_desk_words, .ref a_desk_weeks, .ref a_desk_routes, .ref a_desk_offers, .ref a_desk_wants, .ref a_desk_leaves, .ref a_desk_leases, .ref a_desk_uses, .int today, .int lack, .int rate, .int free])), (a_desk_boxes, .inr (4, [.ref a_desk_boxes_a, .int (9 : Int32), .int (24 : Int32), .int boxes_r])), (a_desk_boxes_a, .inl (G.2.1, 216, .inl boxes_f)), (a_desk_uses, .inr (4, [.ref a_desk_uses_a, .int (6 : Int32), .int (40 : Int32), .int uses_r])), (a_desk_uses_a, .inl (G.2.1, 240, .inl uses_f))]
abbrev rmX6_net : Room := { frames := 4, cells := 0, slots := 0, locals := 92 }
theorem ckX6_net_X6_debt_301 : CkV wsX6_net RX6 301 yX6_debt wsX6_debt cX6_debt 7 (some .int) 3 6 := ⟨RX6, TX6, 8, _, rfl, gX6_net_X6_debt, rfl, hdX6_debt⟩
theorem ckX6_net_X6_isLine_69 : CkS wsX6_net RX6 69 yX6_isLine wsX6_isLine cX6_isLine 1 (some .boolean) 1 := ⟨_, gX6_net_X6_isLine, rfl, hdX6_isLine.2⟩
theorem ckX6_net_X6_isPastDay_123 : CkV wsX6_net RX6 123 yX6_isPastDay wsX6_isPastDay cX6_isPastDay 2 (some .boolean) 1 6 := ⟨RX6, TX6, 8, _, rfl, gX6_net_X6_isPastDay, rfl, hdX6_isPastDay⟩
theorem cwX6_net_300 : Cond.constant RX6 300 1000000 ∈ wsX6_net := by decide +kernel
variable {p : Program} {l : Launch} {e : Env} {s : State} {m : MethodId} {args : Array Value} {below : List Frame} {meth : Method} {c : Code} {A : Nat → Prop} {G : Gt} {a_eb a_desk a_desk_boxes a_desk_boxes_a a_desk_uses a_desk_uses_a a_kept a_tape a_text a_plan a_mat a_desk_words a_desk_weeks a_desk_routes a_desk_offers a_desk_wants a_desk_leaves a_desk_leases : Nat} {isKept : Int32} {planStands : Int32} {today : Int32} {lack : Int32} {rate : Int32} {free : Int32} {boxes_r : Int32} {boxes_f : (Nat → Int32)} {uses_r : Int32} {uses_f : (Nat → Int32)} {res : Int32}
set_option maxHeartbeats 4000000 in
set_option maxRecDepth 100000 in
theorem tX6_net_24 (X : Bx p s m args meth c cX6_net 5 wsX6_net RX6 (some .int)) (v1 : Int32) (v2 : Int32)   : ∀ (n : Nat) (v3 : Int32) (v4 : Int32), fX6_net_24 v1 v2 rate free boxes_r boxes_f uses_r uses_f n v3 v4 = some res → ∀ (H : Heap) (locs : List Loc), Wo G A s (wX6_net G a_eb a_desk a_desk_boxes a_desk_boxes_a a_desk_uses a_desk_uses_a a_kept a_tape a_text a_plan a_mat a_desk_words a_desk_weeks a_desk_routes a_desk_offers a_desk_wants a_desk_leaves a_desk_leases isKept planStands today lack rate free boxes_r boxes_f uses_r uses_f) H locs → ∀ ls : Array Slot, lv_has ls 5 [(0, .ref a_eb), (1, .int v1), (2, .int v2), (3, .int v3), (4, .int v4)] → W p l e rmX6_net s m args below meth c H locs 0 0 (QI G A below args s res (wX6_net G a_eb a_desk a_desk_boxes a_desk_boxes_a a_desk_uses a_desk_uses_a a_kept a_tape a_text a_plan a_mat a_desk_words a_desk_weeks a_desk_routes a_desk_offers a_desk_wants a_desk_leaves a_desk_leases isKept planStands today lack rate free boxes_r boxes_f uses_r uses_f)) (F0 m 24 ls []) := by
  obtain ⟨hx, hb, -⟩ := id X.1
  intro n
  induction n with
  | zero => intro v3 v4 h; rw [fX6_net_24] at h; cases h
  | succ n ih =>
    intro v3 v4 h H locs hW ls hl
    rw [fX6_net_24] at h
    refine lv_iload hx hb dX6_net_24 (lv_at hl 4 rfl) ?_
    refine lv_iconst hx hb dX6_net_26 qI_4 ?_
    refine lv_icmp_ge (tgt := 56) hx hb dX6_net_27 (by decide) (fun c3 => ?_) (fun c3 => ?_)
    · have h := (if_pos c3).symm.trans h
      refine lv_iload_n hx hb dX6_net_56 rfl (lv_at hl 3 rfl) ?_
      obtain rfl := Option.some.inj h
      exact g_iret X hW dX6_net_57
    · have h := (if_neg c3).symm.trans h
      refine lv_iload_n hx hb dX6_net_30 rfl (lv_at hl 3 rfl) ?_
      refine lv_aload_n hx hb dX6_net_31 rfl (lv_at hl 0 rfl) ?_
      refine lv_iload hx hb dX6_net_32 (lv_at hl 4 rfl) ?_
      refine lv_iload_n hx hb dX6_net_34 rfl (lv_at hl 1 rfl) ?_
      refine lv_iload_n hx hb dX6_net_35 rfl (lv_at hl 2 rfl) ?_
      obtain ⟨r11, hq, h⟩ := bn1_some h
      refine g_cvi X hW (As := [.int v4, .int v1, .int v2]) (ws' := (wX6_net G a_eb a_desk a_desk_boxes a_desk_boxes_a a_desk_uses a_desk_uses_a a_kept a_tape a_text a_plan a_mat a_desk_words a_desk_weeks a_desk_routes a_desk_offers a_desk_wants a_desk_leaves a_desk_leases isKept planStands today lack rate free boxes_r boxes_f uses_r uses_f)) ckX6_net_X6_debt_301 (kcX6_debt (l := l) G a_eb a_desk a_desk_boxes a_desk_boxes_a a_desk_uses a_desk_uses_a a_kept a_tape a_text a_plan a_mat a_desk_words a_desk_weeks a_desk_routes a_desk_offers a_desk_wants a_desk_leaves a_desk_leases v4 v1 v2 isKept planStands today lack rate free boxes_r boxes_f uses_r uses_f hq) ⟨rfl, rfl, Nat.le_of_ble_eq_true rfl, Nat.le_of_ble_eq_true rfl⟩ [0, 1, 2, 3, 4, 5] rfl rfl rfl rfl rfl rfl rfl hl.1 (Nat.le_of_ble_eq_true rfl) ⟨Nat.zero_le _, Nat.zero_le _⟩ dX6_net_36 (fun H locs hW => ?_)
      refine lv_aload_n hx hb dX6_net_39 rfl (lv_at hl 0 rfl) ?_
      refine lv_iload_n hx hb dX6_net_40 rfl (lv_at hl 1 rfl) ?_
      refine lv_iload hx hb dX6_net_41 (lv_at hl 4 rfl) ?_
      refine lv_iload_n hx hb dX6_net_43 rfl (lv_at hl 2 rfl) ?_
      obtain ⟨r16, hq, h⟩ := bn1_some h
      refine g_cvi X hW (As := [.int v1, .int v4, .int v2]) (ws' := (wX6_net G a_eb a_desk a_desk_boxes a_desk_boxes_a a_desk_uses a_desk_uses_a a_kept a_tape a_text a_plan a_mat a_desk_words a_desk_weeks a_desk_routes a_desk_offers a_desk_wants a_desk_leaves a_desk_leases isKept planStands today lack rate free boxes_r boxes_f uses_r uses_f)) ckX6_net_X6_debt_301 (kcX6_debt (l := l) G a_eb a_desk a_desk_boxes a_desk_boxes_a a_desk_uses a_desk_uses_a a_kept a_tape a_text a_plan a_mat a_desk_words a_desk_weeks a_desk_routes a_desk_offers a_desk_wants a_desk_leaves a_desk_leases v1 v4 v2 isKept planStands today lack rate free boxes_r boxes_f uses_r uses_f hq) ⟨rfl, rfl, Nat.le_of_ble_eq_true rfl, Nat.le_of_ble_eq_true rfl⟩ [0, 1, 2, 3, 4, 5] rfl rfl rfl rfl rfl rfl rfl hl.1 (Nat.le_of_ble_eq_true rfl) ⟨Nat.zero_le _, Nat.zero_le _⟩ dX6_net_44 (fun H locs hW => ?_)
      refine lv_isub hx hb dX6_net_47 ?_
      refine lv_iadd hx hb dX6_net_48 ?_
      refine lv_istore_n (lv' := [(3, .int (v3 + (r11 - r16))), (0, .ref a_eb), (1, .int v1), (2, .int v2), (4, .int v4)]) hx hb dX6_net_49 rfl hl (by decide) rfl (fun ls hl => ?_)
      refine lv_iinc (v := (v4 + (1 : Int32))) (lv' := [(4, .int (v4 + (1 : Int32))), (3, .int (v3 + (r11 - r16))), (0, .ref a_eb), (1, .int v1), (2, .int v2)]) hx hb dX6_net_50 hl (k := 4) rfl (congrArg (fun z => v4 + z) qI_1) (by decide) rfl (fun ls hl => ?_)
      refine lv_goto (tgt := 24) hx hb dX6_net_53 (by decide) ?_
      exact ih (v3 + (r11 - r16)) (v4 + (1 : Int32)) h H locs hW ls (lv_sub hl [2, 3, 4, 1, 0] rfl)
set_option maxHeartbeats 4000000 in
set_option maxRecDepth 100000 in
theorem k0X6_net {l : Launch} (G : Gt) (a_eb a_desk a_desk_boxes a_desk_boxes_a a_desk_uses a_desk_uses_a a_kept a_tape a_text a_plan a_mat a_desk_words a_desk_weeks a_desk_routes a_desk_offers a_desk_wants a_desk_leaves a_desk_leases : Nat) (v1 : Int32) (v2 : Int32) (isKept : Int32) (planStands : Int32) (today : Int32) (lack : Int32) (rate : Int32) (free : Int32) (boxes_r : Int32) (boxes_f : (Nat → Int32)) (uses_r : Int32) (uses_f : (Nat → Int32)) {res : Int32} (h : fX6_net v1 v2 today rate free boxes_r boxes_f uses_r uses_f = some res) : CtI G l yX6_net wsX6_net rmX6_net [.ref a_eb, .int v1, .int v2] (wX6_net G a_eb a_desk a_desk_boxes a_desk_boxes_a a_desk_uses a_desk_uses_a a_kept a_tape a_text a_plan a_mat a_desk_words a_desk_weeks a_desk_routes a_desk_offers a_desk_wants a_desk_leaves a_desk_leases isKept planStands today lack rate free boxes_r boxes_f uses_r uses_f) res (wX6_net G a_eb a_desk a_desk_boxes a_desk_boxes_a a_desk_uses a_desk_uses_a a_kept a_tape a_text a_plan a_mat a_desk_words a_desk_weeks a_desk_routes a_desk_offers a_desk_wants a_desk_leaves a_desk_leases isKept planStands today lack rate free boxes_r boxes_f uses_r uses_f) := by
  refine CtI.mk (cc := cX6_net) (maxL := 5) (ret := (some .int)) (own := RX6) (by decide) rfl rfl (Nat.le_of_ble_eq_true rfl) ?_
  intro p e s m below meth c A X ls hl hW
  obtain ⟨hx, hb, -⟩ := id X.1
  have hl : lv_has ls 5 [(0, .ref a_eb), (1, .int v1), (2, .int v2)] := hl
  generalize hH : s.heap = H at hW ⊢
  generalize hLo : ([] : List Loc) = locs at hW ⊢
  rw [fX6_net] at h
  refine lv_iload_n hx hb dX6_net_0 rfl (lv_at hl 1 rfl) ?_
  obtain ⟨r23, hq, h⟩ := bn1_some h
  refine g_csi X hW (As := [.int v1]) (ws' := (wX6_net G a_eb a_desk a_desk_boxes a_desk_boxes_a a_desk_uses a_desk_uses_a a_kept a_tape a_text a_plan a_mat a_desk_words a_desk_weeks a_desk_routes a_desk_offers a_desk_wants a_desk_leaves a_desk_leases isKept planStands today lack rate free boxes_r boxes_f uses_r uses_f)) ckX6_net_X6_isLine_69 (kcX6_isLine (l := l) G v1 hq) ⟨rfl, rfl, Nat.le_of_ble_eq_true rfl, Nat.le_of_ble_eq_true rfl⟩ [] rfl rfl rfl rfl rfl rfl hl.1 (Nat.le_of_ble_eq_true rfl) ⟨Nat.zero_le _, Nat.zero_le _⟩ dX6_net_1 (fun H locs hW => ?_)
  refine lv_if_eq (tgt := 15) hx hb dX6_net_4 (by decide) (fun c24 => ?_) (fun c24 => ?_)
  · have h := (if_pos c24).symm.trans h
    refine lv_iconst hx hb dX6_net_15 qI_m1 ?_
    obtain rfl := Option.some.inj h
    exact g_iret X hW dX6_net_16
  · have h := (if_neg c24).symm.trans h
    refine lv_aload_n hx hb dX6_net_7 rfl (lv_at hl 0 rfl) ?_
    refine lv_iload_n hx hb dX6_net_8 rfl (lv_at hl 2 rfl) ?_
    obtain ⟨r29, hq, h⟩ := bn1_some h
    refine g_cvi X hW (As := [.int v2]) (ws' := (wX6_net G a_eb a_desk a_desk_boxes a_desk_boxes_a a_desk_uses a_desk_uses_a a_kept a_tape a_text a_plan a_mat a_desk_words a_desk_weeks a_desk_routes a_desk_offers a_desk_wants a_desk_leaves a_desk_leases isKept planStands today lack rate free boxes_r boxes_f uses_r uses_f)) ckX6_net_X6_isPastDay_123 (kcX6_isPastDay (l := l) G a_eb a_desk a_kept a_tape a_text a_plan a_mat a_desk_boxes a_desk_words a_desk_weeks a_desk_routes a_desk_offers a_desk_wants a_desk_leaves a_desk_leases a_desk_uses v2 isKept planStands today lack rate free hq) ⟨rfl, rfl, Nat.le_of_ble_eq_true rfl, Nat.le_of_ble_eq_true rfl⟩ [0, 1] rfl rfl rfl rfl rfl rfl rfl hl.1 (Nat.le_of_ble_eq_true rfl) ⟨Nat.zero_le _, Nat.zero_le _⟩ dX6_net_9 (fun H locs hW => ?_)
    refine lv_if_ne (tgt := 17) hx hb dX6_net_12 (by decide) (fun c30 => ?_) (fun c30 => ?_)
    · have h := (if_neg c30).symm.trans h
      refine lv_ldcw hx hb X.1.2.2.2.1 (X.1.2.2.2.2 _ cwX6_net_300) dX6_net_17 ?_
      refine lv_istore_n (lv' := [(3, .int (1000000 : Int32)), (0, .ref a_eb), (1, .int v1), (2, .int v2)]) hx hb dX6_net_20 rfl hl (by decide) rfl (fun ls hl => ?_)
      refine lv_iconst hx hb dX6_net_21 qI_0 ?_
      refine lv_istore (lv' := [(4, .int (0 : Int32)), (3, .int (1000000 : Int32)), (0, .ref a_eb), (1, .int v1), (2, .int v2)]) hx hb dX6_net_22 hl (by decide) rfl (fun ls hl => ?_)
      exact tX6_net_24 X v1 v2 FU (1000000 : Int32) (0 : Int32) h H locs hW ls (lv_sub hl [2, 3, 4, 1, 0] rfl)
    · have h := (if_pos c30).symm.trans h
      refine lv_iconst hx hb dX6_net_15 qI_m1 ?_
      obtain rfl := Option.some.inj h
      exact g_iret X hW dX6_net_16
theorem kcX6_net {l : Launch} (G : Gt) (a_eb a_desk a_desk_boxes a_desk_boxes_a a_desk_uses a_desk_uses_a a_kept a_tape a_text a_plan a_mat a_desk_words a_desk_weeks a_desk_routes a_desk_offers a_desk_wants a_desk_leaves a_desk_leases : Nat) (v1 : Int32) (v2 : Int32) (isKept : Int32) (planStands : Int32) (today : Int32) (lack : Int32) (rate : Int32) (free : Int32) (boxes_r : Int32) (boxes_f : (Nat → Int32)) (uses_r : Int32) (uses_f : (Nat → Int32)) {r : Int32}  (h : fX6_net v1 v2 today rate free boxes_r boxes_f uses_r uses_f = some r) : CtI G l yX6_net wsX6_net rmX6_net [.ref a_eb, .int v1, .int v2] (wX6_net G a_eb a_desk a_desk_boxes a_desk_boxes_a a_desk_uses a_desk_uses_a a_kept a_tape a_text a_plan a_mat a_desk_words a_desk_weeks a_desk_routes a_desk_offers a_desk_wants a_desk_leaves a_desk_leases isKept planStands today lack rate free boxes_r boxes_f uses_r uses_f) r (wX6_net G a_eb a_desk a_desk_boxes a_desk_boxes_a a_desk_uses a_desk_uses_a a_kept a_tape a_text a_plan a_mat a_desk_words a_desk_weeks a_desk_routes a_desk_offers a_desk_wants a_desk_leaves a_desk_leases isKept planStands today lack rate free boxes_r boxes_f uses_r uses_f) := k0X6_net G a_eb a_desk a_desk_boxes a_desk_boxes_a a_desk_uses a_desk_uses_a a_kept a_tape a_text a_plan a_mat a_desk_words a_desk_weeks a_desk_routes a_desk_offers a_desk_wants a_desk_leaves a_desk_leases v1 v2 isKept planStands today lack rate free boxes_r boxes_f uses_r uses_f h
end MX6_net
/-! EmptyBoxes.owes -/
section MX6_owes
theorem hdX6_owes : yX6_owes.cls = RX6 ∧ yX6_owes.cls ≠ "java/lang/invoke/MethodHandle" ∧ yX6_owes.cls ≠ "java/lang/invoke/VarHandle" ∧ (parseMethodDescriptor yX6_owes.desc).map (fun d => d.parameters.length) = some 3 := by decide +kernel
abbrev wX6_owes (G : Gt) (a_eb a_desk a_desk_boxes a_desk_boxes_a a_desk_uses a_desk_uses_a a_kept a_tape a_text a_plan a_mat a_desk_words a_desk_weeks a_desk_routes a_desk_offers a_desk_wants a_desk_leaves a_desk_leases : Nat) (isKept : Int32) (planStands : Int32) (today : Int32) (lack : Int32) (rate : Int32) (free : Int32) (boxes_r : Int32) (boxes_f : (Nat → Int32)) (uses_r : Int32) (uses_f : (Nat → Int32)) : va_W := [(a_eb, .inr (6, [.ref a_desk, .ref a_kept, .ref a_tape, .ref a_text, .ref a_plan, .ref a_mat, .int isKept, .int planStands])), (a_desk, .inr (0, [.ref a_desk_boxes, .ref a_desk_words, .ref a_desk_weeks, .ref a_desk_routes, .ref a_desk_offers, .ref a_desk_wants, .ref a_desk_leaves, .ref a_desk_leases, .ref a_desk_uses, .int today, .int lack, .int rate, .int free])), (a_desk_boxes, .inr (4, [.ref a_desk_boxes_a, .int (9 : Int32), .int (24 : Int32), .int boxes_r])), (a_desk_boxes_a, .inl (G.2.1, 216, .inl boxes_f)), (a_desk_uses, .inr (4, [.ref a_desk_uses_a, .int (6 : Int32), .int (40 : Int32), .int uses_r])), (a_desk_uses_a, .inl (G.2.1, 240, .inl uses_f))]
abbrev rmX6_owes : Room := { frames := 4, cells := 0, slots := 0, locals := 92 }
theorem ckX6_owes_X6_debt_301 : CkV wsX6_owes RX6 301 yX6_debt wsX6_debt cX6_debt 7 (some .int) 3 6 := ⟨RX6, TX6, 8, _, rfl, gX6_owes_X6_debt, rfl, hdX6_debt⟩
theorem ckX6_owes_X6_isLine_69 : CkS wsX6_owes RX6 69 yX6_isLine wsX6_isLine cX6_isLine 1 (some .boolean) 1 := ⟨_, gX6_owes_X6_isLine, rfl, hdX6_isLine.2⟩
theorem ckX6_owes_X6_isPastDay_123 : CkV wsX6_owes RX6 123 yX6_isPastDay wsX6_isPastDay cX6_isPastDay 2 (some .boolean) 1 6 := ⟨RX6, TX6, 8, _, rfl, gX6_owes_X6_isPastDay, rfl, hdX6_isPastDay⟩
variable {p : Program} {l : Launch} {e : Env} {s : State} {m : MethodId} {args : Array Value} {below : List Frame} {meth : Method} {c : Code} {A : Nat → Prop} {G : Gt} {a_eb a_desk a_desk_boxes a_desk_boxes_a a_desk_uses a_desk_uses_a a_kept a_tape a_text a_plan a_mat a_desk_words a_desk_weeks a_desk_routes a_desk_offers a_desk_wants a_desk_leaves a_desk_leases : Nat} {isKept : Int32} {planStands : Int32} {today : Int32} {lack : Int32} {rate : Int32} {free : Int32} {boxes_r : Int32} {boxes_f : (Nat → Int32)} {uses_r : Int32} {uses_f : (Nat → Int32)} {res : Int32}
set_option maxHeartbeats 4000000 in
set_option maxRecDepth 100000 in
theorem k0X6_owes {l : Launch} (G : Gt) (a_eb a_desk a_desk_boxes a_desk_boxes_a a_desk_uses a_desk_uses_a a_kept a_tape a_text a_plan a_mat a_desk_words a_desk_weeks a_desk_routes a_desk_offers a_desk_wants a_desk_leaves a_desk_leases : Nat) (v1 : Int32) (v2 : Int32) (v3 : Int32) (isKept : Int32) (planStands : Int32) (today : Int32) (lack : Int32) (rate : Int32) (free : Int32) (boxes_r : Int32) (boxes_f : (Nat → Int32)) (uses_r : Int32) (uses_f : (Nat → Int32)) {res : Int32} (h : fX6_owes v1 v2 v3 today rate free boxes_r boxes_f uses_r uses_f = some res) : CtI G l yX6_owes wsX6_owes rmX6_owes [.ref a_eb, .int v1, .int v2, .int v3] (wX6_owes G a_eb a_desk a_desk_boxes a_desk_boxes_a a_desk_uses a_desk_uses_a a_kept a_tape a_text a_plan a_mat a_desk_words a_desk_weeks a_desk_routes a_desk_offers a_desk_wants a_desk_leaves a_desk_leases isKept planStands today lack rate free boxes_r boxes_f uses_r uses_f) res (wX6_owes G a_eb a_desk a_desk_boxes a_desk_boxes_a a_desk_uses a_desk_uses_a a_kept a_tape a_text a_plan a_mat a_desk_words a_desk_weeks a_desk_routes a_desk_offers a_desk_wants a_desk_leaves a_desk_leases isKept planStands today lack rate free boxes_r boxes_f uses_r uses_f) := by
  refine CtI.mk (cc := cX6_owes) (maxL := 4) (ret := (some .int)) (own := RX6) (by decide) rfl rfl (Nat.le_of_ble_eq_true rfl) ?_
  intro p e s m below meth c A X ls hl hW
  obtain ⟨hx, hb, -⟩ := id X.1
  have hl : lv_has ls 4 [(0, .ref a_eb), (1, .int v1), (2, .int v2), (3, .int v3)] := hl
  generalize hH : s.heap = H at hW ⊢
  generalize hLo : ([] : List Loc) = locs at hW ⊢
  rw [fX6_owes] at h
  refine lv_iload_n hx hb dX6_owes_0 rfl (lv_at hl 1 rfl) ?_
  obtain ⟨r2, hq, h⟩ := bn1_some h
  refine g_csi X hW (As := [.int v1]) (ws' := (wX6_owes G a_eb a_desk a_desk_boxes a_desk_boxes_a a_desk_uses a_desk_uses_a a_kept a_tape a_text a_plan a_mat a_desk_words a_desk_weeks a_desk_routes a_desk_offers a_desk_wants a_desk_leaves a_desk_leases isKept planStands today lack rate free boxes_r boxes_f uses_r uses_f)) ckX6_owes_X6_isLine_69 (kcX6_isLine (l := l) G v1 hq) ⟨rfl, rfl, Nat.le_of_ble_eq_true rfl, Nat.le_of_ble_eq_true rfl⟩ [] rfl rfl rfl rfl rfl rfl hl.1 (Nat.le_of_ble_eq_true rfl) ⟨Nat.zero_le _, Nat.zero_le _⟩ dX6_owes_1 (fun H locs hW => ?_)
  refine lv_if_eq (tgt := 22) hx hb dX6_owes_4 (by decide) (fun c3 => ?_) (fun c3 => ?_)
  · have h := (if_pos c3).symm.trans h
    refine lv_iconst hx hb dX6_owes_22 qI_m1 ?_
    obtain rfl := Option.some.inj h
    exact g_iret X hW dX6_owes_23
  · have h := (if_neg c3).symm.trans h
    refine lv_iload_n hx hb dX6_owes_7 rfl (lv_at hl 2 rfl) ?_
    obtain ⟨r7, hq, h⟩ := bn1_some h
    refine g_csi X hW (As := [.int v2]) (ws' := (wX6_owes G a_eb a_desk a_desk_boxes a_desk_boxes_a a_desk_uses a_desk_uses_a a_kept a_tape a_text a_plan a_mat a_desk_words a_desk_weeks a_desk_routes a_desk_offers a_desk_wants a_desk_leaves a_desk_leases isKept planStands today lack rate free boxes_r boxes_f uses_r uses_f)) ckX6_owes_X6_isLine_69 (kcX6_isLine (l := l) G v2 hq) ⟨rfl, rfl, Nat.le_of_ble_eq_true rfl, Nat.le_of_ble_eq_true rfl⟩ [] rfl rfl rfl rfl rfl rfl hl.1 (Nat.le_of_ble_eq_true rfl) ⟨Nat.zero_le _, Nat.zero_le _⟩ dX6_owes_8 (fun H locs hW => ?_)
    refine lv_if_eq (tgt := 22) hx hb dX6_owes_11 (by decide) (fun c8 => ?_) (fun c8 => ?_)
    · have h := (if_pos c8).symm.trans h
      refine lv_iconst hx hb dX6_owes_22 qI_m1 ?_
      obtain rfl := Option.some.inj h
      exact g_iret X hW dX6_owes_23
    · have h := (if_neg c8).symm.trans h
      refine lv_aload_n hx hb dX6_owes_14 rfl (lv_at hl 0 rfl) ?_
      refine lv_iload_n hx hb dX6_owes_15 rfl (lv_at hl 3 rfl) ?_
      obtain ⟨r13, hq, h⟩ := bn1_some h
      refine g_cvi X hW (As := [.int v3]) (ws' := (wX6_owes G a_eb a_desk a_desk_boxes a_desk_boxes_a a_desk_uses a_desk_uses_a a_kept a_tape a_text a_plan a_mat a_desk_words a_desk_weeks a_desk_routes a_desk_offers a_desk_wants a_desk_leaves a_desk_leases isKept planStands today lack rate free boxes_r boxes_f uses_r uses_f)) ckX6_owes_X6_isPastDay_123 (kcX6_isPastDay (l := l) G a_eb a_desk a_kept a_tape a_text a_plan a_mat a_desk_boxes a_desk_words a_desk_weeks a_desk_routes a_desk_offers a_desk_wants a_desk_leaves a_desk_leases a_desk_uses v3 isKept planStands today lack rate free hq) ⟨rfl, rfl, Nat.le_of_ble_eq_true rfl, Nat.le_of_ble_eq_true rfl⟩ [0, 1] rfl rfl rfl rfl rfl rfl rfl hl.1 (Nat.le_of_ble_eq_true rfl) ⟨Nat.zero_le _, Nat.zero_le _⟩ dX6_owes_16 (fun H locs hW => ?_)
      refine lv_if_ne (tgt := 24) hx hb dX6_owes_19 (by decide) (fun c14 => ?_) (fun c14 => ?_)
      · have h := (if_neg c14).symm.trans h
        refine lv_aload_n hx hb dX6_owes_24 rfl (lv_at hl 0 rfl) ?_
        refine lv_iload_n hx hb dX6_owes_25 rfl (lv_at hl 1 rfl) ?_
        refine lv_iload_n hx hb dX6_owes_26 rfl (lv_at hl 2 rfl) ?_
        refine lv_iload_n hx hb dX6_owes_27 rfl (lv_at hl 3 rfl) ?_
        obtain ⟨r19, hq, h⟩ := bn1_some h
        refine g_cvi X hW (As := [.int v1, .int v2, .int v3]) (ws' := (wX6_owes G a_eb a_desk a_desk_boxes a_desk_boxes_a a_desk_uses a_desk_uses_a a_kept a_tape a_text a_plan a_mat a_desk_words a_desk_weeks a_desk_routes a_desk_offers a_desk_wants a_desk_leaves a_desk_leases isKept planStands today lack rate free boxes_r boxes_f uses_r uses_f)) ckX6_owes_X6_debt_301 (kcX6_debt (l := l) G a_eb a_desk a_desk_boxes a_desk_boxes_a a_desk_uses a_desk_uses_a a_kept a_tape a_text a_plan a_mat a_desk_words a_desk_weeks a_desk_routes a_desk_offers a_desk_wants a_desk_leaves a_desk_leases v1 v2 v3 isKept planStands today lack rate free boxes_r boxes_f uses_r uses_f hq) ⟨rfl, rfl, Nat.le_of_ble_eq_true rfl, Nat.le_of_ble_eq_true rfl⟩ [0, 1, 2, 3, 4, 5] rfl rfl rfl rfl rfl rfl rfl hl.1 (Nat.le_of_ble_eq_true rfl) ⟨Nat.zero_le _, Nat.zero_le _⟩ dX6_owes_28 (fun H locs hW => ?_)
        obtain rfl := Option.some.inj h
        exact g_iret X hW dX6_owes_31
      · have h := (if_pos c14).symm.trans h
        refine lv_iconst hx hb dX6_owes_22 qI_m1 ?_
        obtain rfl := Option.some.inj h
        exact g_iret X hW dX6_owes_23
theorem kcX6_owes {l : Launch} (G : Gt) (a_eb a_desk a_desk_boxes a_desk_boxes_a a_desk_uses a_desk_uses_a a_kept a_tape a_text a_plan a_mat a_desk_words a_desk_weeks a_desk_routes a_desk_offers a_desk_wants a_desk_leaves a_desk_leases : Nat) (v1 : Int32) (v2 : Int32) (v3 : Int32) (isKept : Int32) (planStands : Int32) (today : Int32) (lack : Int32) (rate : Int32) (free : Int32) (boxes_r : Int32) (boxes_f : (Nat → Int32)) (uses_r : Int32) (uses_f : (Nat → Int32)) {r : Int32}  (h : fX6_owes v1 v2 v3 today rate free boxes_r boxes_f uses_r uses_f = some r) : CtI G l yX6_owes wsX6_owes rmX6_owes [.ref a_eb, .int v1, .int v2, .int v3] (wX6_owes G a_eb a_desk a_desk_boxes a_desk_boxes_a a_desk_uses a_desk_uses_a a_kept a_tape a_text a_plan a_mat a_desk_words a_desk_weeks a_desk_routes a_desk_offers a_desk_wants a_desk_leaves a_desk_leases isKept planStands today lack rate free boxes_r boxes_f uses_r uses_f) r (wX6_owes G a_eb a_desk a_desk_boxes a_desk_boxes_a a_desk_uses a_desk_uses_a a_kept a_tape a_text a_plan a_mat a_desk_words a_desk_weeks a_desk_routes a_desk_offers a_desk_wants a_desk_leaves a_desk_leases isKept planStands today lack rate free boxes_r boxes_f uses_r uses_f) := k0X6_owes G a_eb a_desk a_desk_boxes a_desk_boxes_a a_desk_uses a_desk_uses_a a_kept a_tape a_text a_plan a_mat a_desk_words a_desk_weeks a_desk_routes a_desk_offers a_desk_wants a_desk_leaves a_desk_leases v1 v2 v3 isKept planStands today lack rate free boxes_r boxes_f uses_r uses_f h
end MX6_owes
/-! EmptyBoxes.allBills -/
section MX6_allBills
theorem hdX6_allBills : yX6_allBills.cls = RX6 ∧ yX6_allBills.cls ≠ "java/lang/invoke/MethodHandle" ∧ yX6_allBills.cls ≠ "java/lang/invoke/VarHandle" ∧ (parseMethodDescriptor yX6_allBills.desc).map (fun d => d.parameters.length) = some 0 := by decide +kernel
abbrev wX6_allBills (G : Gt) (a_eb a_desk a_desk_boxes a_desk_boxes_a a_kept a_tape a_text a_plan a_mat a_desk_words a_desk_weeks a_desk_routes a_desk_offers a_desk_wants a_desk_leaves a_desk_leases a_desk_uses : Nat) (isKept : Int32) (planStands : Int32) (today : Int32) (lack : Int32) (rate : Int32) (free : Int32) (boxes_r : Int32) (boxes_f : (Nat → Int32)) : va_W := [(a_eb, .inr (6, [.ref a_desk, .ref a_kept, .ref a_tape, .ref a_text, .ref a_plan, .ref a_mat, .int isKept, .int planStands])), (a_desk, .inr (0, [.ref a_desk_boxes, .ref a_desk_words, .ref a_desk_weeks, .ref a_desk_routes, .ref a_desk_offers, .ref a_desk_wants, .ref a_desk_leaves, .ref a_desk_leases, .ref a_desk_uses, .int today, .int lack, .int rate, .int free])), (a_desk_boxes, .inr (4, [.ref a_desk_boxes_a, .int (9 : Int32), .int (24 : Int32), .int boxes_r])), (a_desk_boxes_a, .inl (G.2.1, 216, .inl boxes_f))]
abbrev rmX6_allBills : Room := { frames := 2, cells := 0, slots := 0, locals := 44 }
theorem iX6_allBills_X0 : ∀ w ∈ wsX00, w ∈ wsX6_allBills := by decide +kernel
theorem iX6_allBills_X6 : ∀ w ∈ wsX60, w ∈ wsX6_allBills := by decide +kernel
theorem eX6_allBills_12 : Fk wsX6_allBills RX6 12 6 0 := ⟨RX6, TX6, 8, rfl, iX6_allBills_X6, by decide, by decide +kernel⟩
theorem eX6_allBills_82 : Fk wsX6_allBills RX6 82 0 0 := ⟨RX0, TX0, 13, rfl, iX6_allBills_X0, by decide, by decide +kernel⟩
theorem ckX6_allBills_X4_cell_113 : CkV wsX6_allBills RX6 113 yX4_cell wsX4_cell cX4_cell 3 (some .int) 2 4 := ⟨RX4, TX4, 4, _, rfl, gX6_allBills_X4_cell, rfl, hdX4_cell⟩
theorem ckX6_allBills_X4_size_117 : CkV wsX6_allBills RX6 117 yX4_size wsX4_size cX4_size 1 (some .int) 0 4 := ⟨RX4, TX4, 4, _, rfl, gX6_allBills_X4_size, rfl, hdX4_size⟩
theorem cmX6_allBills_285 : CkM wsX6_allBills RX6 285 Lib.Math.max.name Lib.Math.max.code 2 := by decide +kernel
variable {p : Program} {l : Launch} {e : Env} {s : State} {m : MethodId} {args : Array Value} {below : List Frame} {meth : Method} {c : Code} {A : Nat → Prop} {G : Gt} {a_eb a_desk a_desk_boxes a_desk_boxes_a a_kept a_tape a_text a_plan a_mat a_desk_words a_desk_weeks a_desk_routes a_desk_offers a_desk_wants a_desk_leaves a_desk_leases a_desk_uses : Nat} {isKept : Int32} {planStands : Int32} {today : Int32} {lack : Int32} {rate : Int32} {free : Int32} {boxes_r : Int32} {boxes_f : (Nat → Int32)} {res : Int32}
set_option maxHeartbeats 4000000 in
set_option maxRecDepth 100000 in
theorem tX6_allBills_4 (X : Bx p s m args meth c cX6_allBills 3 wsX6_allBills RX6 (some .int))    : ∀ (n : Nat) (v1 : Int32) (v2 : Int32), fX6_allBills_4 boxes_r boxes_f n v1 v2 = some res → ∀ (H : Heap) (locs : List Loc), Wo G A s (wX6_allBills G a_eb a_desk a_desk_boxes a_desk_boxes_a a_kept a_tape a_text a_plan a_mat a_desk_words a_desk_weeks a_desk_routes a_desk_offers a_desk_wants a_desk_leaves a_desk_leases a_desk_uses isKept planStands today lack rate free boxes_r boxes_f) H locs → ∀ ls : Array Slot, lv_has ls 3 [(0, .ref a_eb), (1, .int v1), (2, .int v2)] → W p l e rmX6_allBills s m args below meth c H locs 0 0 (QI G A below args s res (wX6_allBills G a_eb a_desk a_desk_boxes a_desk_boxes_a a_kept a_tape a_text a_plan a_mat a_desk_words a_desk_weeks a_desk_routes a_desk_offers a_desk_wants a_desk_leaves a_desk_leases a_desk_uses isKept planStands today lack rate free boxes_r boxes_f)) (F0 m 4 ls []) := by
  obtain ⟨hx, hb, -⟩ := id X.1
  intro n
  induction n with
  | zero => intro v1 v2 h; rw [fX6_allBills_4] at h; cases h
  | succ n ih =>
    intro v1 v2 h H locs hW ls hl
    rw [fX6_allBills_4] at h
    refine lv_iload_n hx hb dX6_allBills_4 rfl (lv_at hl 2 rfl) ?_
    refine lv_aload_n hx hb dX6_allBills_5 rfl (lv_at hl 0 rfl) ?_
    refine g_get X hW eX6_allBills_12 0 rfl rfl dX6_allBills_6 ?_
    refine g_get X hW eX6_allBills_82 1 rfl rfl dX6_allBills_9 ?_
    obtain ⟨r5, hq, h⟩ := bn1_some h
    refine g_cvi X hW (As := []) (ws' := (wX6_allBills G a_eb a_desk a_desk_boxes a_desk_boxes_a a_kept a_tape a_text a_plan a_mat a_desk_words a_desk_weeks a_desk_routes a_desk_offers a_desk_wants a_desk_leaves a_desk_leases a_desk_uses isKept planStands today lack rate free boxes_r boxes_f)) ckX6_allBills_X4_size_117 (kcX4_size (l := l) G a_desk_boxes a_desk_boxes_a (9 : Int32) (24 : Int32) boxes_r hq) ⟨rfl, rfl, Nat.le_of_ble_eq_true rfl, Nat.le_of_ble_eq_true rfl⟩ [2] rfl rfl rfl rfl rfl rfl rfl hl.1 (Nat.le_of_ble_eq_true rfl) ⟨Nat.zero_le _, Nat.zero_le _⟩ dX6_allBills_12 (fun H locs hW => ?_)
    refine lv_icmp_ge (tgt := 44) hx hb dX6_allBills_15 (by decide) (fun c6 => ?_) (fun c6 => ?_)
    · have h := (if_pos c6).symm.trans h
      refine lv_iload_n hx hb dX6_allBills_44 rfl (lv_at hl 1 rfl) ?_
      obtain rfl := Option.some.inj h
      exact g_iret X hW dX6_allBills_45
    · have h := (if_neg c6).symm.trans h
      refine lv_iload_n hx hb dX6_allBills_18 rfl (lv_at hl 1 rfl) ?_
      refine lv_iconst hx hb dX6_allBills_19 qI_0 ?_
      refine lv_aload_n hx hb dX6_allBills_20 rfl (lv_at hl 0 rfl) ?_
      refine g_get X hW eX6_allBills_12 0 rfl rfl dX6_allBills_21 ?_
      refine g_get X hW eX6_allBills_82 1 rfl rfl dX6_allBills_24 ?_
      refine lv_iload_n hx hb dX6_allBills_27 rfl (lv_at hl 2 rfl) ?_
      refine lv_bipush hx hb dX6_allBills_28 qB_6 ?_
      obtain ⟨r16, hq, h⟩ := bn1_some h
      refine g_cvi X hW (As := [.int v2, .int (6 : Int32)]) (ws' := (wX6_allBills G a_eb a_desk a_desk_boxes a_desk_boxes_a a_kept a_tape a_text a_plan a_mat a_desk_words a_desk_weeks a_desk_routes a_desk_offers a_desk_wants a_desk_leaves a_desk_leases a_desk_uses isKept planStands today lack rate free boxes_r boxes_f)) ckX6_allBills_X4_cell_113 (kcX4_cell (l := l) G a_desk_boxes a_desk_boxes_a v2 (6 : Int32) (9 : Int32) (24 : Int32) boxes_r 216 boxes_f hq) ⟨rfl, rfl, Nat.le_of_ble_eq_true rfl, Nat.le_of_ble_eq_true rfl⟩ [2, 3] rfl rfl rfl rfl rfl rfl rfl hl.1 (Nat.le_of_ble_eq_true rfl) ⟨Nat.zero_le _, Nat.zero_le _⟩ dX6_allBills_30 (fun H locs hW => ?_)
      refine g_mmax X cmX6_allBills_285 hl.1 (Nat.le_of_ble_eq_true rfl) (Nat.le_of_ble_eq_true rfl) ⟨Nat.zero_le _, Nat.zero_le _⟩ dX6_allBills_33 ?_
      refine lv_iadd hx hb dX6_allBills_36 ?_
      refine lv_istore_n (lv' := [(1, .int (v1 + (imax (0 : Int32) r16))), (0, .ref a_eb), (2, .int v2)]) hx hb dX6_allBills_37 rfl hl (by decide) rfl (fun ls hl => ?_)
      refine lv_iinc (v := (v2 + (1 : Int32))) (lv' := [(2, .int (v2 + (1 : Int32))), (1, .int (v1 + (imax (0 : Int32) r16))), (0, .ref a_eb)]) hx hb dX6_allBills_38 hl (k := 2) rfl (congrArg (fun z => v2 + z) qI_1) (by decide) rfl (fun ls hl => ?_)
      refine lv_goto (tgt := 4) hx hb dX6_allBills_41 (by decide) ?_
      exact ih (v1 + (imax (0 : Int32) r16)) (v2 + (1 : Int32)) h H locs hW ls (lv_sub hl [2, 1, 0] rfl)
set_option maxHeartbeats 4000000 in
set_option maxRecDepth 100000 in
theorem k0X6_allBills {l : Launch} (G : Gt) (a_eb a_desk a_desk_boxes a_desk_boxes_a a_kept a_tape a_text a_plan a_mat a_desk_words a_desk_weeks a_desk_routes a_desk_offers a_desk_wants a_desk_leaves a_desk_leases a_desk_uses : Nat)  (isKept : Int32) (planStands : Int32) (today : Int32) (lack : Int32) (rate : Int32) (free : Int32) (boxes_r : Int32) (boxes_f : (Nat → Int32)) {res : Int32} (h : fX6_allBills boxes_r boxes_f = some res) : CtI G l yX6_allBills wsX6_allBills rmX6_allBills [.ref a_eb] (wX6_allBills G a_eb a_desk a_desk_boxes a_desk_boxes_a a_kept a_tape a_text a_plan a_mat a_desk_words a_desk_weeks a_desk_routes a_desk_offers a_desk_wants a_desk_leaves a_desk_leases a_desk_uses isKept planStands today lack rate free boxes_r boxes_f) res (wX6_allBills G a_eb a_desk a_desk_boxes a_desk_boxes_a a_kept a_tape a_text a_plan a_mat a_desk_words a_desk_weeks a_desk_routes a_desk_offers a_desk_wants a_desk_leaves a_desk_leases a_desk_uses isKept planStands today lack rate free boxes_r boxes_f) := by
  refine CtI.mk (cc := cX6_allBills) (maxL := 3) (ret := (some .int)) (own := RX6) (by decide) rfl rfl (Nat.le_of_ble_eq_true rfl) ?_
  intro p e s m below meth c A X ls hl hW
  obtain ⟨hx, hb, -⟩ := id X.1
  have hl : lv_has ls 3 [(0, .ref a_eb)] := hl
  generalize hH : s.heap = H at hW ⊢
  generalize hLo : ([] : List Loc) = locs at hW ⊢
  rw [fX6_allBills] at h
  refine lv_iconst hx hb dX6_allBills_0 qI_0 ?_
  refine lv_istore_n (lv' := [(1, .int (0 : Int32)), (0, .ref a_eb)]) hx hb dX6_allBills_1 rfl hl (by decide) rfl (fun ls hl => ?_)
  refine lv_iconst hx hb dX6_allBills_2 qI_0 ?_
  refine lv_istore_n (lv' := [(2, .int (0 : Int32)), (1, .int (0 : Int32)), (0, .ref a_eb)]) hx hb dX6_allBills_3 rfl hl (by decide) rfl (fun ls hl => ?_)
  exact tX6_allBills_4 X  FU (0 : Int32) (0 : Int32) h H locs hW ls (lv_sub hl [2, 1, 0] rfl)
theorem kcX6_allBills {l : Launch} (G : Gt) (a_eb a_desk a_desk_boxes a_desk_boxes_a a_kept a_tape a_text a_plan a_mat a_desk_words a_desk_weeks a_desk_routes a_desk_offers a_desk_wants a_desk_leaves a_desk_leases a_desk_uses : Nat)  (isKept : Int32) (planStands : Int32) (today : Int32) (lack : Int32) (rate : Int32) (free : Int32) (boxes_r : Int32) (boxes_f : (Nat → Int32)) {r : Int32}  (h : fX6_allBills boxes_r boxes_f = some r) : CtI G l yX6_allBills wsX6_allBills rmX6_allBills [.ref a_eb] (wX6_allBills G a_eb a_desk a_desk_boxes a_desk_boxes_a a_kept a_tape a_text a_plan a_mat a_desk_words a_desk_weeks a_desk_routes a_desk_offers a_desk_wants a_desk_leaves a_desk_leases a_desk_uses isKept planStands today lack rate free boxes_r boxes_f) r (wX6_allBills G a_eb a_desk a_desk_boxes a_desk_boxes_a a_kept a_tape a_text a_plan a_mat a_desk_words a_desk_weeks a_desk_routes a_desk_offers a_desk_wants a_desk_leaves a_desk_leases a_desk_uses isKept planStands today lack rate free boxes_r boxes_f) := k0X6_allBills G a_eb a_desk a_desk_boxes a_desk_boxes_a a_kept a_tape a_text a_plan a_mat a_desk_words a_desk_weeks a_desk_routes a_desk_offers a_desk_wants a_desk_leaves a_desk_leases a_desk_uses isKept planStands today lack rate free boxes_r boxes_f h
end MX6_allBills
/-! EmptyBoxes.boxesOfFate -/
section MX6_boxesOfFate
theorem hdX6_boxesOfFate : yX6_boxesOfFate.cls = RX6 ∧ yX6_boxesOfFate.cls ≠ "java/lang/invoke/MethodHandle" ∧ yX6_boxesOfFate.cls ≠ "java/lang/invoke/VarHandle" ∧ (parseMethodDescriptor yX6_boxesOfFate.desc).map (fun d => d.parameters.length) = some 1 := by decide +kernel
abbrev wX6_boxesOfFate (G : Gt) (a_eb a_desk a_desk_boxes a_desk_boxes_a a_kept a_tape a_text a_plan a_mat a_desk_words a_desk_weeks a_desk_routes a_desk_offers a_desk_wants a_desk_leaves a_desk_leases a_desk_uses : Nat) (isKept : Int32) (planStands : Int32) (today : Int32) (lack : Int32) (rate : Int32) (free : Int32) (boxes_r : Int32) (boxes_f : (Nat → Int32)) : va_W := [(a_eb, .inr (6, [.ref a_desk, .ref a_kept, .ref a_tape, .ref a_text, .ref a_plan, .ref a_mat, .int isKept, .int planStands])), (a_desk, .inr (0, [.ref a_desk_boxes, .ref a_desk_words, .ref a_desk_weeks, .ref a_desk_routes, .ref a_desk_offers, .ref a_desk_wants, .ref a_desk_leaves, .ref a_desk_leases, .ref a_desk_uses, .int today, .int lack, .int rate, .int free])), (a_desk_boxes, .inr (4, [.ref a_desk_boxes_a, .int (9 : Int32), .int (24 : Int32), .int boxes_r])), (a_desk_boxes_a, .inl (G.2.1, 216, .inl boxes_f))]
abbrev rmX6_boxesOfFate : Room := { frames := 2, cells := 0, slots := 0, locals := 44 }
theorem iX6_boxesOfFate_X0 : ∀ w ∈ wsX00, w ∈ wsX6_boxesOfFate := by decide +kernel
theorem iX6_boxesOfFate_X6 : ∀ w ∈ wsX60, w ∈ wsX6_boxesOfFate := by decide +kernel
theorem eX6_boxesOfFate_12 : Fk wsX6_boxesOfFate RX6 12 6 0 := ⟨RX6, TX6, 8, rfl, iX6_boxesOfFate_X6, by decide, by decide +kernel⟩
theorem eX6_boxesOfFate_82 : Fk wsX6_boxesOfFate RX6 82 0 0 := ⟨RX0, TX0, 13, rfl, iX6_boxesOfFate_X0, by decide, by decide +kernel⟩
theorem ckX6_boxesOfFate_X4_cell_113 : CkV wsX6_boxesOfFate RX6 113 yX4_cell wsX4_cell cX4_cell 3 (some .int) 2 4 := ⟨RX4, TX4, 4, _, rfl, gX6_boxesOfFate_X4_cell, rfl, hdX4_cell⟩
theorem ckX6_boxesOfFate_X4_size_117 : CkV wsX6_boxesOfFate RX6 117 yX4_size wsX4_size cX4_size 1 (some .int) 0 4 := ⟨RX4, TX4, 4, _, rfl, gX6_boxesOfFate_X4_size, rfl, hdX4_size⟩
variable {p : Program} {l : Launch} {e : Env} {s : State} {m : MethodId} {args : Array Value} {below : List Frame} {meth : Method} {c : Code} {A : Nat → Prop} {G : Gt} {a_eb a_desk a_desk_boxes a_desk_boxes_a a_kept a_tape a_text a_plan a_mat a_desk_words a_desk_weeks a_desk_routes a_desk_offers a_desk_wants a_desk_leaves a_desk_leases a_desk_uses : Nat} {isKept : Int32} {planStands : Int32} {today : Int32} {lack : Int32} {rate : Int32} {free : Int32} {boxes_r : Int32} {boxes_f : (Nat → Int32)} {res : Int32}
set_option maxHeartbeats 4000000 in
set_option maxRecDepth 100000 in
theorem tX6_boxesOfFate_37 (X : Bx p s m args meth c cX6_boxesOfFate 4 wsX6_boxesOfFate RX6 (some .int)) (v1 : Int32) (v2 : Int32) (v3 : Int32) (k_4 : Int32 → Int32 → Option (Int32)) (Hk_4 : ∀ (v2 : Int32) (v3 : Int32), k_4 v2 v3 = some res → ∀ (H : Heap) (locs : List Loc), Wo G A s (wX6_boxesOfFate G a_eb a_desk a_desk_boxes a_desk_boxes_a a_kept a_tape a_text a_plan a_mat a_desk_words a_desk_weeks a_desk_routes a_desk_offers a_desk_wants a_desk_leaves a_desk_leases a_desk_uses isKept planStands today lack rate free boxes_r boxes_f) H locs → ∀ ls : Array Slot, lv_has ls 4 [(0, .ref a_eb), (1, .int v1), (2, .int v2), (3, .int v3)] → W p l e rmX6_boxesOfFate s m args below meth c H locs 0 0 (QI G A below args s res (wX6_boxesOfFate G a_eb a_desk a_desk_boxes a_desk_boxes_a a_kept a_tape a_text a_plan a_mat a_desk_words a_desk_weeks a_desk_routes a_desk_offers a_desk_wants a_desk_leaves a_desk_leases a_desk_uses isKept planStands today lack rate free boxes_r boxes_f)) (F0 m 4 ls [])) (h : fX6_boxesOfFate_37 k_4 v2 v3 = some res) : ∀ (H : Heap) (locs : List Loc), Wo G A s (wX6_boxesOfFate G a_eb a_desk a_desk_boxes a_desk_boxes_a a_kept a_tape a_text a_plan a_mat a_desk_words a_desk_weeks a_desk_routes a_desk_offers a_desk_wants a_desk_leaves a_desk_leases a_desk_uses isKept planStands today lack rate free boxes_r boxes_f) H locs → ∀ ls : Array Slot, lv_has ls 4 [(0, .ref a_eb), (1, .int v1), (2, .int v2), (3, .int v3)] → W p l e rmX6_boxesOfFate s m args below meth c H locs 0 0 (QI G A below args s res (wX6_boxesOfFate G a_eb a_desk a_desk_boxes a_desk_boxes_a a_kept a_tape a_text a_plan a_mat a_desk_words a_desk_weeks a_desk_routes a_desk_offers a_desk_wants a_desk_leaves a_desk_leases a_desk_uses isKept planStands today lack rate free boxes_r boxes_f)) (F0 m 37 ls []) := by
  obtain ⟨hx, hb, -⟩ := id X.1
  intro H locs hW ls hl
  rw [fX6_boxesOfFate_37] at h
  refine lv_iinc (v := (v3 + (1 : Int32))) (lv' := [(3, .int (v3 + (1 : Int32))), (0, .ref a_eb), (1, .int v1), (2, .int v2)]) hx hb dX6_boxesOfFate_37 hl (k := 3) rfl (congrArg (fun z => v3 + z) qI_1) (by decide) rfl (fun ls hl => ?_)
  refine lv_goto (tgt := 4) hx hb dX6_boxesOfFate_40 (by decide) ?_
  exact Hk_4 v2 (v3 + (1 : Int32)) h H locs hW ls (lv_sub hl [1, 2, 3, 0] rfl)
set_option maxHeartbeats 4000000 in
set_option maxRecDepth 100000 in
theorem tX6_boxesOfFate_4 (X : Bx p s m args meth c cX6_boxesOfFate 4 wsX6_boxesOfFate RX6 (some .int)) (v1 : Int32)   : ∀ (n : Nat) (v2 : Int32) (v3 : Int32), fX6_boxesOfFate_4 v1 boxes_r boxes_f n v2 v3 = some res → ∀ (H : Heap) (locs : List Loc), Wo G A s (wX6_boxesOfFate G a_eb a_desk a_desk_boxes a_desk_boxes_a a_kept a_tape a_text a_plan a_mat a_desk_words a_desk_weeks a_desk_routes a_desk_offers a_desk_wants a_desk_leaves a_desk_leases a_desk_uses isKept planStands today lack rate free boxes_r boxes_f) H locs → ∀ ls : Array Slot, lv_has ls 4 [(0, .ref a_eb), (1, .int v1), (2, .int v2), (3, .int v3)] → W p l e rmX6_boxesOfFate s m args below meth c H locs 0 0 (QI G A below args s res (wX6_boxesOfFate G a_eb a_desk a_desk_boxes a_desk_boxes_a a_kept a_tape a_text a_plan a_mat a_desk_words a_desk_weeks a_desk_routes a_desk_offers a_desk_wants a_desk_leaves a_desk_leases a_desk_uses isKept planStands today lack rate free boxes_r boxes_f)) (F0 m 4 ls []) := by
  obtain ⟨hx, hb, -⟩ := id X.1
  intro n
  induction n with
  | zero => intro v2 v3 h; rw [fX6_boxesOfFate_4] at h; cases h
  | succ n ih =>
    intro v2 v3 h H locs hW ls hl
    rw [fX6_boxesOfFate_4] at h
    refine lv_iload_n hx hb dX6_boxesOfFate_4 rfl (lv_at hl 3 rfl) ?_
    refine lv_aload_n hx hb dX6_boxesOfFate_5 rfl (lv_at hl 0 rfl) ?_
    refine g_get X hW eX6_boxesOfFate_12 0 rfl rfl dX6_boxesOfFate_6 ?_
    refine g_get X hW eX6_boxesOfFate_82 1 rfl rfl dX6_boxesOfFate_9 ?_
    obtain ⟨r7, hq, h⟩ := bn1_some h
    refine g_cvi X hW (As := []) (ws' := (wX6_boxesOfFate G a_eb a_desk a_desk_boxes a_desk_boxes_a a_kept a_tape a_text a_plan a_mat a_desk_words a_desk_weeks a_desk_routes a_desk_offers a_desk_wants a_desk_leaves a_desk_leases a_desk_uses isKept planStands today lack rate free boxes_r boxes_f)) ckX6_boxesOfFate_X4_size_117 (kcX4_size (l := l) G a_desk_boxes a_desk_boxes_a (9 : Int32) (24 : Int32) boxes_r hq) ⟨rfl, rfl, Nat.le_of_ble_eq_true rfl, Nat.le_of_ble_eq_true rfl⟩ [2] rfl rfl rfl rfl rfl rfl rfl hl.1 (Nat.le_of_ble_eq_true rfl) ⟨Nat.zero_le _, Nat.zero_le _⟩ dX6_boxesOfFate_12 (fun H locs hW => ?_)
    refine lv_icmp_ge (tgt := 43) hx hb dX6_boxesOfFate_15 (by decide) (fun c8 => ?_) (fun c8 => ?_)
    · have h := (if_pos c8).symm.trans h
      refine lv_iload_n hx hb dX6_boxesOfFate_43 rfl (lv_at hl 2 rfl) ?_
      obtain rfl := Option.some.inj h
      exact g_iret X hW dX6_boxesOfFate_44
    · have h := (if_neg c8).symm.trans h
      refine lv_aload_n hx hb dX6_boxesOfFate_18 rfl (lv_at hl 0 rfl) ?_
      refine g_get X hW eX6_boxesOfFate_12 0 rfl rfl dX6_boxesOfFate_19 ?_
      refine g_get X hW eX6_boxesOfFate_82 1 rfl rfl dX6_boxesOfFate_22 ?_
      refine lv_iload_n hx hb dX6_boxesOfFate_25 rfl (lv_at hl 3 rfl) ?_
      refine lv_iconst hx hb dX6_boxesOfFate_26 qI_5 ?_
      obtain ⟨r16, hq, h⟩ := bn1_some h
      refine g_cvi X hW (As := [.int v3, .int (5 : Int32)]) (ws' := (wX6_boxesOfFate G a_eb a_desk a_desk_boxes a_desk_boxes_a a_kept a_tape a_text a_plan a_mat a_desk_words a_desk_weeks a_desk_routes a_desk_offers a_desk_wants a_desk_leaves a_desk_leases a_desk_uses isKept planStands today lack rate free boxes_r boxes_f)) ckX6_boxesOfFate_X4_cell_113 (kcX4_cell (l := l) G a_desk_boxes a_desk_boxes_a v3 (5 : Int32) (9 : Int32) (24 : Int32) boxes_r 216 boxes_f hq) ⟨rfl, rfl, Nat.le_of_ble_eq_true rfl, Nat.le_of_ble_eq_true rfl⟩ [2, 3] rfl rfl rfl rfl rfl rfl rfl hl.1 (Nat.le_of_ble_eq_true rfl) ⟨Nat.zero_le _, Nat.zero_le _⟩ dX6_boxesOfFate_27 (fun H locs hW => ?_)
      refine lv_iload_n hx hb dX6_boxesOfFate_30 rfl (lv_at hl 1 rfl) ?_
      refine lv_icmp_ne (tgt := 37) hx hb dX6_boxesOfFate_31 (by decide) (fun c18 => ?_) (fun c18 => ?_)
      · have h := (if_neg c18).symm.trans h
        exact tX6_boxesOfFate_37 X v1 v2 v3 (fun v2 v3 => fX6_boxesOfFate_4 v1 boxes_r boxes_f n v2 v3) ih h H locs hW ls hl
      · have h := (if_pos c18).symm.trans h
        refine lv_iinc (v := (v2 + (1 : Int32))) (lv' := [(2, .int (v2 + (1 : Int32))), (0, .ref a_eb), (1, .int v1), (3, .int v3)]) hx hb dX6_boxesOfFate_34 hl (k := 2) rfl (congrArg (fun z => v2 + z) qI_1) (by decide) rfl (fun ls hl => ?_)
        exact tX6_boxesOfFate_37 X v1 (v2 + (1 : Int32)) v3 (fun v2 v3 => fX6_boxesOfFate_4 v1 boxes_r boxes_f n v2 v3) ih h H locs hW ls (lv_sub hl [1, 2, 0, 3] rfl)
set_option maxHeartbeats 4000000 in
set_option maxRecDepth 100000 in
theorem k0X6_boxesOfFate {l : Launch} (G : Gt) (a_eb a_desk a_desk_boxes a_desk_boxes_a a_kept a_tape a_text a_plan a_mat a_desk_words a_desk_weeks a_desk_routes a_desk_offers a_desk_wants a_desk_leaves a_desk_leases a_desk_uses : Nat) (v1 : Int32) (isKept : Int32) (planStands : Int32) (today : Int32) (lack : Int32) (rate : Int32) (free : Int32) (boxes_r : Int32) (boxes_f : (Nat → Int32)) {res : Int32} (h : fX6_boxesOfFate v1 boxes_r boxes_f = some res) : CtI G l yX6_boxesOfFate wsX6_boxesOfFate rmX6_boxesOfFate [.ref a_eb, .int v1] (wX6_boxesOfFate G a_eb a_desk a_desk_boxes a_desk_boxes_a a_kept a_tape a_text a_plan a_mat a_desk_words a_desk_weeks a_desk_routes a_desk_offers a_desk_wants a_desk_leaves a_desk_leases a_desk_uses isKept planStands today lack rate free boxes_r boxes_f) res (wX6_boxesOfFate G a_eb a_desk a_desk_boxes a_desk_boxes_a a_kept a_tape a_text a_plan a_mat a_desk_words a_desk_weeks a_desk_routes a_desk_offers a_desk_wants a_desk_leaves a_desk_leases a_desk_uses isKept planStands today lack rate free boxes_r boxes_f) := by
  refine CtI.mk (cc := cX6_boxesOfFate) (maxL := 4) (ret := (some .int)) (own := RX6) (by decide) rfl rfl (Nat.le_of_ble_eq_true rfl) ?_
  intro p e s m below meth c A X ls hl hW
  obtain ⟨hx, hb, -⟩ := id X.1
  have hl : lv_has ls 4 [(0, .ref a_eb), (1, .int v1)] := hl
  generalize hH : s.heap = H at hW ⊢
  generalize hLo : ([] : List Loc) = locs at hW ⊢
  rw [fX6_boxesOfFate] at h
  refine lv_iconst hx hb dX6_boxesOfFate_0 qI_0 ?_
  refine lv_istore_n (lv' := [(2, .int (0 : Int32)), (0, .ref a_eb), (1, .int v1)]) hx hb dX6_boxesOfFate_1 rfl hl (by decide) rfl (fun ls hl => ?_)
  refine lv_iconst hx hb dX6_boxesOfFate_2 qI_0 ?_
  refine lv_istore_n (lv' := [(3, .int (0 : Int32)), (2, .int (0 : Int32)), (0, .ref a_eb), (1, .int v1)]) hx hb dX6_boxesOfFate_3 rfl hl (by decide) rfl (fun ls hl => ?_)
  exact tX6_boxesOfFate_4 X v1 FU (0 : Int32) (0 : Int32) h H locs hW ls (lv_sub hl [2, 3, 1, 0] rfl)
theorem kcX6_boxesOfFate {l : Launch} (G : Gt) (a_eb a_desk a_desk_boxes a_desk_boxes_a a_kept a_tape a_text a_plan a_mat a_desk_words a_desk_weeks a_desk_routes a_desk_offers a_desk_wants a_desk_leaves a_desk_leases a_desk_uses : Nat) (v1 : Int32) (isKept : Int32) (planStands : Int32) (today : Int32) (lack : Int32) (rate : Int32) (free : Int32) (boxes_r : Int32) (boxes_f : (Nat → Int32)) {r : Int32}  (h : fX6_boxesOfFate v1 boxes_r boxes_f = some r) : CtI G l yX6_boxesOfFate wsX6_boxesOfFate rmX6_boxesOfFate [.ref a_eb, .int v1] (wX6_boxesOfFate G a_eb a_desk a_desk_boxes a_desk_boxes_a a_kept a_tape a_text a_plan a_mat a_desk_words a_desk_weeks a_desk_routes a_desk_offers a_desk_wants a_desk_leaves a_desk_leases a_desk_uses isKept planStands today lack rate free boxes_r boxes_f) r (wX6_boxesOfFate G a_eb a_desk a_desk_boxes a_desk_boxes_a a_kept a_tape a_text a_plan a_mat a_desk_words a_desk_weeks a_desk_routes a_desk_offers a_desk_wants a_desk_leaves a_desk_leases a_desk_uses isKept planStands today lack rate free boxes_r boxes_f) := k0X6_boxesOfFate G a_eb a_desk a_desk_boxes a_desk_boxes_a a_kept a_tape a_text a_plan a_mat a_desk_words a_desk_weeks a_desk_routes a_desk_offers a_desk_wants a_desk_leaves a_desk_leases a_desk_uses v1 isKept planStands today lack rate free boxes_r boxes_f h
end MX6_boxesOfFate
/-! EmptyBoxes.leasesRead -/
section MX6_leasesRead
theorem hdX6_leasesRead : yX6_leasesRead.cls = RX6 ∧ yX6_leasesRead.cls ≠ "java/lang/invoke/MethodHandle" ∧ yX6_leasesRead.cls ≠ "java/lang/invoke/VarHandle" ∧ (parseMethodDescriptor yX6_leasesRead.desc).map (fun d => d.parameters.length) = some 0 := by decide +kernel
abbrev wX6_leasesRead (G : Gt) (a_eb a_desk a_desk_leases a_desk_leases_a a_kept a_tape a_text a_plan a_mat a_desk_boxes a_desk_words a_desk_weeks a_desk_routes a_desk_offers a_desk_wants a_desk_leaves a_desk_uses : Nat) (isKept : Int32) (planStands : Int32) (today : Int32) (lack : Int32) (rate : Int32) (free : Int32) (leases_r : Int32) (leases_f : (Nat → Int32)) : va_W := [(a_eb, .inr (6, [.ref a_desk, .ref a_kept, .ref a_tape, .ref a_text, .ref a_plan, .ref a_mat, .int isKept, .int planStands])), (a_desk, .inr (0, [.ref a_desk_boxes, .ref a_desk_words, .ref a_desk_weeks, .ref a_desk_routes, .ref a_desk_offers, .ref a_desk_wants, .ref a_desk_leaves, .ref a_desk_leases, .ref a_desk_uses, .int today, .int lack, .int rate, .int free])), (a_desk_leases, .inr (4, [.ref a_desk_leases_a, .int (17 : Int32), .int (3 : Int32), .int leases_r])), (a_desk_leases_a, .inl (G.2.1, 51, .inl leases_f))]
abbrev rmX6_leasesRead : Room := { frames := 3, cells := 0, slots := 0, locals := 65 }
theorem ckX6_leasesRead_X6_wasRead_79 : CkV wsX6_leasesRead RX6 79 yX6_wasRead wsX6_wasRead cX6_wasRead 2 (some .boolean) 1 6 := ⟨RX6, TX6, 8, _, rfl, gX6_leasesRead_X6_wasRead, rfl, hdX6_wasRead⟩
variable {p : Program} {l : Launch} {e : Env} {s : State} {m : MethodId} {args : Array Value} {below : List Frame} {meth : Method} {c : Code} {A : Nat → Prop} {G : Gt} {a_eb a_desk a_desk_leases a_desk_leases_a a_kept a_tape a_text a_plan a_mat a_desk_boxes a_desk_words a_desk_weeks a_desk_routes a_desk_offers a_desk_wants a_desk_leaves a_desk_uses : Nat} {isKept : Int32} {planStands : Int32} {today : Int32} {lack : Int32} {rate : Int32} {free : Int32} {leases_r : Int32} {leases_f : (Nat → Int32)} {res : Int32}
set_option maxHeartbeats 4000000 in
set_option maxRecDepth 100000 in
theorem tX6_leasesRead_20 (X : Bx p s m args meth c cX6_leasesRead 3 wsX6_leasesRead RX6 (some .int)) (v1 : Int32) (v2 : Int32) (k_4 : Int32 → Int32 → Option (Int32)) (Hk_4 : ∀ (v1 : Int32) (v2 : Int32), k_4 v1 v2 = some res → ∀ (H : Heap) (locs : List Loc), Wo G A s (wX6_leasesRead G a_eb a_desk a_desk_leases a_desk_leases_a a_kept a_tape a_text a_plan a_mat a_desk_boxes a_desk_words a_desk_weeks a_desk_routes a_desk_offers a_desk_wants a_desk_leaves a_desk_uses isKept planStands today lack rate free leases_r leases_f) H locs → ∀ ls : Array Slot, lv_has ls 3 [(0, .ref a_eb), (1, .int v1), (2, .int v2)] → W p l e rmX6_leasesRead s m args below meth c H locs 0 0 (QI G A below args s res (wX6_leasesRead G a_eb a_desk a_desk_leases a_desk_leases_a a_kept a_tape a_text a_plan a_mat a_desk_boxes a_desk_words a_desk_weeks a_desk_routes a_desk_offers a_desk_wants a_desk_leaves a_desk_uses isKept planStands today lack rate free leases_r leases_f)) (F0 m 4 ls [])) (h : fX6_leasesRead_20 k_4 v1 v2 = some res) : ∀ (H : Heap) (locs : List Loc), Wo G A s (wX6_leasesRead G a_eb a_desk a_desk_leases a_desk_leases_a a_kept a_tape a_text a_plan a_mat a_desk_boxes a_desk_words a_desk_weeks a_desk_routes a_desk_offers a_desk_wants a_desk_leaves a_desk_uses isKept planStands today lack rate free leases_r leases_f) H locs → ∀ ls : Array Slot, lv_has ls 3 [(0, .ref a_eb), (1, .int v1), (2, .int v2)] → W p l e rmX6_leasesRead s m args below meth c H locs 0 0 (QI G A below args s res (wX6_leasesRead G a_eb a_desk a_desk_leases a_desk_leases_a a_kept a_tape a_text a_plan a_mat a_desk_boxes a_desk_words a_desk_weeks a_desk_routes a_desk_offers a_desk_wants a_desk_leaves a_desk_uses isKept planStands today lack rate free leases_r leases_f)) (F0 m 20 ls []) := by
  obtain ⟨hx, hb, -⟩ := id X.1
  intro H locs hW ls hl
  rw [fX6_leasesRead_20] at h
  refine lv_iinc (v := (v2 + (1 : Int32))) (lv' := [(2, .int (v2 + (1 : Int32))), (0, .ref a_eb), (1, .int v1)]) hx hb dX6_leasesRead_20 hl (k := 2) rfl (congrArg (fun z => v2 + z) qI_1) (by decide) rfl (fun ls hl => ?_)
  refine lv_goto (tgt := 4) hx hb dX6_leasesRead_23 (by decide) ?_
  exact Hk_4 v1 (v2 + (1 : Int32)) h H locs hW ls (lv_sub hl [1, 2, 0] rfl)
set_option maxHeartbeats 4000000 in
set_option maxRecDepth 100000 in
theorem tX6_leasesRead_4 (X : Bx p s m args meth c cX6_leasesRead 3 wsX6_leasesRead RX6 (some .int))    : ∀ (n : Nat) (v1 : Int32) (v2 : Int32), fX6_leasesRead_4 leases_r leases_f n v1 v2 = some res → ∀ (H : Heap) (locs : List Loc), Wo G A s (wX6_leasesRead G a_eb a_desk a_desk_leases a_desk_leases_a a_kept a_tape a_text a_plan a_mat a_desk_boxes a_desk_words a_desk_weeks a_desk_routes a_desk_offers a_desk_wants a_desk_leaves a_desk_uses isKept planStands today lack rate free leases_r leases_f) H locs → ∀ ls : Array Slot, lv_has ls 3 [(0, .ref a_eb), (1, .int v1), (2, .int v2)] → W p l e rmX6_leasesRead s m args below meth c H locs 0 0 (QI G A below args s res (wX6_leasesRead G a_eb a_desk a_desk_leases a_desk_leases_a a_kept a_tape a_text a_plan a_mat a_desk_boxes a_desk_words a_desk_weeks a_desk_routes a_desk_offers a_desk_wants a_desk_leaves a_desk_uses isKept planStands today lack rate free leases_r leases_f)) (F0 m 4 ls []) := by
  obtain ⟨hx, hb, -⟩ := id X.1
  intro n
  induction n with
  | zero => intro v1 v2 h; rw [fX6_leasesRead_4] at h; cases h
  | succ n ih =>
    intro v1 v2 h H locs hW ls hl
    rw [fX6_leasesRead_4] at h
    refine lv_iload_n hx hb dX6_leasesRead_4 rfl (lv_at hl 2 rfl) ?_
    refine lv_iconst hx hb dX6_leasesRead_5 qI_3 ?_
    refine lv_icmp_ge (tgt := 26) hx hb dX6_leasesRead_6 (by decide) (fun c5 => ?_) (fun c5 => ?_)
    · have h := (if_pos c5).symm.trans h
      refine lv_iload_n hx hb dX6_leasesRead_26 rfl (lv_at hl 1 rfl) ?_
      obtain rfl := Option.some.inj h
      exact g_iret X hW dX6_leasesRead_27
    · have h := (if_neg c5).symm.trans h
      refine lv_aload_n hx hb dX6_leasesRead_9 rfl (lv_at hl 0 rfl) ?_
      refine lv_iload_n hx hb dX6_leasesRead_10 rfl (lv_at hl 2 rfl) ?_
      obtain ⟨r10, hq, h⟩ := bn1_some h
      refine g_cvi X hW (As := [.int v2]) (ws' := (wX6_leasesRead G a_eb a_desk a_desk_leases a_desk_leases_a a_kept a_tape a_text a_plan a_mat a_desk_boxes a_desk_words a_desk_weeks a_desk_routes a_desk_offers a_desk_wants a_desk_leaves a_desk_uses isKept planStands today lack rate free leases_r leases_f)) ckX6_leasesRead_X6_wasRead_79 (kcX6_wasRead (l := l) G a_eb a_desk a_desk_leases a_desk_leases_a a_kept a_tape a_text a_plan a_mat a_desk_boxes a_desk_words a_desk_weeks a_desk_routes a_desk_offers a_desk_wants a_desk_leaves a_desk_uses v2 isKept planStands today lack rate free leases_r leases_f hq) ⟨rfl, rfl, Nat.le_of_ble_eq_true rfl, Nat.le_of_ble_eq_true rfl⟩ [0, 1, 2, 3] rfl rfl rfl rfl rfl rfl rfl hl.1 (Nat.le_of_ble_eq_true rfl) ⟨Nat.zero_le _, Nat.zero_le _⟩ dX6_leasesRead_11 (fun H locs hW => ?_)
      refine lv_if_eq (tgt := 20) hx hb dX6_leasesRead_14 (by decide) (fun c11 => ?_) (fun c11 => ?_)
      · have h := (if_pos c11).symm.trans h
        exact tX6_leasesRead_20 X v1 v2 (fun v1 v2 => fX6_leasesRead_4 leases_r leases_f n v1 v2) ih h H locs hW ls hl
      · have h := (if_neg c11).symm.trans h
        refine lv_iinc (v := (v1 + (1 : Int32))) (lv' := [(1, .int (v1 + (1 : Int32))), (0, .ref a_eb), (2, .int v2)]) hx hb dX6_leasesRead_17 hl (k := 1) rfl (congrArg (fun z => v1 + z) qI_1) (by decide) rfl (fun ls hl => ?_)
        exact tX6_leasesRead_20 X (v1 + (1 : Int32)) v2 (fun v1 v2 => fX6_leasesRead_4 leases_r leases_f n v1 v2) ih h H locs hW ls (lv_sub hl [1, 0, 2] rfl)
set_option maxHeartbeats 4000000 in
set_option maxRecDepth 100000 in
theorem k0X6_leasesRead {l : Launch} (G : Gt) (a_eb a_desk a_desk_leases a_desk_leases_a a_kept a_tape a_text a_plan a_mat a_desk_boxes a_desk_words a_desk_weeks a_desk_routes a_desk_offers a_desk_wants a_desk_leaves a_desk_uses : Nat)  (isKept : Int32) (planStands : Int32) (today : Int32) (lack : Int32) (rate : Int32) (free : Int32) (leases_r : Int32) (leases_f : (Nat → Int32)) {res : Int32} (h : fX6_leasesRead leases_r leases_f = some res) : CtI G l yX6_leasesRead wsX6_leasesRead rmX6_leasesRead [.ref a_eb] (wX6_leasesRead G a_eb a_desk a_desk_leases a_desk_leases_a a_kept a_tape a_text a_plan a_mat a_desk_boxes a_desk_words a_desk_weeks a_desk_routes a_desk_offers a_desk_wants a_desk_leaves a_desk_uses isKept planStands today lack rate free leases_r leases_f) res (wX6_leasesRead G a_eb a_desk a_desk_leases a_desk_leases_a a_kept a_tape a_text a_plan a_mat a_desk_boxes a_desk_words a_desk_weeks a_desk_routes a_desk_offers a_desk_wants a_desk_leaves a_desk_uses isKept planStands today lack rate free leases_r leases_f) := by
  refine CtI.mk (cc := cX6_leasesRead) (maxL := 3) (ret := (some .int)) (own := RX6) (by decide) rfl rfl (Nat.le_of_ble_eq_true rfl) ?_
  intro p e s m below meth c A X ls hl hW
  obtain ⟨hx, hb, -⟩ := id X.1
  have hl : lv_has ls 3 [(0, .ref a_eb)] := hl
  generalize hH : s.heap = H at hW ⊢
  generalize hLo : ([] : List Loc) = locs at hW ⊢
  rw [fX6_leasesRead] at h
  refine lv_iconst hx hb dX6_leasesRead_0 qI_0 ?_
  refine lv_istore_n (lv' := [(1, .int (0 : Int32)), (0, .ref a_eb)]) hx hb dX6_leasesRead_1 rfl hl (by decide) rfl (fun ls hl => ?_)
  refine lv_iconst hx hb dX6_leasesRead_2 qI_0 ?_
  refine lv_istore_n (lv' := [(2, .int (0 : Int32)), (1, .int (0 : Int32)), (0, .ref a_eb)]) hx hb dX6_leasesRead_3 rfl hl (by decide) rfl (fun ls hl => ?_)
  exact tX6_leasesRead_4 X  FU (0 : Int32) (0 : Int32) h H locs hW ls (lv_sub hl [2, 1, 0] rfl)
theorem kcX6_leasesRead {l : Launch} (G : Gt) (a_eb a_desk a_desk_leases a_desk_leases_a a_kept a_tape a_text a_plan a_mat a_desk_boxes a_desk_words a_desk_weeks a_desk_routes a_desk_offers a_desk_wants a_desk_leaves a_desk_uses : Nat)  (isKept : Int32) (planStands : Int32) (today : Int32) (lack : Int32) (rate : Int32) (free : Int32) (leases_r : Int32) (leases_f : (Nat → Int32)) {r : Int32}  (h : fX6_leasesRead leases_r leases_f = some r) : CtI G l yX6_leasesRead wsX6_leasesRead rmX6_leasesRead [.ref a_eb] (wX6_leasesRead G a_eb a_desk a_desk_leases a_desk_leases_a a_kept a_tape a_text a_plan a_mat a_desk_boxes a_desk_words a_desk_weeks a_desk_routes a_desk_offers a_desk_wants a_desk_leaves a_desk_uses isKept planStands today lack rate free leases_r leases_f) r (wX6_leasesRead G a_eb a_desk a_desk_leases a_desk_leases_a a_kept a_tape a_text a_plan a_mat a_desk_boxes a_desk_words a_desk_weeks a_desk_routes a_desk_offers a_desk_wants a_desk_leaves a_desk_uses isKept planStands today lack rate free leases_r leases_f) := k0X6_leasesRead G a_eb a_desk a_desk_leases a_desk_leases_a a_kept a_tape a_text a_plan a_mat a_desk_boxes a_desk_words a_desk_weeks a_desk_routes a_desk_offers a_desk_wants a_desk_leaves a_desk_uses isKept planStands today lack rate free leases_r leases_f h
end MX6_leasesRead
/-! EmptyBoxes.many -/
section MX6_many
theorem hdX6_many : yX6_many.cls = RX6 ∧ yX6_many.cls ≠ "java/lang/invoke/MethodHandle" ∧ yX6_many.cls ≠ "java/lang/invoke/VarHandle" ∧ (parseMethodDescriptor yX6_many.desc).map (fun d => d.parameters.length) = some 1 := by decide +kernel
abbrev wX6_many (G : Gt) (a_eb a_desk a_desk_boxes a_desk_boxes_a a_desk_words a_desk_routes a_desk_offers a_desk_wants a_desk_leases a_desk_leases_a a_desk_uses a_tape a_kept a_text a_plan a_mat a_desk_weeks a_desk_leaves a_desk_words_a a_desk_routes_a a_desk_offers_a a_desk_wants_a a_desk_uses_a a_tape_a : Nat) (isKept : Int32) (planStands : Int32) (today : Int32) (lack : Int32) (rate : Int32) (free : Int32) (boxes_r : Int32) (boxes_f : (Nat → Int32)) (words_r : Int32) (routes_r : Int32) (offers_r : Int32) (wants_r : Int32) (leases_r : Int32) (leases_f : (Nat → Int32)) (uses_r : Int32) (tp_many : Int32) (tp_first : Int32) (tp_behind : Int32) : va_W := [(a_eb, .inr (6, [.ref a_desk, .ref a_kept, .ref a_tape, .ref a_text, .ref a_plan, .ref a_mat, .int isKept, .int planStands])), (a_desk, .inr (0, [.ref a_desk_boxes, .ref a_desk_words, .ref a_desk_weeks, .ref a_desk_routes, .ref a_desk_offers, .ref a_desk_wants, .ref a_desk_leaves, .ref a_desk_leases, .ref a_desk_uses, .int today, .int lack, .int rate, .int free])), (a_desk_boxes, .inr (4, [.ref a_desk_boxes_a, .int (9 : Int32), .int (24 : Int32), .int boxes_r])), (a_desk_boxes_a, .inl (G.2.1, 216, .inl boxes_f)), (a_desk_words, .inr (4, [.ref a_desk_words_a, .int (5 : Int32), .int (60 : Int32), .int words_r])), (a_desk_routes, .inr (4, [.ref a_desk_routes_a, .int (5 : Int32), .int (10 : Int32), .int routes_r])), (a_desk_offers, .inr (4, [.ref a_desk_offers_a, .int (5 : Int32), .int (7 : Int32), .int offers_r])), (a_desk_wants, .inr (4, [.ref a_desk_wants_a, .int (5 : Int32), .int (7 : Int32), .int wants_r])), (a_desk_leases, .inr (4, [.ref a_desk_leases_a, .int (17 : Int32), .int (3 : Int32), .int leases_r])), (a_desk_leases_a, .inl (G.2.1, 51, .inl leases_f)), (a_desk_uses, .inr (4, [.ref a_desk_uses_a, .int (6 : Int32), .int (40 : Int32), .int uses_r])), (a_tape, .inr (5, [.ref a_tape_a, .int tp_many, .int tp_first, .int tp_behind]))]
abbrev rmX6_many : Room := { frames := 4, cells := 0, slots := 0, locals := 87 }
theorem iX6_many_X0 : ∀ w ∈ wsX00, w ∈ wsX6_many := by decide +kernel
theorem iX6_many_X6 : ∀ w ∈ wsX60, w ∈ wsX6_many := by decide +kernel
theorem eX6_many_12 : Fk wsX6_many RX6 12 6 0 := ⟨RX6, TX6, 8, rfl, iX6_many_X6, by decide, by decide +kernel⟩
theorem eX6_many_132 : Fk wsX6_many RX6 132 0 1 := ⟨RX0, TX0, 13, rfl, iX6_many_X0, by decide, by decide +kernel⟩
theorem eX6_many_176 : Fk wsX6_many RX6 176 0 3 := ⟨RX0, TX0, 13, rfl, iX6_many_X0, by decide, by decide +kernel⟩
theorem eX6_many_195 : Fk wsX6_many RX6 195 0 5 := ⟨RX0, TX0, 13, rfl, iX6_many_X0, by decide, by decide +kernel⟩
theorem eX6_many_198 : Fk wsX6_many RX6 198 0 4 := ⟨RX0, TX0, 13, rfl, iX6_many_X0, by decide, by decide +kernel⟩
theorem eX6_many_22 : Fk wsX6_many RX6 22 6 2 := ⟨RX6, TX6, 8, rfl, iX6_many_X6, by decide, by decide +kernel⟩
theorem eX6_many_294 : Fk wsX6_many RX6 294 0 8 := ⟨RX0, TX0, 13, rfl, iX6_many_X0, by decide, by decide +kernel⟩
theorem eX6_many_58 : Fk wsX6_many RX6 58 0 9 := ⟨RX0, TX0, 13, rfl, iX6_many_X0, by decide, by decide +kernel⟩
theorem eX6_many_82 : Fk wsX6_many RX6 82 0 0 := ⟨RX0, TX0, 13, rfl, iX6_many_X0, by decide, by decide +kernel⟩
theorem ckX6_many_X4_size_117 : CkV wsX6_many RX6 117 yX4_size wsX4_size cX4_size 1 (some .int) 0 4 := ⟨RX4, TX4, 4, _, rfl, gX6_many_X4_size, rfl, hdX4_size⟩
theorem ckX6_many_X5_size_248 : CkV wsX6_many RX6 248 yX5_size wsX5_size cX5_size 1 (some .int) 0 5 := ⟨RX5, TX5, 4, _, rfl, gX6_many_X5_size, rfl, hdX5_size⟩
theorem ckX6_many_X6_allBills_310 : CkV wsX6_many RX6 310 yX6_allBills wsX6_allBills cX6_allBills 3 (some .int) 0 6 := ⟨RX6, TX6, 8, _, rfl, gX6_many_X6_allBills, rfl, hdX6_allBills⟩
theorem ckX6_many_X6_boxesOfFate_307 : CkV wsX6_many RX6 307 yX6_boxesOfFate wsX6_boxesOfFate cX6_boxesOfFate 4 (some .int) 1 6 := ⟨RX6, TX6, 8, _, rfl, gX6_many_X6_boxesOfFate, rfl, hdX6_boxesOfFate⟩
theorem ckX6_many_X6_leasesRead_304 : CkV wsX6_many RX6 304 yX6_leasesRead wsX6_leasesRead cX6_leasesRead 3 (some .int) 0 6 := ⟨RX6, TX6, 8, _, rfl, gX6_many_X6_leasesRead, rfl, hdX6_leasesRead⟩
variable {p : Program} {l : Launch} {e : Env} {s : State} {m : MethodId} {args : Array Value} {below : List Frame} {meth : Method} {c : Code} {A : Nat → Prop} {G : Gt} {a_eb a_desk a_desk_boxes a_desk_boxes_a a_desk_words a_desk_routes a_desk_offers a_desk_wants a_desk_leases a_desk_leases_a a_desk_uses a_tape a_kept a_text a_plan a_mat a_desk_weeks a_desk_leaves a_desk_words_a a_desk_routes_a a_desk_offers_a a_desk_wants_a a_desk_uses_a a_tape_a : Nat} {isKept : Int32} {planStands : Int32} {today : Int32} {lack : Int32} {rate : Int32} {free : Int32} {boxes_r : Int32} {boxes_f : (Nat → Int32)} {words_r : Int32} {routes_r : Int32} {offers_r : Int32} {wants_r : Int32} {leases_r : Int32} {leases_f : (Nat → Int32)} {uses_r : Int32} {tp_many : Int32} {tp_first : Int32} {tp_behind : Int32} {res : Int32}
set_option maxHeartbeats 4000000 in
set_option maxRecDepth 100000 in
theorem k0X6_many {l : Launch} (G : Gt) (a_eb a_desk a_desk_boxes a_desk_boxes_a a_desk_words a_desk_routes a_desk_offers a_desk_wants a_desk_leases a_desk_leases_a a_desk_uses a_tape a_kept a_text a_plan a_mat a_desk_weeks a_desk_leaves a_desk_words_a a_desk_routes_a a_desk_offers_a a_desk_wants_a a_desk_uses_a a_tape_a : Nat) (v1 : Int32) (isKept : Int32) (planStands : Int32) (today : Int32) (lack : Int32) (rate : Int32) (free : Int32) (boxes_r : Int32) (boxes_f : (Nat → Int32)) (words_r : Int32) (routes_r : Int32) (offers_r : Int32) (wants_r : Int32) (leases_r : Int32) (leases_f : (Nat → Int32)) (uses_r : Int32) (tp_many : Int32) (tp_first : Int32) (tp_behind : Int32) {res : Int32} (h : fX6_many v1 today boxes_r boxes_f words_r routes_r offers_r wants_r leases_r leases_f uses_r tp_many = some res) : CtI G l yX6_many wsX6_many rmX6_many [.ref a_eb, .int v1] (wX6_many G a_eb a_desk a_desk_boxes a_desk_boxes_a a_desk_words a_desk_routes a_desk_offers a_desk_wants a_desk_leases a_desk_leases_a a_desk_uses a_tape a_kept a_text a_plan a_mat a_desk_weeks a_desk_leaves a_desk_words_a a_desk_routes_a a_desk_offers_a a_desk_wants_a a_desk_uses_a a_tape_a isKept planStands today lack rate free boxes_r boxes_f words_r routes_r offers_r wants_r leases_r leases_f uses_r tp_many tp_first tp_behind) res (wX6_many G a_eb a_desk a_desk_boxes a_desk_boxes_a a_desk_words a_desk_routes a_desk_offers a_desk_wants a_desk_leases a_desk_leases_a a_desk_uses a_tape a_kept a_text a_plan a_mat a_desk_weeks a_desk_leaves a_desk_words_a a_desk_routes_a a_desk_offers_a a_desk_wants_a a_desk_uses_a a_tape_a isKept planStands today lack rate free boxes_r boxes_f words_r routes_r offers_r wants_r leases_r leases_f uses_r tp_many tp_first tp_behind) := by
  refine CtI.mk (cc := cX6_many) (maxL := 2) (ret := (some .int)) (own := RX6) (by decide) rfl rfl (Nat.le_of_ble_eq_true rfl) ?_
  intro p e s m below meth c A X ls hl hW
  obtain ⟨hx, hb, -⟩ := id X.1
  have hl : lv_has ls 2 [(0, .ref a_eb), (1, .int v1)] := hl
  generalize hH : s.heap = H at hW ⊢
  generalize hLo : ([] : List Loc) = locs at hW ⊢
  rw [fX6_many] at h
  refine lv_iload_n hx hb dX6_many_0 rfl (lv_at hl 1 rfl) ?_
  by_cases c3 : v1 = (0 : Int32)
  · have h := (if_pos c3).symm.trans h
    refine lv_tableIn (tgt := 64) hx hb dX6_many_1 (by rw [c3]; decide) (by rw [c3]; decide) (by rw [c3]; rfl) (by decide) ?_
    refine lv_aload_n hx hb dX6_many_64 rfl (lv_at hl 0 rfl) ?_
    refine g_get X hW eX6_many_12 0 rfl rfl dX6_many_65 ?_
    refine g_get X hW eX6_many_82 1 rfl rfl dX6_many_68 ?_
    obtain ⟨r7, hq, h⟩ := bn1_some h
    refine g_cvi X hW (As := []) (ws' := (wX6_many G a_eb a_desk a_desk_boxes a_desk_boxes_a a_desk_words a_desk_routes a_desk_offers a_desk_wants a_desk_leases a_desk_leases_a a_desk_uses a_tape a_kept a_text a_plan a_mat a_desk_weeks a_desk_leaves a_desk_words_a a_desk_routes_a a_desk_offers_a a_desk_wants_a a_desk_uses_a a_tape_a isKept planStands today lack rate free boxes_r boxes_f words_r routes_r offers_r wants_r leases_r leases_f uses_r tp_many tp_first tp_behind)) ckX6_many_X4_size_117 (kcX4_size (l := l) G a_desk_boxes a_desk_boxes_a (9 : Int32) (24 : Int32) boxes_r hq) ⟨rfl, rfl, Nat.le_of_ble_eq_true rfl, Nat.le_of_ble_eq_true rfl⟩ [2] rfl rfl rfl rfl rfl rfl rfl hl.1 (Nat.le_of_ble_eq_true rfl) ⟨Nat.zero_le _, Nat.zero_le _⟩ dX6_many_71 (fun H locs hW => ?_)
    obtain rfl := Option.some.inj h
    exact g_iret X hW dX6_many_74
  replace h := (if_neg c3).symm.trans h
  by_cases c9 : v1 = (1 : Int32)
  · have h := (if_pos c9).symm.trans h
    refine lv_tableIn (tgt := 75) hx hb dX6_many_1 (by rw [c9]; decide) (by rw [c9]; decide) (by rw [c9]; rfl) (by decide) ?_
    refine lv_aload_n hx hb dX6_many_75 rfl (lv_at hl 0 rfl) ?_
    refine g_get X hW eX6_many_12 0 rfl rfl dX6_many_76 ?_
    refine g_get X hW eX6_many_132 1 rfl rfl dX6_many_79 ?_
    obtain ⟨r13, hq, h⟩ := bn1_some h
    refine g_cvi X hW (As := []) (ws' := (wX6_many G a_eb a_desk a_desk_boxes a_desk_boxes_a a_desk_words a_desk_routes a_desk_offers a_desk_wants a_desk_leases a_desk_leases_a a_desk_uses a_tape a_kept a_text a_plan a_mat a_desk_weeks a_desk_leaves a_desk_words_a a_desk_routes_a a_desk_offers_a a_desk_wants_a a_desk_uses_a a_tape_a isKept planStands today lack rate free boxes_r boxes_f words_r routes_r offers_r wants_r leases_r leases_f uses_r tp_many tp_first tp_behind)) ckX6_many_X4_size_117 (kcX4_size (l := l) G a_desk_words a_desk_words_a (5 : Int32) (60 : Int32) words_r hq) ⟨rfl, rfl, Nat.le_of_ble_eq_true rfl, Nat.le_of_ble_eq_true rfl⟩ [4] rfl rfl rfl rfl rfl rfl rfl hl.1 (Nat.le_of_ble_eq_true rfl) ⟨Nat.zero_le _, Nat.zero_le _⟩ dX6_many_82 (fun H locs hW => ?_)
    obtain rfl := Option.some.inj h
    exact g_iret X hW dX6_many_85
  replace h := (if_neg c9).symm.trans h
  by_cases c15 : v1 = (2 : Int32)
  · have h := (if_pos c15).symm.trans h
    refine lv_tableIn (tgt := 86) hx hb dX6_many_1 (by rw [c15]; decide) (by rw [c15]; decide) (by rw [c15]; rfl) (by decide) ?_
    refine lv_aload_n hx hb dX6_many_86 rfl (lv_at hl 0 rfl) ?_
    refine g_get X hW eX6_many_12 0 rfl rfl dX6_many_87 ?_
    refine g_get X hW eX6_many_176 1 rfl rfl dX6_many_90 ?_
    obtain ⟨r19, hq, h⟩ := bn1_some h
    refine g_cvi X hW (As := []) (ws' := (wX6_many G a_eb a_desk a_desk_boxes a_desk_boxes_a a_desk_words a_desk_routes a_desk_offers a_desk_wants a_desk_leases a_desk_leases_a a_desk_uses a_tape a_kept a_text a_plan a_mat a_desk_weeks a_desk_leaves a_desk_words_a a_desk_routes_a a_desk_offers_a a_desk_wants_a a_desk_uses_a a_tape_a isKept planStands today lack rate free boxes_r boxes_f words_r routes_r offers_r wants_r leases_r leases_f uses_r tp_many tp_first tp_behind)) ckX6_many_X4_size_117 (kcX4_size (l := l) G a_desk_routes a_desk_routes_a (5 : Int32) (10 : Int32) routes_r hq) ⟨rfl, rfl, Nat.le_of_ble_eq_true rfl, Nat.le_of_ble_eq_true rfl⟩ [5] rfl rfl rfl rfl rfl rfl rfl hl.1 (Nat.le_of_ble_eq_true rfl) ⟨Nat.zero_le _, Nat.zero_le _⟩ dX6_many_93 (fun H locs hW => ?_)
    obtain rfl := Option.some.inj h
    exact g_iret X hW dX6_many_96
  replace h := (if_neg c15).symm.trans h
  by_cases c21 : v1 = (3 : Int32)
  · have h := (if_pos c21).symm.trans h
    refine lv_tableIn (tgt := 97) hx hb dX6_many_1 (by rw [c21]; decide) (by rw [c21]; decide) (by rw [c21]; rfl) (by decide) ?_
    refine lv_aload_n hx hb dX6_many_97 rfl (lv_at hl 0 rfl) ?_
    refine g_get X hW eX6_many_12 0 rfl rfl dX6_many_98 ?_
    refine g_get X hW eX6_many_198 1 rfl rfl dX6_many_101 ?_
    obtain ⟨r25, hq, h⟩ := bn1_some h
    refine g_cvi X hW (As := []) (ws' := (wX6_many G a_eb a_desk a_desk_boxes a_desk_boxes_a a_desk_words a_desk_routes a_desk_offers a_desk_wants a_desk_leases a_desk_leases_a a_desk_uses a_tape a_kept a_text a_plan a_mat a_desk_weeks a_desk_leaves a_desk_words_a a_desk_routes_a a_desk_offers_a a_desk_wants_a a_desk_uses_a a_tape_a isKept planStands today lack rate free boxes_r boxes_f words_r routes_r offers_r wants_r leases_r leases_f uses_r tp_many tp_first tp_behind)) ckX6_many_X4_size_117 (kcX4_size (l := l) G a_desk_offers a_desk_offers_a (5 : Int32) (7 : Int32) offers_r hq) ⟨rfl, rfl, Nat.le_of_ble_eq_true rfl, Nat.le_of_ble_eq_true rfl⟩ [6] rfl rfl rfl rfl rfl rfl rfl hl.1 (Nat.le_of_ble_eq_true rfl) ⟨Nat.zero_le _, Nat.zero_le _⟩ dX6_many_104 (fun H locs hW => ?_)
    obtain rfl := Option.some.inj h
    exact g_iret X hW dX6_many_107
  replace h := (if_neg c21).symm.trans h
  by_cases c27 : v1 = (4 : Int32)
  · have h := (if_pos c27).symm.trans h
    refine lv_tableIn (tgt := 108) hx hb dX6_many_1 (by rw [c27]; decide) (by rw [c27]; decide) (by rw [c27]; rfl) (by decide) ?_
    refine lv_aload_n hx hb dX6_many_108 rfl (lv_at hl 0 rfl) ?_
    refine g_get X hW eX6_many_12 0 rfl rfl dX6_many_109 ?_
    refine g_get X hW eX6_many_195 1 rfl rfl dX6_many_112 ?_
    obtain ⟨r31, hq, h⟩ := bn1_some h
    refine g_cvi X hW (As := []) (ws' := (wX6_many G a_eb a_desk a_desk_boxes a_desk_boxes_a a_desk_words a_desk_routes a_desk_offers a_desk_wants a_desk_leases a_desk_leases_a a_desk_uses a_tape a_kept a_text a_plan a_mat a_desk_weeks a_desk_leaves a_desk_words_a a_desk_routes_a a_desk_offers_a a_desk_wants_a a_desk_uses_a a_tape_a isKept planStands today lack rate free boxes_r boxes_f words_r routes_r offers_r wants_r leases_r leases_f uses_r tp_many tp_first tp_behind)) ckX6_many_X4_size_117 (kcX4_size (l := l) G a_desk_wants a_desk_wants_a (5 : Int32) (7 : Int32) wants_r hq) ⟨rfl, rfl, Nat.le_of_ble_eq_true rfl, Nat.le_of_ble_eq_true rfl⟩ [7] rfl rfl rfl rfl rfl rfl rfl hl.1 (Nat.le_of_ble_eq_true rfl) ⟨Nat.zero_le _, Nat.zero_le _⟩ dX6_many_115 (fun H locs hW => ?_)
    obtain rfl := Option.some.inj h
    exact g_iret X hW dX6_many_118
  replace h := (if_neg c27).symm.trans h
  by_cases c33 : v1 = (5 : Int32)
  · have h := (if_pos c33).symm.trans h
    refine lv_tableIn (tgt := 119) hx hb dX6_many_1 (by rw [c33]; decide) (by rw [c33]; decide) (by rw [c33]; rfl) (by decide) ?_
    refine lv_aload_n hx hb dX6_many_119 rfl (lv_at hl 0 rfl) ?_
    obtain ⟨r35, hq, h⟩ := bn1_some h
    refine g_cvi X hW (As := []) (ws' := (wX6_many G a_eb a_desk a_desk_boxes a_desk_boxes_a a_desk_words a_desk_routes a_desk_offers a_desk_wants a_desk_leases a_desk_leases_a a_desk_uses a_tape a_kept a_text a_plan a_mat a_desk_weeks a_desk_leaves a_desk_words_a a_desk_routes_a a_desk_offers_a a_desk_wants_a a_desk_uses_a a_tape_a isKept planStands today lack rate free boxes_r boxes_f words_r routes_r offers_r wants_r leases_r leases_f uses_r tp_many tp_first tp_behind)) ckX6_many_X6_leasesRead_304 (kcX6_leasesRead (l := l) G a_eb a_desk a_desk_leases a_desk_leases_a a_kept a_tape a_text a_plan a_mat a_desk_boxes a_desk_words a_desk_weeks a_desk_routes a_desk_offers a_desk_wants a_desk_leaves a_desk_uses isKept planStands today lack rate free leases_r leases_f hq) ⟨rfl, rfl, Nat.le_of_ble_eq_true rfl, Nat.le_of_ble_eq_true rfl⟩ [0, 1, 8, 9] rfl rfl rfl rfl rfl rfl rfl hl.1 (Nat.le_of_ble_eq_true rfl) ⟨Nat.zero_le _, Nat.zero_le _⟩ dX6_many_120 (fun H locs hW => ?_)
    obtain rfl := Option.some.inj h
    exact g_iret X hW dX6_many_123
  replace h := (if_neg c33).symm.trans h
  by_cases c37 : v1 = (6 : Int32)
  · have h := (if_pos c37).symm.trans h
    refine lv_tableIn (tgt := 124) hx hb dX6_many_1 (by rw [c37]; decide) (by rw [c37]; decide) (by rw [c37]; rfl) (by decide) ?_
    refine lv_aload_n hx hb dX6_many_124 rfl (lv_at hl 0 rfl) ?_
    refine g_get X hW eX6_many_12 0 rfl rfl dX6_many_125 ?_
    refine g_get X hW eX6_many_294 1 rfl rfl dX6_many_128 ?_
    obtain ⟨r41, hq, h⟩ := bn1_some h
    refine g_cvi X hW (As := []) (ws' := (wX6_many G a_eb a_desk a_desk_boxes a_desk_boxes_a a_desk_words a_desk_routes a_desk_offers a_desk_wants a_desk_leases a_desk_leases_a a_desk_uses a_tape a_kept a_text a_plan a_mat a_desk_weeks a_desk_leaves a_desk_words_a a_desk_routes_a a_desk_offers_a a_desk_wants_a a_desk_uses_a a_tape_a isKept planStands today lack rate free boxes_r boxes_f words_r routes_r offers_r wants_r leases_r leases_f uses_r tp_many tp_first tp_behind)) ckX6_many_X4_size_117 (kcX4_size (l := l) G a_desk_uses a_desk_uses_a (6 : Int32) (40 : Int32) uses_r hq) ⟨rfl, rfl, Nat.le_of_ble_eq_true rfl, Nat.le_of_ble_eq_true rfl⟩ [10] rfl rfl rfl rfl rfl rfl rfl hl.1 (Nat.le_of_ble_eq_true rfl) ⟨Nat.zero_le _, Nat.zero_le _⟩ dX6_many_131 (fun H locs hW => ?_)
    obtain rfl := Option.some.inj h
    exact g_iret X hW dX6_many_134
  replace h := (if_neg c37).symm.trans h
  by_cases c43 : v1 = (7 : Int32)
  · have h := (if_pos c43).symm.trans h
    refine lv_tableIn (tgt := 135) hx hb dX6_many_1 (by rw [c43]; decide) (by rw [c43]; decide) (by rw [c43]; rfl) (by decide) ?_
    refine lv_aload_n hx hb dX6_many_135 rfl (lv_at hl 0 rfl) ?_
    refine g_get X hW eX6_many_22 0 rfl rfl dX6_many_136 ?_
    obtain ⟨r46, hq, h⟩ := bn1_some h
    refine g_cvi X hW (As := []) (ws' := (wX6_many G a_eb a_desk a_desk_boxes a_desk_boxes_a a_desk_words a_desk_routes a_desk_offers a_desk_wants a_desk_leases a_desk_leases_a a_desk_uses a_tape a_kept a_text a_plan a_mat a_desk_weeks a_desk_leaves a_desk_words_a a_desk_routes_a a_desk_offers_a a_desk_wants_a a_desk_uses_a a_tape_a isKept planStands today lack rate free boxes_r boxes_f words_r routes_r offers_r wants_r leases_r leases_f uses_r tp_many tp_first tp_behind)) ckX6_many_X5_size_248 (kcX5_size (l := l) G a_tape a_tape_a tp_many tp_first tp_behind hq) ⟨rfl, rfl, Nat.le_of_ble_eq_true rfl, Nat.le_of_ble_eq_true rfl⟩ [11] rfl rfl rfl rfl rfl rfl rfl hl.1 (Nat.le_of_ble_eq_true rfl) ⟨Nat.zero_le _, Nat.zero_le _⟩ dX6_many_139 (fun H locs hW => ?_)
    obtain rfl := Option.some.inj h
    exact g_iret X hW dX6_many_142
  replace h := (if_neg c43).symm.trans h
  by_cases c48 : v1 = (8 : Int32)
  · have h := (if_pos c48).symm.trans h
    refine lv_tableIn (tgt := 143) hx hb dX6_many_1 (by rw [c48]; decide) (by rw [c48]; decide) (by rw [c48]; rfl) (by decide) ?_
    refine lv_aload_n hx hb dX6_many_143 rfl (lv_at hl 0 rfl) ?_
    refine g_get X hW eX6_many_12 0 rfl rfl dX6_many_144 ?_
    refine g_get X hW eX6_many_58 1 rfl rfl dX6_many_147 ?_
    obtain rfl := Option.some.inj h
    exact g_iret X hW dX6_many_150
  replace h := (if_neg c48).symm.trans h
  by_cases c53 : v1 = (9 : Int32)
  · have h := (if_pos c53).symm.trans h
    refine lv_tableIn (tgt := 151) hx hb dX6_many_1 (by rw [c53]; decide) (by rw [c53]; decide) (by rw [c53]; rfl) (by decide) ?_
    refine lv_aload_n hx hb dX6_many_151 rfl (lv_at hl 0 rfl) ?_
    refine lv_iconst hx hb dX6_many_152 qI_1 ?_
    obtain ⟨r56, hq, h⟩ := bn1_some h
    refine g_cvi X hW (As := [.int (1 : Int32)]) (ws' := (wX6_many G a_eb a_desk a_desk_boxes a_desk_boxes_a a_desk_words a_desk_routes a_desk_offers a_desk_wants a_desk_leases a_desk_leases_a a_desk_uses a_tape a_kept a_text a_plan a_mat a_desk_weeks a_desk_leaves a_desk_words_a a_desk_routes_a a_desk_offers_a a_desk_wants_a a_desk_uses_a a_tape_a isKept planStands today lack rate free boxes_r boxes_f words_r routes_r offers_r wants_r leases_r leases_f uses_r tp_many tp_first tp_behind)) ckX6_many_X6_boxesOfFate_307 (kcX6_boxesOfFate (l := l) G a_eb a_desk a_desk_boxes a_desk_boxes_a a_kept a_tape a_text a_plan a_mat a_desk_words a_desk_weeks a_desk_routes a_desk_offers a_desk_wants a_desk_leaves a_desk_leases a_desk_uses (1 : Int32) isKept planStands today lack rate free boxes_r boxes_f hq) ⟨rfl, rfl, Nat.le_of_ble_eq_true rfl, Nat.le_of_ble_eq_true rfl⟩ [0, 1, 2, 3] rfl rfl rfl rfl rfl rfl rfl hl.1 (Nat.le_of_ble_eq_true rfl) ⟨Nat.zero_le _, Nat.zero_le _⟩ dX6_many_153 (fun H locs hW => ?_)
    obtain rfl := Option.some.inj h
    exact g_iret X hW dX6_many_156
  replace h := (if_neg c53).symm.trans h
  by_cases c58 : v1 = (10 : Int32)
  · have h := (if_pos c58).symm.trans h
    refine lv_tableIn (tgt := 157) hx hb dX6_many_1 (by rw [c58]; decide) (by rw [c58]; decide) (by rw [c58]; rfl) (by decide) ?_
    refine lv_aload_n hx hb dX6_many_157 rfl (lv_at hl 0 rfl) ?_
    refine lv_iconst hx hb dX6_many_158 qI_2 ?_
    obtain ⟨r61, hq, h⟩ := bn1_some h
    refine g_cvi X hW (As := [.int (2 : Int32)]) (ws' := (wX6_many G a_eb a_desk a_desk_boxes a_desk_boxes_a a_desk_words a_desk_routes a_desk_offers a_desk_wants a_desk_leases a_desk_leases_a a_desk_uses a_tape a_kept a_text a_plan a_mat a_desk_weeks a_desk_leaves a_desk_words_a a_desk_routes_a a_desk_offers_a a_desk_wants_a a_desk_uses_a a_tape_a isKept planStands today lack rate free boxes_r boxes_f words_r routes_r offers_r wants_r leases_r leases_f uses_r tp_many tp_first tp_behind)) ckX6_many_X6_boxesOfFate_307 (kcX6_boxesOfFate (l := l) G a_eb a_desk a_desk_boxes a_desk_boxes_a a_kept a_tape a_text a_plan a_mat a_desk_words a_desk_weeks a_desk_routes a_desk_offers a_desk_wants a_desk_leaves a_desk_leases a_desk_uses (2 : Int32) isKept planStands today lack rate free boxes_r boxes_f hq) ⟨rfl, rfl, Nat.le_of_ble_eq_true rfl, Nat.le_of_ble_eq_true rfl⟩ [0, 1, 2, 3] rfl rfl rfl rfl rfl rfl rfl hl.1 (Nat.le_of_ble_eq_true rfl) ⟨Nat.zero_le _, Nat.zero_le _⟩ dX6_many_159 (fun H locs hW => ?_)
    obtain rfl := Option.some.inj h
    exact g_iret X hW dX6_many_162
  replace h := (if_neg c58).symm.trans h
  by_cases c63 : v1 = (11 : Int32)
  · have h := (if_pos c63).symm.trans h
    refine lv_tableIn (tgt := 163) hx hb dX6_many_1 (by rw [c63]; decide) (by rw [c63]; decide) (by rw [c63]; rfl) (by decide) ?_
    refine lv_aload_n hx hb dX6_many_163 rfl (lv_at hl 0 rfl) ?_
    obtain ⟨r65, hq, h⟩ := bn1_some h
    refine g_cvi X hW (As := []) (ws' := (wX6_many G a_eb a_desk a_desk_boxes a_desk_boxes_a a_desk_words a_desk_routes a_desk_offers a_desk_wants a_desk_leases a_desk_leases_a a_desk_uses a_tape a_kept a_text a_plan a_mat a_desk_weeks a_desk_leaves a_desk_words_a a_desk_routes_a a_desk_offers_a a_desk_wants_a a_desk_uses_a a_tape_a isKept planStands today lack rate free boxes_r boxes_f words_r routes_r offers_r wants_r leases_r leases_f uses_r tp_many tp_first tp_behind)) ckX6_many_X6_allBills_310 (kcX6_allBills (l := l) G a_eb a_desk a_desk_boxes a_desk_boxes_a a_kept a_tape a_text a_plan a_mat a_desk_words a_desk_weeks a_desk_routes a_desk_offers a_desk_wants a_desk_leaves a_desk_leases a_desk_uses isKept planStands today lack rate free boxes_r boxes_f hq) ⟨rfl, rfl, Nat.le_of_ble_eq_true rfl, Nat.le_of_ble_eq_true rfl⟩ [0, 1, 2, 3] rfl rfl rfl rfl rfl rfl rfl hl.1 (Nat.le_of_ble_eq_true rfl) ⟨Nat.zero_le _, Nat.zero_le _⟩ dX6_many_164 (fun H locs hW => ?_)
    obtain rfl := Option.some.inj h
    exact g_iret X hW dX6_many_167
  replace h := (if_neg c63).symm.trans h
  have c3 := lv_neT (a := 0) c3 (by decide)
  have c9 := lv_neT (a := 1) c9 (by decide)
  have c15 := lv_neT (a := 2) c15 (by decide)
  have c21 := lv_neT (a := 3) c21 (by decide)
  have c27 := lv_neT (a := 4) c27 (by decide)
  have c33 := lv_neT (a := 5) c33 (by decide)
  have c37 := lv_neT (a := 6) c37 (by decide)
  have c43 := lv_neT (a := 7) c43 (by decide)
  have c48 := lv_neT (a := 8) c48 (by decide)
  have c53 := lv_neT (a := 9) c53 (by decide)
  have c58 := lv_neT (a := 10) c58 (by decide)
  have c63 := lv_neT (a := 11) c63 (by decide)
  refine lv_tableOut (tgt := 168) hx hb dX6_many_1 (by omega) (by decide) ?_
  refine lv_iconst hx hb dX6_many_168 qI_m1 ?_
  obtain rfl := Option.some.inj h
  exact g_iret X hW dX6_many_169
theorem kcX6_many {l : Launch} (G : Gt) (a_eb a_desk a_desk_boxes a_desk_boxes_a a_desk_words a_desk_routes a_desk_offers a_desk_wants a_desk_leases a_desk_leases_a a_desk_uses a_tape a_kept a_text a_plan a_mat a_desk_weeks a_desk_leaves a_desk_words_a a_desk_routes_a a_desk_offers_a a_desk_wants_a a_desk_uses_a a_tape_a : Nat) (v1 : Int32) (isKept : Int32) (planStands : Int32) (today : Int32) (lack : Int32) (rate : Int32) (free : Int32) (boxes_r : Int32) (boxes_f : (Nat → Int32)) (words_r : Int32) (routes_r : Int32) (offers_r : Int32) (wants_r : Int32) (leases_r : Int32) (leases_f : (Nat → Int32)) (uses_r : Int32) (tp_many : Int32) (tp_first : Int32) (tp_behind : Int32) {r : Int32}  (h : fX6_many v1 today boxes_r boxes_f words_r routes_r offers_r wants_r leases_r leases_f uses_r tp_many = some r) : CtI G l yX6_many wsX6_many rmX6_many [.ref a_eb, .int v1] (wX6_many G a_eb a_desk a_desk_boxes a_desk_boxes_a a_desk_words a_desk_routes a_desk_offers a_desk_wants a_desk_leases a_desk_leases_a a_desk_uses a_tape a_kept a_text a_plan a_mat a_desk_weeks a_desk_leaves a_desk_words_a a_desk_routes_a a_desk_offers_a a_desk_wants_a a_desk_uses_a a_tape_a isKept planStands today lack rate free boxes_r boxes_f words_r routes_r offers_r wants_r leases_r leases_f uses_r tp_many tp_first tp_behind) r (wX6_many G a_eb a_desk a_desk_boxes a_desk_boxes_a a_desk_words a_desk_routes a_desk_offers a_desk_wants a_desk_leases a_desk_leases_a a_desk_uses a_tape a_kept a_text a_plan a_mat a_desk_weeks a_desk_leaves a_desk_words_a a_desk_routes_a a_desk_offers_a a_desk_wants_a a_desk_uses_a a_tape_a isKept planStands today lack rate free boxes_r boxes_f words_r routes_r offers_r wants_r leases_r leases_f uses_r tp_many tp_first tp_behind) := k0X6_many G a_eb a_desk a_desk_boxes a_desk_boxes_a a_desk_words a_desk_routes a_desk_offers a_desk_wants a_desk_leases a_desk_leases_a a_desk_uses a_tape a_kept a_text a_plan a_mat a_desk_weeks a_desk_leaves a_desk_words_a a_desk_routes_a a_desk_offers_a a_desk_wants_a a_desk_uses_a a_tape_a v1 isKept planStands today lack rate free boxes_r boxes_f words_r routes_r offers_r wants_r leases_r leases_f uses_r tp_many tp_first tp_behind h
end MX6_many
/-! EmptyBoxes.keep -/
section MX6_keep
theorem hdX6_keep : yX6_keep.cls = RX6 ∧ yX6_keep.cls ≠ "java/lang/invoke/MethodHandle" ∧ yX6_keep.cls ≠ "java/lang/invoke/VarHandle" ∧ (parseMethodDescriptor yX6_keep.desc).map (fun d => d.parameters.length) = some 0 := by decide +kernel
abbrev wX6_keep (G : Gt) (a_eb a_desk a_desk_boxes a_desk_boxes_a a_desk_words a_desk_words_a a_desk_weeks a_desk_weeks_a a_desk_routes a_desk_routes_a a_desk_offers a_desk_offers_a a_desk_wants a_desk_wants_a a_desk_leaves a_desk_leaves_a a_desk_leases a_desk_leases_a a_desk_uses a_desk_uses_a a_kept a_kept_boxes a_kept_boxes_a a_kept_words a_kept_words_a a_kept_weeks a_kept_weeks_a a_kept_routes a_kept_routes_a a_kept_offers a_kept_offers_a a_kept_wants a_kept_wants_a a_kept_leaves a_kept_leaves_a a_kept_leases a_kept_leases_a a_kept_uses a_kept_uses_a a_tape a_text a_plan a_mat : Nat) (isKept : Int32) (planStands : Int32) (today : Int32) (lack : Int32) (rate : Int32) (free : Int32) (boxes_r : Int32) (boxes_f : (Nat → Int32)) (words_r : Int32) (words_f : (Nat → Int32)) (weeks_r : Int32) (weeks_f : (Nat → Int32)) (routes_r : Int32) (routes_f : (Nat → Int32)) (offers_r : Int32) (offers_f : (Nat → Int32)) (wants_r : Int32) (wants_f : (Nat → Int32)) (leaves_r : Int32) (leaves_f : (Nat → Int32)) (leases_r : Int32) (leases_f : (Nat → Int32)) (uses_r : Int32) (uses_f : (Nat → Int32)) (k_today : Int32) (k_lack : Int32) (k_rate : Int32) (k_free : Int32) (k_boxes_r : Int32) (k_boxes_f : (Nat → Int32)) (k_words_r : Int32) (k_words_f : (Nat → Int32)) (k_weeks_r : Int32) (k_weeks_f : (Nat → Int32)) (k_routes_r : Int32) (k_routes_f : (Nat → Int32)) (k_offers_r : Int32) (k_offers_f : (Nat → Int32)) (k_wants_r : Int32) (k_wants_f : (Nat → Int32)) (k_leaves_r : Int32) (k_leaves_f : (Nat → Int32)) (k_leases_r : Int32) (k_leases_f : (Nat → Int32)) (k_uses_r : Int32) (k_uses_f : (Nat → Int32)) : va_W := [(a_eb, .inr (6, [.ref a_desk, .ref a_kept, .ref a_tape, .ref a_text, .ref a_plan, .ref a_mat, .int isKept, .int planStands])), (a_desk, .inr (0, [.ref a_desk_boxes, .ref a_desk_words, .ref a_desk_weeks, .ref a_desk_routes, .ref a_desk_offers, .ref a_desk_wants, .ref a_desk_leaves, .ref a_desk_leases, .ref a_desk_uses, .int today, .int lack, .int rate, .int free])), (a_desk_boxes, .inr (4, [.ref a_desk_boxes_a, .int (9 : Int32), .int (24 : Int32), .int boxes_r])), (a_desk_boxes_a, .inl (G.2.1, 216, .inl boxes_f)), (a_desk_words, .inr (4, [.ref a_desk_words_a, .int (5 : Int32), .int (60 : Int32), .int words_r])), (a_desk_words_a, .inl (G.2.1, 300, .inl words_f)), (a_desk_weeks, .inr (4, [.ref a_desk_weeks_a, .int (2 : Int32), .int (30 : Int32), .int weeks_r])), (a_desk_weeks_a, .inl (G.2.1, 60, .inl weeks_f)), (a_desk_routes, .inr (4, [.ref a_desk_routes_a, .int (5 : Int32), .int (10 : Int32), .int routes_r])), (a_desk_routes_a, .inl (G.2.1, 50, .inl routes_f)), (a_desk_offers, .inr (4, [.ref a_desk_offers_a, .int (5 : Int32), .int (7 : Int32), .int offers_r])), (a_desk_offers_a, .inl (G.2.1, 35, .inl offers_f)), (a_desk_wants, .inr (4, [.ref a_desk_wants_a, .int (5 : Int32), .int (7 : Int32), .int wants_r])), (a_desk_wants_a, .inl (G.2.1, 35, .inl wants_f)), (a_desk_leaves, .inr (4, [.ref a_desk_leaves_a, .int (4 : Int32), .int (4 : Int32), .int leaves_r])), (a_desk_leaves_a, .inl (G.2.1, 16, .inl leaves_f)), (a_desk_leases, .inr (4, [.ref a_desk_leases_a, .int (17 : Int32), .int (3 : Int32), .int leases_r])), (a_desk_leases_a, .inl (G.2.1, 51, .inl leases_f)), (a_desk_uses, .inr (4, [.ref a_desk_uses_a, .int (6 : Int32), .int (40 : Int32), .int uses_r])), (a_desk_uses_a, .inl (G.2.1, 240, .inl uses_f)), (a_kept, .inr (0, [.ref a_kept_boxes, .ref a_kept_words, .ref a_kept_weeks, .ref a_kept_routes, .ref a_kept_offers, .ref a_kept_wants, .ref a_kept_leaves, .ref a_kept_leases, .ref a_kept_uses, .int k_today, .int k_lack, .int k_rate, .int k_free])), (a_kept_boxes, .inr (4, [.ref a_kept_boxes_a, .int (9 : Int32), .int (24 : Int32), .int k_boxes_r])), (a_kept_boxes_a, .inl (G.2.1, 216, .inl k_boxes_f)), (a_kept_words, .inr (4, [.ref a_kept_words_a, .int (5 : Int32), .int (60 : Int32), .int k_words_r])), (a_kept_words_a, .inl (G.2.1, 300, .inl k_words_f)), (a_kept_weeks, .inr (4, [.ref a_kept_weeks_a, .int (2 : Int32), .int (30 : Int32), .int k_weeks_r])), (a_kept_weeks_a, .inl (G.2.1, 60, .inl k_weeks_f)), (a_kept_routes, .inr (4, [.ref a_kept_routes_a, .int (5 : Int32), .int (10 : Int32), .int k_routes_r])), (a_kept_routes_a, .inl (G.2.1, 50, .inl k_routes_f)), (a_kept_offers, .inr (4, [.ref a_kept_offers_a, .int (5 : Int32), .int (7 : Int32), .int k_offers_r])), (a_kept_offers_a, .inl (G.2.1, 35, .inl k_offers_f)), (a_kept_wants, .inr (4, [.ref a_kept_wants_a, .int (5 : Int32), .int (7 : Int32), .int k_wants_r])), (a_kept_wants_a, .inl (G.2.1, 35, .inl k_wants_f)), (a_kept_leaves, .inr (4, [.ref a_kept_leaves_a, .int (4 : Int32), .int (4 : Int32), .int k_leaves_r])), (a_kept_leaves_a, .inl (G.2.1, 16, .inl k_leaves_f)), (a_kept_leases, .inr (4, [.ref a_kept_leases_a, .int (17 : Int32), .int (3 : Int32), .int k_leases_r])), (a_kept_leases_a, .inl (G.2.1, 51, .inl k_leases_f)), (a_kept_uses, .inr (4, [.ref a_kept_uses_a, .int (6 : Int32), .int (40 : Int32), .int k_uses_r])), (a_kept_uses_a, .inl (G.2.1, 240, .inl k_uses_f))]
abbrev rmX6_keep : Room := { frames := 3, cells := 0, slots := 0, locals := 68 }
theorem iX6_keep_X6 : ∀ w ∈ wsX60, w ∈ wsX6_keep := by decide +kernel
theorem eX6_keep_12 : Fk wsX6_keep RX6 12 6 0 := ⟨RX6, TX6, 8, rfl, iX6_keep_X6, by decide, by decide +kernel⟩
theorem eX6_keep_16 : Fk wsX6_keep RX6 16 6 1 := ⟨RX6, TX6, 8, rfl, iX6_keep_X6, by decide, by decide +kernel⟩
theorem pX6_keep_47 : Fp wsX6_keep RX6 47 6 6 .boolean := ⟨RX6, TX6, 8, tyX6, rfl, iX6_keep_X6, by decide, by decide +kernel, tyX6_ok, nmX6, rfl, by decide +kernel⟩
theorem ckX6_keep_X0_become_316 : CkV wsX6_keep RX6 316 yX0_become wsX0_become cX0_become 2 none 1 0 := ⟨RX0, TX0, 13, _, rfl, gX6_keep_X0_become, rfl, hdX0_become⟩
variable {p : Program} {l : Launch} {e : Env} {s : State} {m : MethodId} {args : Array Value} {below : List Frame} {meth : Method} {c : Code} {A : Nat → Prop} {G : Gt} {a_eb a_desk a_desk_boxes a_desk_boxes_a a_desk_words a_desk_words_a a_desk_weeks a_desk_weeks_a a_desk_routes a_desk_routes_a a_desk_offers a_desk_offers_a a_desk_wants a_desk_wants_a a_desk_leaves a_desk_leaves_a a_desk_leases a_desk_leases_a a_desk_uses a_desk_uses_a a_kept a_kept_boxes a_kept_boxes_a a_kept_words a_kept_words_a a_kept_weeks a_kept_weeks_a a_kept_routes a_kept_routes_a a_kept_offers a_kept_offers_a a_kept_wants a_kept_wants_a a_kept_leaves a_kept_leaves_a a_kept_leases a_kept_leases_a a_kept_uses a_kept_uses_a a_tape a_text a_plan a_mat : Nat} {planStands : Int32} {today : Int32} {lack : Int32} {rate : Int32} {free : Int32} {boxes_r : Int32} {boxes_f : (Nat → Int32)} {words_r : Int32} {words_f : (Nat → Int32)} {weeks_r : Int32} {weeks_f : (Nat → Int32)} {routes_r : Int32} {routes_f : (Nat → Int32)} {offers_r : Int32} {offers_f : (Nat → Int32)} {wants_r : Int32} {wants_f : (Nat → Int32)} {leaves_r : Int32} {leaves_f : (Nat → Int32)} {leases_r : Int32} {leases_f : (Nat → Int32)} {uses_r : Int32} {uses_f : (Nat → Int32)} {res : Int32 × Int32 × Int32 × Int32 × Int32 × Int32 × Int32 × (Nat → Int32) × Int32 × (Nat → Int32) × Int32 × (Nat → Int32) × Int32 × (Nat → Int32) × Int32 × (Nat → Int32) × Int32 × (Nat → Int32) × Int32 × (Nat → Int32) × Int32 × (Nat → Int32) × Int32 × (Nat → Int32)}
set_option maxHeartbeats 4000000 in
set_option maxRecDepth 100000 in
theorem k0X6_keep {l : Launch} (G : Gt) (a_eb a_desk a_desk_boxes a_desk_boxes_a a_desk_words a_desk_words_a a_desk_weeks a_desk_weeks_a a_desk_routes a_desk_routes_a a_desk_offers a_desk_offers_a a_desk_wants a_desk_wants_a a_desk_leaves a_desk_leaves_a a_desk_leases a_desk_leases_a a_desk_uses a_desk_uses_a a_kept a_kept_boxes a_kept_boxes_a a_kept_words a_kept_words_a a_kept_weeks a_kept_weeks_a a_kept_routes a_kept_routes_a a_kept_offers a_kept_offers_a a_kept_wants a_kept_wants_a a_kept_leaves a_kept_leaves_a a_kept_leases a_kept_leases_a a_kept_uses a_kept_uses_a a_tape a_text a_plan a_mat : Nat)  (isKept : Int32) (planStands : Int32) (today : Int32) (lack : Int32) (rate : Int32) (free : Int32) (boxes_r : Int32) (boxes_f : (Nat → Int32)) (words_r : Int32) (words_f : (Nat → Int32)) (weeks_r : Int32) (weeks_f : (Nat → Int32)) (routes_r : Int32) (routes_f : (Nat → Int32)) (offers_r : Int32) (offers_f : (Nat → Int32)) (wants_r : Int32) (wants_f : (Nat → Int32)) (leaves_r : Int32) (leaves_f : (Nat → Int32)) (leases_r : Int32) (leases_f : (Nat → Int32)) (uses_r : Int32) (uses_f : (Nat → Int32)) (k_today : Int32) (k_lack : Int32) (k_rate : Int32) (k_free : Int32) (k_boxes_r : Int32) (k_boxes_f : (Nat → Int32)) (k_words_r : Int32) (k_words_f : (Nat → Int32)) (k_weeks_r : Int32) (k_weeks_f : (Nat → Int32)) (k_routes_r : Int32) (k_routes_f : (Nat → Int32)) (k_offers_r : Int32) (k_offers_f : (Nat → Int32)) (k_wants_r : Int32) (k_wants_f : (Nat → Int32)) (k_leaves_r : Int32) (k_leaves_f : (Nat → Int32)) (k_leases_r : Int32) (k_leases_f : (Nat → Int32)) (k_uses_r : Int32) (k_uses_f : (Nat → Int32)) {res : Int32 × Int32 × Int32 × Int32 × Int32 × Int32 × Int32 × (Nat → Int32) × Int32 × (Nat → Int32) × Int32 × (Nat → Int32) × Int32 × (Nat → Int32) × Int32 × (Nat → Int32) × Int32 × (Nat → Int32) × Int32 × (Nat → Int32) × Int32 × (Nat → Int32) × Int32 × (Nat → Int32)} (h : fX6_keep isKept today lack rate free boxes_r boxes_f words_r words_f weeks_r weeks_f routes_r routes_f offers_r offers_f wants_r wants_f leaves_r leaves_f leases_r leases_f uses_r uses_f k_today k_lack k_rate k_free k_boxes_r k_boxes_f k_words_r k_words_f k_weeks_r k_weeks_f k_routes_r k_routes_f k_offers_r k_offers_f k_wants_r k_wants_f k_leaves_r k_leaves_f k_leases_r k_leases_f k_uses_r k_uses_f = some res) : CtI G l yX6_keep wsX6_keep rmX6_keep [.ref a_eb] (wX6_keep G a_eb a_desk a_desk_boxes a_desk_boxes_a a_desk_words a_desk_words_a a_desk_weeks a_desk_weeks_a a_desk_routes a_desk_routes_a a_desk_offers a_desk_offers_a a_desk_wants a_desk_wants_a a_desk_leaves a_desk_leaves_a a_desk_leases a_desk_leases_a a_desk_uses a_desk_uses_a a_kept a_kept_boxes a_kept_boxes_a a_kept_words a_kept_words_a a_kept_weeks a_kept_weeks_a a_kept_routes a_kept_routes_a a_kept_offers a_kept_offers_a a_kept_wants a_kept_wants_a a_kept_leaves a_kept_leaves_a a_kept_leases a_kept_leases_a a_kept_uses a_kept_uses_a a_tape a_text a_plan a_mat isKept planStands today lack rate free boxes_r boxes_f words_r words_f weeks_r weeks_f routes_r routes_f offers_r offers_f wants_r wants_f leaves_r leaves_f leases_r leases_f uses_r uses_f k_today k_lack k_rate k_free k_boxes_r k_boxes_f k_words_r k_words_f k_weeks_r k_weeks_f k_routes_r k_routes_f k_offers_r k_offers_f k_wants_r k_wants_f k_leaves_r k_leaves_f k_leases_r k_leases_f k_uses_r k_uses_f) res.1 (wX6_keep G a_eb a_desk a_desk_boxes a_desk_boxes_a a_desk_words a_desk_words_a a_desk_weeks a_desk_weeks_a a_desk_routes a_desk_routes_a a_desk_offers a_desk_offers_a a_desk_wants a_desk_wants_a a_desk_leaves a_desk_leaves_a a_desk_leases a_desk_leases_a a_desk_uses a_desk_uses_a a_kept a_kept_boxes a_kept_boxes_a a_kept_words a_kept_words_a a_kept_weeks a_kept_weeks_a a_kept_routes a_kept_routes_a a_kept_offers a_kept_offers_a a_kept_wants a_kept_wants_a a_kept_leaves a_kept_leaves_a a_kept_leases a_kept_leases_a a_kept_uses a_kept_uses_a a_tape a_text a_plan a_mat res.2.1 planStands today lack rate free boxes_r boxes_f words_r words_f weeks_r weeks_f routes_r routes_f offers_r offers_f wants_r wants_f leaves_r leaves_f leases_r leases_f uses_r uses_f res.2.2.1 res.2.2.2.1 res.2.2.2.2.1 res.2.2.2.2.2.1 res.2.2.2.2.2.2.1 res.2.2.2.2.2.2.2.1 res.2.2.2.2.2.2.2.2.1 res.2.2.2.2.2.2.2.2.2.1 res.2.2.2.2.2.2.2.2.2.2.1 res.2.2.2.2.2.2.2.2.2.2.2.1 res.2.2.2.2.2.2.2.2.2.2.2.2.1 res.2.2.2.2.2.2.2.2.2.2.2.2.2.1 res.2.2.2.2.2.2.2.2.2.2.2.2.2.2.1 res.2.2.2.2.2.2.2.2.2.2.2.2.2.2.2.1 res.2.2.2.2.2.2.2.2.2.2.2.2.2.2.2.2.1 res.2.2.2.2.2.2.2.2.2.2.2.2.2.2.2.2.2.1 res.2.2.2.2.2.2.2.2.2.2.2.2.2.2.2.2.2.2.1 res.2.2.2.2.2.2.2.2.2.2.2.2.2.2.2.2.2.2.2.1 res.2.2.2.2.2.2.2.2.2.2.2.2.2.2.2.2.2.2.2.2.1 res.2.2.2.2.2.2.2.2.2.2.2.2.2.2.2.2.2.2.2.2.2.1 res.2.2.2.2.2.2.2.2.2.2.2.2.2.2.2.2.2.2.2.2.2.2.1 res.2.2.2.2.2.2.2.2.2.2.2.2.2.2.2.2.2.2.2.2.2.2.2) := by
  refine CtI.mk (cc := cX6_keep) (maxL := 1) (ret := (some .int)) (own := RX6) (by decide) rfl rfl (Nat.le_of_ble_eq_true rfl) ?_
  intro p e s m below meth c A X ls hl hW
  obtain ⟨hx, hb, -⟩ := id X.1
  have hl : lv_has ls 1 [(0, .ref a_eb)] := hl
  generalize hH : s.heap = H at hW ⊢
  generalize hLo : ([] : List Loc) = locs at hW ⊢
  rw [fX6_keep] at h
  refine lv_aload_n hx hb dX6_keep_0 rfl (lv_at hl 0 rfl) ?_
  refine g_get X hW eX6_keep_16 0 rfl rfl dX6_keep_1 ?_
  refine lv_aload_n hx hb dX6_keep_4 rfl (lv_at hl 0 rfl) ?_
  refine g_get X hW eX6_keep_12 0 rfl rfl dX6_keep_5 ?_
  obtain ⟨o5_today, o5_lack, o5_rate, o5_free, o5_boxes_r, o5_boxes_f, o5_words_r, o5_words_f, o5_weeks_r, o5_weeks_f, o5_routes_r, o5_routes_f, o5_offers_r, o5_offers_f, o5_wants_r, o5_wants_f, o5_leaves_r, o5_leaves_f, o5_leases_r, o5_leases_f, o5_uses_r, o5_uses_f, hq, h⟩ := bn22_some h
  replace hW := Wo.swapT (wa := [(a_desk, .inr (0, [.ref a_desk_boxes, .ref a_desk_words, .ref a_desk_weeks, .ref a_desk_routes, .ref a_desk_offers, .ref a_desk_wants, .ref a_desk_leaves, .ref a_desk_leases, .ref a_desk_uses, .int today, .int lack, .int rate, .int free])), (a_desk_boxes, .inr (4, [.ref a_desk_boxes_a, .int (9 : Int32), .int (24 : Int32), .int boxes_r])), (a_desk_boxes_a, .inl (G.2.1, 216, .inl boxes_f)), (a_desk_words, .inr (4, [.ref a_desk_words_a, .int (5 : Int32), .int (60 : Int32), .int words_r])), (a_desk_words_a, .inl (G.2.1, 300, .inl words_f)), (a_desk_weeks, .inr (4, [.ref a_desk_weeks_a, .int (2 : Int32), .int (30 : Int32), .int weeks_r])), (a_desk_weeks_a, .inl (G.2.1, 60, .inl weeks_f)), (a_desk_routes, .inr (4, [.ref a_desk_routes_a, .int (5 : Int32), .int (10 : Int32), .int routes_r])), (a_desk_routes_a, .inl (G.2.1, 50, .inl routes_f)), (a_desk_offers, .inr (4, [.ref a_desk_offers_a, .int (5 : Int32), .int (7 : Int32), .int offers_r])), (a_desk_offers_a, .inl (G.2.1, 35, .inl offers_f)), (a_desk_wants, .inr (4, [.ref a_desk_wants_a, .int (5 : Int32), .int (7 : Int32), .int wants_r])), (a_desk_wants_a, .inl (G.2.1, 35, .inl wants_f)), (a_desk_leaves, .inr (4, [.ref a_desk_leaves_a, .int (4 : Int32), .int (4 : Int32), .int leaves_r])), (a_desk_leaves_a, .inl (G.2.1, 16, .inl leaves_f)), (a_desk_leases, .inr (4, [.ref a_desk_leases_a, .int (17 : Int32), .int (3 : Int32), .int leases_r])), (a_desk_leases_a, .inl (G.2.1, 51, .inl leases_f)), (a_desk_uses, .inr (4, [.ref a_desk_uses_a, .int (6 : Int32), .int (40 : Int32), .int uses_r])), (a_desk_uses_a, .inl (G.2.1, 240, .inl uses_f))]) (wb := [(a_kept, .inr (0, [.ref a_kept_boxes, .ref a_kept_words, .ref a_kept_weeks, .ref a_kept_routes, .ref a_kept_offers, .ref a_kept_wants, .ref a_kept_leaves, .ref a_kept_leases, .ref a_kept_uses, .int k_today, .int k_lack, .int k_rate, .int k_free])), (a_kept_boxes, .inr (4, [.ref a_kept_boxes_a, .int (9 : Int32), .int (24 : Int32), .int k_boxes_r])), (a_kept_boxes_a, .inl (G.2.1, 216, .inl k_boxes_f)), (a_kept_words, .inr (4, [.ref a_kept_words_a, .int (5 : Int32), .int (60 : Int32), .int k_words_r])), (a_kept_words_a, .inl (G.2.1, 300, .inl k_words_f)), (a_kept_weeks, .inr (4, [.ref a_kept_weeks_a, .int (2 : Int32), .int (30 : Int32), .int k_weeks_r])), (a_kept_weeks_a, .inl (G.2.1, 60, .inl k_weeks_f)), (a_kept_routes, .inr (4, [.ref a_kept_routes_a, .int (5 : Int32), .int (10 : Int32), .int k_routes_r])), (a_kept_routes_a, .inl (G.2.1, 50, .inl k_routes_f)), (a_kept_offers, .inr (4, [.ref a_kept_offers_a, .int (5 : Int32), .int (7 : Int32), .int k_offers_r])), (a_kept_offers_a, .inl (G.2.1, 35, .inl k_offers_f)), (a_kept_wants, .inr (4, [.ref a_kept_wants_a, .int (5 : Int32), .int (7 : Int32), .int k_wants_r])), (a_kept_wants_a, .inl (G.2.1, 35, .inl k_wants_f)), (a_kept_leaves, .inr (4, [.ref a_kept_leaves_a, .int (4 : Int32), .int (4 : Int32), .int k_leaves_r])), (a_kept_leaves_a, .inl (G.2.1, 16, .inl k_leaves_f)), (a_kept_leases, .inr (4, [.ref a_kept_leases_a, .int (17 : Int32), .int (3 : Int32), .int k_leases_r])), (a_kept_leases_a, .inl (G.2.1, 51, .inl k_leases_f)), (a_kept_uses, .inr (4, [.ref a_kept_uses_a, .int (6 : Int32), .int (40 : Int32), .int k_uses_r])), (a_kept_uses_a, .inl (G.2.1, 240, .inl k_uses_f))]) hW
  refine g_cvvT X hW (As := [.ref a_desk]) ckX6_keep_X0_become_316 (kcX0_become (l := l) G a_kept a_kept_boxes a_kept_boxes_a a_kept_words a_kept_words_a a_kept_weeks a_kept_weeks_a a_kept_routes a_kept_routes_a a_kept_offers a_kept_offers_a a_kept_wants a_kept_wants_a a_kept_leaves a_kept_leaves_a a_kept_leases a_kept_leases_a a_kept_uses a_kept_uses_a a_desk a_desk_boxes a_desk_boxes_a a_desk_words a_desk_words_a a_desk_weeks a_desk_weeks_a a_desk_routes a_desk_routes_a a_desk_offers a_desk_offers_a a_desk_wants a_desk_wants_a a_desk_leaves a_desk_leaves_a a_desk_leases a_desk_leases_a a_desk_uses a_desk_uses_a k_today k_lack k_rate k_free k_boxes_r k_boxes_f k_words_r k_words_f k_weeks_r k_weeks_f k_routes_r k_routes_f k_offers_r k_offers_f k_wants_r k_wants_f k_leaves_r k_leaves_f k_leases_r k_leases_f k_uses_r k_uses_f today lack rate free boxes_r boxes_f words_r words_f weeks_r weeks_f routes_r routes_f offers_r offers_f wants_r wants_f leaves_r leaves_f leases_r leases_f uses_r uses_f hq) ⟨rfl, rfl, Nat.le_of_ble_eq_true rfl, Nat.le_of_ble_eq_true rfl⟩ rfl rfl rfl rfl hl.1 (Nat.le_of_ble_eq_true rfl) ⟨Nat.zero_le _, Nat.zero_le _⟩ dX6_keep_8 (fun H locs hW => ?_)
  replace hW := Wo.swapT (wa := [(a_kept, .inr (0, [.ref a_kept_boxes, .ref a_kept_words, .ref a_kept_weeks, .ref a_kept_routes, .ref a_kept_offers, .ref a_kept_wants, .ref a_kept_leaves, .ref a_kept_leases, .ref a_kept_uses, .int o5_today, .int o5_lack, .int o5_rate, .int o5_free])), (a_kept_boxes, .inr (4, [.ref a_kept_boxes_a, .int (9 : Int32), .int (24 : Int32), .int o5_boxes_r])), (a_kept_boxes_a, .inl (G.2.1, 216, .inl o5_boxes_f)), (a_kept_words, .inr (4, [.ref a_kept_words_a, .int (5 : Int32), .int (60 : Int32), .int o5_words_r])), (a_kept_words_a, .inl (G.2.1, 300, .inl o5_words_f)), (a_kept_weeks, .inr (4, [.ref a_kept_weeks_a, .int (2 : Int32), .int (30 : Int32), .int o5_weeks_r])), (a_kept_weeks_a, .inl (G.2.1, 60, .inl o5_weeks_f)), (a_kept_routes, .inr (4, [.ref a_kept_routes_a, .int (5 : Int32), .int (10 : Int32), .int o5_routes_r])), (a_kept_routes_a, .inl (G.2.1, 50, .inl o5_routes_f)), (a_kept_offers, .inr (4, [.ref a_kept_offers_a, .int (5 : Int32), .int (7 : Int32), .int o5_offers_r])), (a_kept_offers_a, .inl (G.2.1, 35, .inl o5_offers_f)), (a_kept_wants, .inr (4, [.ref a_kept_wants_a, .int (5 : Int32), .int (7 : Int32), .int o5_wants_r])), (a_kept_wants_a, .inl (G.2.1, 35, .inl o5_wants_f)), (a_kept_leaves, .inr (4, [.ref a_kept_leaves_a, .int (4 : Int32), .int (4 : Int32), .int o5_leaves_r])), (a_kept_leaves_a, .inl (G.2.1, 16, .inl o5_leaves_f)), (a_kept_leases, .inr (4, [.ref a_kept_leases_a, .int (17 : Int32), .int (3 : Int32), .int o5_leases_r])), (a_kept_leases_a, .inl (G.2.1, 51, .inl o5_leases_f)), (a_kept_uses, .inr (4, [.ref a_kept_uses_a, .int (6 : Int32), .int (40 : Int32), .int o5_uses_r])), (a_kept_uses_a, .inl (G.2.1, 240, .inl o5_uses_f))]) (wb := [(a_desk, .inr (0, [.ref a_desk_boxes, .ref a_desk_words, .ref a_desk_weeks, .ref a_desk_routes, .ref a_desk_offers, .ref a_desk_wants, .ref a_desk_leaves, .ref a_desk_leases, .ref a_desk_uses, .int today, .int lack, .int rate, .int free])), (a_desk_boxes, .inr (4, [.ref a_desk_boxes_a, .int (9 : Int32), .int (24 : Int32), .int boxes_r])), (a_desk_boxes_a, .inl (G.2.1, 216, .inl boxes_f)), (a_desk_words, .inr (4, [.ref a_desk_words_a, .int (5 : Int32), .int (60 : Int32), .int words_r])), (a_desk_words_a, .inl (G.2.1, 300, .inl words_f)), (a_desk_weeks, .inr (4, [.ref a_desk_weeks_a, .int (2 : Int32), .int (30 : Int32), .int weeks_r])), (a_desk_weeks_a, .inl (G.2.1, 60, .inl weeks_f)), (a_desk_routes, .inr (4, [.ref a_desk_routes_a, .int (5 : Int32), .int (10 : Int32), .int routes_r])), (a_desk_routes_a, .inl (G.2.1, 50, .inl routes_f)), (a_desk_offers, .inr (4, [.ref a_desk_offers_a, .int (5 : Int32), .int (7 : Int32), .int offers_r])), (a_desk_offers_a, .inl (G.2.1, 35, .inl offers_f)), (a_desk_wants, .inr (4, [.ref a_desk_wants_a, .int (5 : Int32), .int (7 : Int32), .int wants_r])), (a_desk_wants_a, .inl (G.2.1, 35, .inl wants_f)), (a_desk_leaves, .inr (4, [.ref a_desk_leaves_a, .int (4 : Int32), .int (4 : Int32), .int leaves_r])), (a_desk_leaves_a, .inl (G.2.1, 16, .inl leaves_f)), (a_desk_leases, .inr (4, [.ref a_desk_leases_a, .int (17 : Int32), .int (3 : Int32), .int leases_r])), (a_desk_leases_a, .inl (G.2.1, 51, .inl leases_f)), (a_desk_uses, .inr (4, [.ref a_desk_uses_a, .int (6 : Int32), .int (40 : Int32), .int uses_r])), (a_desk_uses_a, .inl (G.2.1, 240, .inl uses_f))]) hW
  have hW : Wo G A s (wX6_keep G a_eb a_desk a_desk_boxes a_desk_boxes_a a_desk_words a_desk_words_a a_desk_weeks a_desk_weeks_a a_desk_routes a_desk_routes_a a_desk_offers a_desk_offers_a a_desk_wants a_desk_wants_a a_desk_leaves a_desk_leaves_a a_desk_leases a_desk_leases_a a_desk_uses a_desk_uses_a a_kept a_kept_boxes a_kept_boxes_a a_kept_words a_kept_words_a a_kept_weeks a_kept_weeks_a a_kept_routes a_kept_routes_a a_kept_offers a_kept_offers_a a_kept_wants a_kept_wants_a a_kept_leaves a_kept_leaves_a a_kept_leases a_kept_leases_a a_kept_uses a_kept_uses_a a_tape a_text a_plan a_mat isKept planStands today lack rate free boxes_r boxes_f words_r words_f weeks_r weeks_f routes_r routes_f offers_r offers_f wants_r wants_f leaves_r leaves_f leases_r leases_f uses_r uses_f o5_today o5_lack o5_rate o5_free o5_boxes_r o5_boxes_f o5_words_r o5_words_f o5_weeks_r o5_weeks_f o5_routes_r o5_routes_f o5_offers_r o5_offers_f o5_wants_r o5_wants_f o5_leaves_r o5_leaves_f o5_leases_r o5_leases_f o5_uses_r o5_uses_f) H locs := hW
  refine lv_aload_n hx hb dX6_keep_11 rfl (lv_at hl 0 rfl) ?_
  refine lv_iconst hx hb dX6_keep_12 qI_1 ?_
  refine g_put X hW (ws' := (wX6_keep G a_eb a_desk a_desk_boxes a_desk_boxes_a a_desk_words a_desk_words_a a_desk_weeks a_desk_weeks_a a_desk_routes a_desk_routes_a a_desk_offers a_desk_offers_a a_desk_wants a_desk_wants_a a_desk_leaves a_desk_leaves_a a_desk_leases a_desk_leases_a a_desk_uses a_desk_uses_a a_kept a_kept_boxes a_kept_boxes_a a_kept_words a_kept_words_a a_kept_weeks a_kept_weeks_a a_kept_routes a_kept_routes_a a_kept_offers a_kept_offers_a a_kept_wants a_kept_wants_a a_kept_leaves a_kept_leaves_a a_kept_leases a_kept_leases_a a_kept_uses a_kept_uses_a a_tape a_text a_plan a_mat (1 : Int32) planStands today lack rate free boxes_r boxes_f words_r words_f weeks_r weeks_f routes_r routes_f offers_r offers_f wants_r wants_f leaves_r leaves_f leases_r leases_f uses_r uses_f o5_today o5_lack o5_rate o5_free o5_boxes_r o5_boxes_f o5_words_r o5_words_f o5_weeks_r o5_weeks_f o5_routes_r o5_routes_f o5_offers_r o5_offers_f o5_wants_r o5_wants_f o5_leaves_r o5_leaves_f o5_leases_r o5_leases_f o5_uses_r o5_uses_f)) pX6_keep_47 0 rfl (Nat.le_of_ble_eq_true rfl) (zb_n (v := (1 : Int32)) rfl) (zb_f (v := (1 : Int32)) rfl) rfl dX6_keep_13 (fun H locs hW => ?_)
  refine lv_iconst hx hb dX6_keep_16 qI_1 ?_
  obtain rfl := Option.some.inj h
  exact g_iret X hW dX6_keep_17
theorem kcX6_keep {l : Launch} (G : Gt) (a_eb a_desk a_desk_boxes a_desk_boxes_a a_desk_words a_desk_words_a a_desk_weeks a_desk_weeks_a a_desk_routes a_desk_routes_a a_desk_offers a_desk_offers_a a_desk_wants a_desk_wants_a a_desk_leaves a_desk_leaves_a a_desk_leases a_desk_leases_a a_desk_uses a_desk_uses_a a_kept a_kept_boxes a_kept_boxes_a a_kept_words a_kept_words_a a_kept_weeks a_kept_weeks_a a_kept_routes a_kept_routes_a a_kept_offers a_kept_offers_a a_kept_wants a_kept_wants_a a_kept_leaves a_kept_leaves_a a_kept_leases a_kept_leases_a a_kept_uses a_kept_uses_a a_tape a_text a_plan a_mat : Nat)  (isKept : Int32) (planStands : Int32) (today : Int32) (lack : Int32) (rate : Int32) (free : Int32) (boxes_r : Int32) (boxes_f : (Nat → Int32)) (words_r : Int32) (words_f : (Nat → Int32)) (weeks_r : Int32) (weeks_f : (Nat → Int32)) (routes_r : Int32) (routes_f : (Nat → Int32)) (offers_r : Int32) (offers_f : (Nat → Int32)) (wants_r : Int32) (wants_f : (Nat → Int32)) (leaves_r : Int32) (leaves_f : (Nat → Int32)) (leases_r : Int32) (leases_f : (Nat → Int32)) (uses_r : Int32) (uses_f : (Nat → Int32)) (k_today : Int32) (k_lack : Int32) (k_rate : Int32) (k_free : Int32) (k_boxes_r : Int32) (k_boxes_f : (Nat → Int32)) (k_words_r : Int32) (k_words_f : (Nat → Int32)) (k_weeks_r : Int32) (k_weeks_f : (Nat → Int32)) (k_routes_r : Int32) (k_routes_f : (Nat → Int32)) (k_offers_r : Int32) (k_offers_f : (Nat → Int32)) (k_wants_r : Int32) (k_wants_f : (Nat → Int32)) (k_leaves_r : Int32) (k_leaves_f : (Nat → Int32)) (k_leases_r : Int32) (k_leases_f : (Nat → Int32)) (k_uses_r : Int32) (k_uses_f : (Nat → Int32)) {r : Int32} {z_isKept : Int32} {z_k_today : Int32} {z_k_lack : Int32} {z_k_rate : Int32} {z_k_free : Int32} {z_k_boxes_r : Int32} {z_k_boxes_f : (Nat → Int32)} {z_k_words_r : Int32} {z_k_words_f : (Nat → Int32)} {z_k_weeks_r : Int32} {z_k_weeks_f : (Nat → Int32)} {z_k_routes_r : Int32} {z_k_routes_f : (Nat → Int32)} {z_k_offers_r : Int32} {z_k_offers_f : (Nat → Int32)} {z_k_wants_r : Int32} {z_k_wants_f : (Nat → Int32)} {z_k_leaves_r : Int32} {z_k_leaves_f : (Nat → Int32)} {z_k_leases_r : Int32} {z_k_leases_f : (Nat → Int32)} {z_k_uses_r : Int32} {z_k_uses_f : (Nat → Int32)} (h : fX6_keep isKept today lack rate free boxes_r boxes_f words_r words_f weeks_r weeks_f routes_r routes_f offers_r offers_f wants_r wants_f leaves_r leaves_f leases_r leases_f uses_r uses_f k_today k_lack k_rate k_free k_boxes_r k_boxes_f k_words_r k_words_f k_weeks_r k_weeks_f k_routes_r k_routes_f k_offers_r k_offers_f k_wants_r k_wants_f k_leaves_r k_leaves_f k_leases_r k_leases_f k_uses_r k_uses_f = some (r, z_isKept, z_k_today, z_k_lack, z_k_rate, z_k_free, z_k_boxes_r, z_k_boxes_f, z_k_words_r, z_k_words_f, z_k_weeks_r, z_k_weeks_f, z_k_routes_r, z_k_routes_f, z_k_offers_r, z_k_offers_f, z_k_wants_r, z_k_wants_f, z_k_leaves_r, z_k_leaves_f, z_k_leases_r, z_k_leases_f, z_k_uses_r, z_k_uses_f)) : CtI G l yX6_keep wsX6_keep rmX6_keep [.ref a_eb] (wX6_keep G a_eb a_desk a_desk_boxes a_desk_boxes_a a_desk_words a_desk_words_a a_desk_weeks a_desk_weeks_a a_desk_routes a_desk_routes_a a_desk_offers a_desk_offers_a a_desk_wants a_desk_wants_a a_desk_leaves a_desk_leaves_a a_desk_leases a_desk_leases_a a_desk_uses a_desk_uses_a a_kept a_kept_boxes a_kept_boxes_a a_kept_words a_kept_words_a a_kept_weeks a_kept_weeks_a a_kept_routes a_kept_routes_a a_kept_offers a_kept_offers_a a_kept_wants a_kept_wants_a a_kept_leaves a_kept_leaves_a a_kept_leases a_kept_leases_a a_kept_uses a_kept_uses_a a_tape a_text a_plan a_mat isKept planStands today lack rate free boxes_r boxes_f words_r words_f weeks_r weeks_f routes_r routes_f offers_r offers_f wants_r wants_f leaves_r leaves_f leases_r leases_f uses_r uses_f k_today k_lack k_rate k_free k_boxes_r k_boxes_f k_words_r k_words_f k_weeks_r k_weeks_f k_routes_r k_routes_f k_offers_r k_offers_f k_wants_r k_wants_f k_leaves_r k_leaves_f k_leases_r k_leases_f k_uses_r k_uses_f) r (wX6_keep G a_eb a_desk a_desk_boxes a_desk_boxes_a a_desk_words a_desk_words_a a_desk_weeks a_desk_weeks_a a_desk_routes a_desk_routes_a a_desk_offers a_desk_offers_a a_desk_wants a_desk_wants_a a_desk_leaves a_desk_leaves_a a_desk_leases a_desk_leases_a a_desk_uses a_desk_uses_a a_kept a_kept_boxes a_kept_boxes_a a_kept_words a_kept_words_a a_kept_weeks a_kept_weeks_a a_kept_routes a_kept_routes_a a_kept_offers a_kept_offers_a a_kept_wants a_kept_wants_a a_kept_leaves a_kept_leaves_a a_kept_leases a_kept_leases_a a_kept_uses a_kept_uses_a a_tape a_text a_plan a_mat z_isKept planStands today lack rate free boxes_r boxes_f words_r words_f weeks_r weeks_f routes_r routes_f offers_r offers_f wants_r wants_f leaves_r leaves_f leases_r leases_f uses_r uses_f z_k_today z_k_lack z_k_rate z_k_free z_k_boxes_r z_k_boxes_f z_k_words_r z_k_words_f z_k_weeks_r z_k_weeks_f z_k_routes_r z_k_routes_f z_k_offers_r z_k_offers_f z_k_wants_r z_k_wants_f z_k_leaves_r z_k_leaves_f z_k_leases_r z_k_leases_f z_k_uses_r z_k_uses_f) := k0X6_keep G a_eb a_desk a_desk_boxes a_desk_boxes_a a_desk_words a_desk_words_a a_desk_weeks a_desk_weeks_a a_desk_routes a_desk_routes_a a_desk_offers a_desk_offers_a a_desk_wants a_desk_wants_a a_desk_leaves a_desk_leaves_a a_desk_leases a_desk_leases_a a_desk_uses a_desk_uses_a a_kept a_kept_boxes a_kept_boxes_a a_kept_words a_kept_words_a a_kept_weeks a_kept_weeks_a a_kept_routes a_kept_routes_a a_kept_offers a_kept_offers_a a_kept_wants a_kept_wants_a a_kept_leaves a_kept_leaves_a a_kept_leases a_kept_leases_a a_kept_uses a_kept_uses_a a_tape a_text a_plan a_mat isKept planStands today lack rate free boxes_r boxes_f words_r words_f weeks_r weeks_f routes_r routes_f offers_r offers_f wants_r wants_f leaves_r leaves_f leases_r leases_f uses_r uses_f k_today k_lack k_rate k_free k_boxes_r k_boxes_f k_words_r k_words_f k_weeks_r k_weeks_f k_routes_r k_routes_f k_offers_r k_offers_f k_wants_r k_wants_f k_leaves_r k_leaves_f k_leases_r k_leases_f k_uses_r k_uses_f h
end MX6_keep
/-! EmptyBoxes.back -/
section MX6_back
theorem hdX6_back : yX6_back.cls = RX6 ∧ yX6_back.cls ≠ "java/lang/invoke/MethodHandle" ∧ yX6_back.cls ≠ "java/lang/invoke/VarHandle" ∧ (parseMethodDescriptor yX6_back.desc).map (fun d => d.parameters.length) = some 0 := by decide +kernel
abbrev wX6_back (G : Gt) (a_eb a_desk a_desk_boxes a_desk_boxes_a a_desk_words a_desk_words_a a_desk_weeks a_desk_weeks_a a_desk_routes a_desk_routes_a a_desk_offers a_desk_offers_a a_desk_wants a_desk_wants_a a_desk_leaves a_desk_leaves_a a_desk_leases a_desk_leases_a a_desk_uses a_desk_uses_a a_kept a_kept_boxes a_kept_boxes_a a_kept_words a_kept_words_a a_kept_weeks a_kept_weeks_a a_kept_routes a_kept_routes_a a_kept_offers a_kept_offers_a a_kept_wants a_kept_wants_a a_kept_leaves a_kept_leaves_a a_kept_leases a_kept_leases_a a_kept_uses a_kept_uses_a a_tape a_text a_plan a_mat : Nat) (isKept : Int32) (planStands : Int32) (today : Int32) (lack : Int32) (rate : Int32) (free : Int32) (boxes_r : Int32) (boxes_f : (Nat → Int32)) (words_r : Int32) (words_f : (Nat → Int32)) (weeks_r : Int32) (weeks_f : (Nat → Int32)) (routes_r : Int32) (routes_f : (Nat → Int32)) (offers_r : Int32) (offers_f : (Nat → Int32)) (wants_r : Int32) (wants_f : (Nat → Int32)) (leaves_r : Int32) (leaves_f : (Nat → Int32)) (leases_r : Int32) (leases_f : (Nat → Int32)) (uses_r : Int32) (uses_f : (Nat → Int32)) (k_today : Int32) (k_lack : Int32) (k_rate : Int32) (k_free : Int32) (k_boxes_r : Int32) (k_boxes_f : (Nat → Int32)) (k_words_r : Int32) (k_words_f : (Nat → Int32)) (k_weeks_r : Int32) (k_weeks_f : (Nat → Int32)) (k_routes_r : Int32) (k_routes_f : (Nat → Int32)) (k_offers_r : Int32) (k_offers_f : (Nat → Int32)) (k_wants_r : Int32) (k_wants_f : (Nat → Int32)) (k_leaves_r : Int32) (k_leaves_f : (Nat → Int32)) (k_leases_r : Int32) (k_leases_f : (Nat → Int32)) (k_uses_r : Int32) (k_uses_f : (Nat → Int32)) : va_W := [(a_eb, .inr (6, [.ref a_desk, .ref a_kept, .ref a_tape, .ref a_text, .ref a_plan, .ref a_mat, .int isKept, .int planStands])), (a_desk, .inr (0, [.ref a_desk_boxes, .ref a_desk_words, .ref a_desk_weeks, .ref a_desk_routes, .ref a_desk_offers, .ref a_desk_wants, .ref a_desk_leaves, .ref a_desk_leases, .ref a_desk_uses, .int today, .int lack, .int rate, .int free])), (a_desk_boxes, .inr (4, [.ref a_desk_boxes_a, .int (9 : Int32), .int (24 : Int32), .int boxes_r])), (a_desk_boxes_a, .inl (G.2.1, 216, .inl boxes_f)), (a_desk_words, .inr (4, [.ref a_desk_words_a, .int (5 : Int32), .int (60 : Int32), .int words_r])), (a_desk_words_a, .inl (G.2.1, 300, .inl words_f)), (a_desk_weeks, .inr (4, [.ref a_desk_weeks_a, .int (2 : Int32), .int (30 : Int32), .int weeks_r])), (a_desk_weeks_a, .inl (G.2.1, 60, .inl weeks_f)), (a_desk_routes, .inr (4, [.ref a_desk_routes_a, .int (5 : Int32), .int (10 : Int32), .int routes_r])), (a_desk_routes_a, .inl (G.2.1, 50, .inl routes_f)), (a_desk_offers, .inr (4, [.ref a_desk_offers_a, .int (5 : Int32), .int (7 : Int32), .int offers_r])), (a_desk_offers_a, .inl (G.2.1, 35, .inl offers_f)), (a_desk_wants, .inr (4, [.ref a_desk_wants_a, .int (5 : Int32), .int (7 : Int32), .int wants_r])), (a_desk_wants_a, .inl (G.2.1, 35, .inl wants_f)), (a_desk_leaves, .inr (4, [.ref a_desk_leaves_a, .int (4 : Int32), .int (4 : Int32), .int leaves_r])), (a_desk_leaves_a, .inl (G.2.1, 16, .inl leaves_f)), (a_desk_leases, .inr (4, [.ref a_desk_leases_a, .int (17 : Int32), .int (3 : Int32), .int leases_r])), (a_desk_leases_a, .inl (G.2.1, 51, .inl leases_f)), (a_desk_uses, .inr (4, [.ref a_desk_uses_a, .int (6 : Int32), .int (40 : Int32), .int uses_r])), (a_desk_uses_a, .inl (G.2.1, 240, .inl uses_f)), (a_kept, .inr (0, [.ref a_kept_boxes, .ref a_kept_words, .ref a_kept_weeks, .ref a_kept_routes, .ref a_kept_offers, .ref a_kept_wants, .ref a_kept_leaves, .ref a_kept_leases, .ref a_kept_uses, .int k_today, .int k_lack, .int k_rate, .int k_free])), (a_kept_boxes, .inr (4, [.ref a_kept_boxes_a, .int (9 : Int32), .int (24 : Int32), .int k_boxes_r])), (a_kept_boxes_a, .inl (G.2.1, 216, .inl k_boxes_f)), (a_kept_words, .inr (4, [.ref a_kept_words_a, .int (5 : Int32), .int (60 : Int32), .int k_words_r])), (a_kept_words_a, .inl (G.2.1, 300, .inl k_words_f)), (a_kept_weeks, .inr (4, [.ref a_kept_weeks_a, .int (2 : Int32), .int (30 : Int32), .int k_weeks_r])), (a_kept_weeks_a, .inl (G.2.1, 60, .inl k_weeks_f)), (a_kept_routes, .inr (4, [.ref a_kept_routes_a, .int (5 : Int32), .int (10 : Int32), .int k_routes_r])), (a_kept_routes_a, .inl (G.2.1, 50, .inl k_routes_f)), (a_kept_offers, .inr (4, [.ref a_kept_offers_a, .int (5 : Int32), .int (7 : Int32), .int k_offers_r])), (a_kept_offers_a, .inl (G.2.1, 35, .inl k_offers_f)), (a_kept_wants, .inr (4, [.ref a_kept_wants_a, .int (5 : Int32), .int (7 : Int32), .int k_wants_r])), (a_kept_wants_a, .inl (G.2.1, 35, .inl k_wants_f)), (a_kept_leaves, .inr (4, [.ref a_kept_leaves_a, .int (4 : Int32), .int (4 : Int32), .int k_leaves_r])), (a_kept_leaves_a, .inl (G.2.1, 16, .inl k_leaves_f)), (a_kept_leases, .inr (4, [.ref a_kept_leases_a, .int (17 : Int32), .int (3 : Int32), .int k_leases_r])), (a_kept_leases_a, .inl (G.2.1, 51, .inl k_leases_f)), (a_kept_uses, .inr (4, [.ref a_kept_uses_a, .int (6 : Int32), .int (40 : Int32), .int k_uses_r])), (a_kept_uses_a, .inl (G.2.1, 240, .inl k_uses_f))]
abbrev rmX6_back : Room := { frames := 3, cells := 0, slots := 0, locals := 68 }
theorem iX6_back_X6 : ∀ w ∈ wsX60, w ∈ wsX6_back := by decide +kernel
theorem eX6_back_12 : Fk wsX6_back RX6 12 6 0 := ⟨RX6, TX6, 8, rfl, iX6_back_X6, by decide, by decide +kernel⟩
theorem eX6_back_16 : Fk wsX6_back RX6 16 6 1 := ⟨RX6, TX6, 8, rfl, iX6_back_X6, by decide, by decide +kernel⟩
theorem eX6_back_47 : Fk wsX6_back RX6 47 6 6 := ⟨RX6, TX6, 8, rfl, iX6_back_X6, by decide, by decide +kernel⟩
theorem pX6_back_51 : Fp wsX6_back RX6 51 6 7 .boolean := ⟨RX6, TX6, 8, tyX6, rfl, iX6_back_X6, by decide, by decide +kernel, tyX6_ok, nmX6, rfl, by decide +kernel⟩
theorem ckX6_back_X0_become_316 : CkV wsX6_back RX6 316 yX0_become wsX0_become cX0_become 2 none 1 0 := ⟨RX0, TX0, 13, _, rfl, gX6_back_X0_become, rfl, hdX0_become⟩
variable {p : Program} {l : Launch} {e : Env} {s : State} {m : MethodId} {args : Array Value} {below : List Frame} {meth : Method} {c : Code} {A : Nat → Prop} {G : Gt} {a_eb a_desk a_desk_boxes a_desk_boxes_a a_desk_words a_desk_words_a a_desk_weeks a_desk_weeks_a a_desk_routes a_desk_routes_a a_desk_offers a_desk_offers_a a_desk_wants a_desk_wants_a a_desk_leaves a_desk_leaves_a a_desk_leases a_desk_leases_a a_desk_uses a_desk_uses_a a_kept a_kept_boxes a_kept_boxes_a a_kept_words a_kept_words_a a_kept_weeks a_kept_weeks_a a_kept_routes a_kept_routes_a a_kept_offers a_kept_offers_a a_kept_wants a_kept_wants_a a_kept_leaves a_kept_leaves_a a_kept_leases a_kept_leases_a a_kept_uses a_kept_uses_a a_tape a_text a_plan a_mat : Nat} {isKept : Int32} {k_today : Int32} {k_lack : Int32} {k_rate : Int32} {k_free : Int32} {k_boxes_r : Int32} {k_boxes_f : (Nat → Int32)} {k_words_r : Int32} {k_words_f : (Nat → Int32)} {k_weeks_r : Int32} {k_weeks_f : (Nat → Int32)} {k_routes_r : Int32} {k_routes_f : (Nat → Int32)} {k_offers_r : Int32} {k_offers_f : (Nat → Int32)} {k_wants_r : Int32} {k_wants_f : (Nat → Int32)} {k_leaves_r : Int32} {k_leaves_f : (Nat → Int32)} {k_leases_r : Int32} {k_leases_f : (Nat → Int32)} {k_uses_r : Int32} {k_uses_f : (Nat → Int32)} {res : Int32 × Int32 × Int32 × Int32 × Int32 × Int32 × Int32 × (Nat → Int32) × Int32 × (Nat → Int32) × Int32 × (Nat → Int32) × Int32 × (Nat → Int32) × Int32 × (Nat → Int32) × Int32 × (Nat → Int32) × Int32 × (Nat → Int32) × Int32 × (Nat → Int32) × Int32 × (Nat → Int32)}
set_option maxHeartbeats 4000000 in
set_option maxRecDepth 100000 in
theorem k0X6_back {l : Launch} (G : Gt) (a_eb a_desk a_desk_boxes a_desk_boxes_a a_desk_words a_desk_words_a a_desk_weeks a_desk_weeks_a a_desk_routes a_desk_routes_a a_desk_offers a_desk_offers_a a_desk_wants a_desk_wants_a a_desk_leaves a_desk_leaves_a a_desk_leases a_desk_leases_a a_desk_uses a_desk_uses_a a_kept a_kept_boxes a_kept_boxes_a a_kept_words a_kept_words_a a_kept_weeks a_kept_weeks_a a_kept_routes a_kept_routes_a a_kept_offers a_kept_offers_a a_kept_wants a_kept_wants_a a_kept_leaves a_kept_leaves_a a_kept_leases a_kept_leases_a a_kept_uses a_kept_uses_a a_tape a_text a_plan a_mat : Nat)  (isKept : Int32) (planStands : Int32) (today : Int32) (lack : Int32) (rate : Int32) (free : Int32) (boxes_r : Int32) (boxes_f : (Nat → Int32)) (words_r : Int32) (words_f : (Nat → Int32)) (weeks_r : Int32) (weeks_f : (Nat → Int32)) (routes_r : Int32) (routes_f : (Nat → Int32)) (offers_r : Int32) (offers_f : (Nat → Int32)) (wants_r : Int32) (wants_f : (Nat → Int32)) (leaves_r : Int32) (leaves_f : (Nat → Int32)) (leases_r : Int32) (leases_f : (Nat → Int32)) (uses_r : Int32) (uses_f : (Nat → Int32)) (k_today : Int32) (k_lack : Int32) (k_rate : Int32) (k_free : Int32) (k_boxes_r : Int32) (k_boxes_f : (Nat → Int32)) (k_words_r : Int32) (k_words_f : (Nat → Int32)) (k_weeks_r : Int32) (k_weeks_f : (Nat → Int32)) (k_routes_r : Int32) (k_routes_f : (Nat → Int32)) (k_offers_r : Int32) (k_offers_f : (Nat → Int32)) (k_wants_r : Int32) (k_wants_f : (Nat → Int32)) (k_leaves_r : Int32) (k_leaves_f : (Nat → Int32)) (k_leases_r : Int32) (k_leases_f : (Nat → Int32)) (k_uses_r : Int32) (k_uses_f : (Nat → Int32)) {res : Int32 × Int32 × Int32 × Int32 × Int32 × Int32 × Int32 × (Nat → Int32) × Int32 × (Nat → Int32) × Int32 × (Nat → Int32) × Int32 × (Nat → Int32) × Int32 × (Nat → Int32) × Int32 × (Nat → Int32) × Int32 × (Nat → Int32) × Int32 × (Nat → Int32) × Int32 × (Nat → Int32)} (h : fX6_back isKept planStands today lack rate free boxes_r boxes_f words_r words_f weeks_r weeks_f routes_r routes_f offers_r offers_f wants_r wants_f leaves_r leaves_f leases_r leases_f uses_r uses_f k_today k_lack k_rate k_free k_boxes_r k_boxes_f k_words_r k_words_f k_weeks_r k_weeks_f k_routes_r k_routes_f k_offers_r k_offers_f k_wants_r k_wants_f k_leaves_r k_leaves_f k_leases_r k_leases_f k_uses_r k_uses_f = some res) : CtI G l yX6_back wsX6_back rmX6_back [.ref a_eb] (wX6_back G a_eb a_desk a_desk_boxes a_desk_boxes_a a_desk_words a_desk_words_a a_desk_weeks a_desk_weeks_a a_desk_routes a_desk_routes_a a_desk_offers a_desk_offers_a a_desk_wants a_desk_wants_a a_desk_leaves a_desk_leaves_a a_desk_leases a_desk_leases_a a_desk_uses a_desk_uses_a a_kept a_kept_boxes a_kept_boxes_a a_kept_words a_kept_words_a a_kept_weeks a_kept_weeks_a a_kept_routes a_kept_routes_a a_kept_offers a_kept_offers_a a_kept_wants a_kept_wants_a a_kept_leaves a_kept_leaves_a a_kept_leases a_kept_leases_a a_kept_uses a_kept_uses_a a_tape a_text a_plan a_mat isKept planStands today lack rate free boxes_r boxes_f words_r words_f weeks_r weeks_f routes_r routes_f offers_r offers_f wants_r wants_f leaves_r leaves_f leases_r leases_f uses_r uses_f k_today k_lack k_rate k_free k_boxes_r k_boxes_f k_words_r k_words_f k_weeks_r k_weeks_f k_routes_r k_routes_f k_offers_r k_offers_f k_wants_r k_wants_f k_leaves_r k_leaves_f k_leases_r k_leases_f k_uses_r k_uses_f) res.1 (wX6_back G a_eb a_desk a_desk_boxes a_desk_boxes_a a_desk_words a_desk_words_a a_desk_weeks a_desk_weeks_a a_desk_routes a_desk_routes_a a_desk_offers a_desk_offers_a a_desk_wants a_desk_wants_a a_desk_leaves a_desk_leaves_a a_desk_leases a_desk_leases_a a_desk_uses a_desk_uses_a a_kept a_kept_boxes a_kept_boxes_a a_kept_words a_kept_words_a a_kept_weeks a_kept_weeks_a a_kept_routes a_kept_routes_a a_kept_offers a_kept_offers_a a_kept_wants a_kept_wants_a a_kept_leaves a_kept_leaves_a a_kept_leases a_kept_leases_a a_kept_uses a_kept_uses_a a_tape a_text a_plan a_mat isKept res.2.1 res.2.2.1 res.2.2.2.1 res.2.2.2.2.1 res.2.2.2.2.2.1 res.2.2.2.2.2.2.1 res.2.2.2.2.2.2.2.1 res.2.2.2.2.2.2.2.2.1 res.2.2.2.2.2.2.2.2.2.1 res.2.2.2.2.2.2.2.2.2.2.1 res.2.2.2.2.2.2.2.2.2.2.2.1 res.2.2.2.2.2.2.2.2.2.2.2.2.1 res.2.2.2.2.2.2.2.2.2.2.2.2.2.1 res.2.2.2.2.2.2.2.2.2.2.2.2.2.2.1 res.2.2.2.2.2.2.2.2.2.2.2.2.2.2.2.1 res.2.2.2.2.2.2.2.2.2.2.2.2.2.2.2.2.1 res.2.2.2.2.2.2.2.2.2.2.2.2.2.2.2.2.2.1 res.2.2.2.2.2.2.2.2.2.2.2.2.2.2.2.2.2.2.1 res.2.2.2.2.2.2.2.2.2.2.2.2.2.2.2.2.2.2.2.1 res.2.2.2.2.2.2.2.2.2.2.2.2.2.2.2.2.2.2.2.2.1 res.2.2.2.2.2.2.2.2.2.2.2.2.2.2.2.2.2.2.2.2.2.1 res.2.2.2.2.2.2.2.2.2.2.2.2.2.2.2.2.2.2.2.2.2.2.1 res.2.2.2.2.2.2.2.2.2.2.2.2.2.2.2.2.2.2.2.2.2.2.2 k_today k_lack k_rate k_free k_boxes_r k_boxes_f k_words_r k_words_f k_weeks_r k_weeks_f k_routes_r k_routes_f k_offers_r k_offers_f k_wants_r k_wants_f k_leaves_r k_leaves_f k_leases_r k_leases_f k_uses_r k_uses_f) := by
  refine CtI.mk (cc := cX6_back) (maxL := 1) (ret := (some .int)) (own := RX6) (by decide) rfl rfl (Nat.le_of_ble_eq_true rfl) ?_
  intro p e s m below meth c A X ls hl hW
  obtain ⟨hx, hb, -⟩ := id X.1
  have hl : lv_has ls 1 [(0, .ref a_eb)] := hl
  generalize hH : s.heap = H at hW ⊢
  generalize hLo : ([] : List Loc) = locs at hW ⊢
  rw [fX6_back] at h
  refine lv_aload_n hx hb dX6_back_0 rfl (lv_at hl 0 rfl) ?_
  refine g_get X hW eX6_back_47 0 rfl rfl dX6_back_1 ?_
  refine lv_if_ne (tgt := 10) hx hb dX6_back_4 (by decide) (fun c3 => ?_) (fun c3 => ?_)
  · have h := (if_neg c3).symm.trans h
    refine lv_aload_n hx hb dX6_back_10 rfl (lv_at hl 0 rfl) ?_
    refine g_get X hW eX6_back_12 0 rfl rfl dX6_back_11 ?_
    refine lv_aload_n hx hb dX6_back_14 rfl (lv_at hl 0 rfl) ?_
    refine g_get X hW eX6_back_16 0 rfl rfl dX6_back_15 ?_
    obtain ⟨o8_today, o8_lack, o8_rate, o8_free, o8_boxes_r, o8_boxes_f, o8_words_r, o8_words_f, o8_weeks_r, o8_weeks_f, o8_routes_r, o8_routes_f, o8_offers_r, o8_offers_f, o8_wants_r, o8_wants_f, o8_leaves_r, o8_leaves_f, o8_leases_r, o8_leases_f, o8_uses_r, o8_uses_f, hq, h⟩ := bn22_some h
    refine g_cvvT X hW (As := [.ref a_kept]) ckX6_back_X0_become_316 (kcX0_become (l := l) G a_desk a_desk_boxes a_desk_boxes_a a_desk_words a_desk_words_a a_desk_weeks a_desk_weeks_a a_desk_routes a_desk_routes_a a_desk_offers a_desk_offers_a a_desk_wants a_desk_wants_a a_desk_leaves a_desk_leaves_a a_desk_leases a_desk_leases_a a_desk_uses a_desk_uses_a a_kept a_kept_boxes a_kept_boxes_a a_kept_words a_kept_words_a a_kept_weeks a_kept_weeks_a a_kept_routes a_kept_routes_a a_kept_offers a_kept_offers_a a_kept_wants a_kept_wants_a a_kept_leaves a_kept_leaves_a a_kept_leases a_kept_leases_a a_kept_uses a_kept_uses_a today lack rate free boxes_r boxes_f words_r words_f weeks_r weeks_f routes_r routes_f offers_r offers_f wants_r wants_f leaves_r leaves_f leases_r leases_f uses_r uses_f k_today k_lack k_rate k_free k_boxes_r k_boxes_f k_words_r k_words_f k_weeks_r k_weeks_f k_routes_r k_routes_f k_offers_r k_offers_f k_wants_r k_wants_f k_leaves_r k_leaves_f k_leases_r k_leases_f k_uses_r k_uses_f hq) ⟨rfl, rfl, Nat.le_of_ble_eq_true rfl, Nat.le_of_ble_eq_true rfl⟩ rfl rfl rfl rfl hl.1 (Nat.le_of_ble_eq_true rfl) ⟨Nat.zero_le _, Nat.zero_le _⟩ dX6_back_18 (fun H locs hW => ?_)
    have hW : Wo G A s (wX6_back G a_eb a_desk a_desk_boxes a_desk_boxes_a a_desk_words a_desk_words_a a_desk_weeks a_desk_weeks_a a_desk_routes a_desk_routes_a a_desk_offers a_desk_offers_a a_desk_wants a_desk_wants_a a_desk_leaves a_desk_leaves_a a_desk_leases a_desk_leases_a a_desk_uses a_desk_uses_a a_kept a_kept_boxes a_kept_boxes_a a_kept_words a_kept_words_a a_kept_weeks a_kept_weeks_a a_kept_routes a_kept_routes_a a_kept_offers a_kept_offers_a a_kept_wants a_kept_wants_a a_kept_leaves a_kept_leaves_a a_kept_leases a_kept_leases_a a_kept_uses a_kept_uses_a a_tape a_text a_plan a_mat isKept planStands o8_today o8_lack o8_rate o8_free o8_boxes_r o8_boxes_f o8_words_r o8_words_f o8_weeks_r o8_weeks_f o8_routes_r o8_routes_f o8_offers_r o8_offers_f o8_wants_r o8_wants_f o8_leaves_r o8_leaves_f o8_leases_r o8_leases_f o8_uses_r o8_uses_f k_today k_lack k_rate k_free k_boxes_r k_boxes_f k_words_r k_words_f k_weeks_r k_weeks_f k_routes_r k_routes_f k_offers_r k_offers_f k_wants_r k_wants_f k_leaves_r k_leaves_f k_leases_r k_leases_f k_uses_r k_uses_f) H locs := hW
    refine lv_aload_n hx hb dX6_back_21 rfl (lv_at hl 0 rfl) ?_
    refine lv_iconst hx hb dX6_back_22 qI_0 ?_
    refine g_put X hW (ws' := (wX6_back G a_eb a_desk a_desk_boxes a_desk_boxes_a a_desk_words a_desk_words_a a_desk_weeks a_desk_weeks_a a_desk_routes a_desk_routes_a a_desk_offers a_desk_offers_a a_desk_wants a_desk_wants_a a_desk_leaves a_desk_leaves_a a_desk_leases a_desk_leases_a a_desk_uses a_desk_uses_a a_kept a_kept_boxes a_kept_boxes_a a_kept_words a_kept_words_a a_kept_weeks a_kept_weeks_a a_kept_routes a_kept_routes_a a_kept_offers a_kept_offers_a a_kept_wants a_kept_wants_a a_kept_leaves a_kept_leaves_a a_kept_leases a_kept_leases_a a_kept_uses a_kept_uses_a a_tape a_text a_plan a_mat isKept (0 : Int32) o8_today o8_lack o8_rate o8_free o8_boxes_r o8_boxes_f o8_words_r o8_words_f o8_weeks_r o8_weeks_f o8_routes_r o8_routes_f o8_offers_r o8_offers_f o8_wants_r o8_wants_f o8_leaves_r o8_leaves_f o8_leases_r o8_leases_f o8_uses_r o8_uses_f k_today k_lack k_rate k_free k_boxes_r k_boxes_f k_words_r k_words_f k_weeks_r k_weeks_f k_routes_r k_routes_f k_offers_r k_offers_f k_wants_r k_wants_f k_leaves_r k_leaves_f k_leases_r k_leases_f k_uses_r k_uses_f)) pX6_back_51 0 rfl (Nat.le_of_ble_eq_true rfl) (zb_n (v := (0 : Int32)) rfl) (zb_f (v := (0 : Int32)) rfl) rfl dX6_back_23 (fun H locs hW => ?_)
    refine lv_iconst hx hb dX6_back_26 qI_1 ?_
    obtain rfl := Option.some.inj h
    exact g_iret X hW dX6_back_27
  · have h := (if_pos c3).symm.trans h
    refine lv_bipush hx hb dX6_back_7 qB_m3 ?_
    obtain rfl := Option.some.inj h
    exact g_iret X hW dX6_back_9
theorem kcX6_back {l : Launch} (G : Gt) (a_eb a_desk a_desk_boxes a_desk_boxes_a a_desk_words a_desk_words_a a_desk_weeks a_desk_weeks_a a_desk_routes a_desk_routes_a a_desk_offers a_desk_offers_a a_desk_wants a_desk_wants_a a_desk_leaves a_desk_leaves_a a_desk_leases a_desk_leases_a a_desk_uses a_desk_uses_a a_kept a_kept_boxes a_kept_boxes_a a_kept_words a_kept_words_a a_kept_weeks a_kept_weeks_a a_kept_routes a_kept_routes_a a_kept_offers a_kept_offers_a a_kept_wants a_kept_wants_a a_kept_leaves a_kept_leaves_a a_kept_leases a_kept_leases_a a_kept_uses a_kept_uses_a a_tape a_text a_plan a_mat : Nat)  (isKept : Int32) (planStands : Int32) (today : Int32) (lack : Int32) (rate : Int32) (free : Int32) (boxes_r : Int32) (boxes_f : (Nat → Int32)) (words_r : Int32) (words_f : (Nat → Int32)) (weeks_r : Int32) (weeks_f : (Nat → Int32)) (routes_r : Int32) (routes_f : (Nat → Int32)) (offers_r : Int32) (offers_f : (Nat → Int32)) (wants_r : Int32) (wants_f : (Nat → Int32)) (leaves_r : Int32) (leaves_f : (Nat → Int32)) (leases_r : Int32) (leases_f : (Nat → Int32)) (uses_r : Int32) (uses_f : (Nat → Int32)) (k_today : Int32) (k_lack : Int32) (k_rate : Int32) (k_free : Int32) (k_boxes_r : Int32) (k_boxes_f : (Nat → Int32)) (k_words_r : Int32) (k_words_f : (Nat → Int32)) (k_weeks_r : Int32) (k_weeks_f : (Nat → Int32)) (k_routes_r : Int32) (k_routes_f : (Nat → Int32)) (k_offers_r : Int32) (k_offers_f : (Nat → Int32)) (k_wants_r : Int32) (k_wants_f : (Nat → Int32)) (k_leaves_r : Int32) (k_leaves_f : (Nat → Int32)) (k_leases_r : Int32) (k_leases_f : (Nat → Int32)) (k_uses_r : Int32) (k_uses_f : (Nat → Int32)) {r : Int32} {z_planStands : Int32} {z_today : Int32} {z_lack : Int32} {z_rate : Int32} {z_free : Int32} {z_boxes_r : Int32} {z_boxes_f : (Nat → Int32)} {z_words_r : Int32} {z_words_f : (Nat → Int32)} {z_weeks_r : Int32} {z_weeks_f : (Nat → Int32)} {z_routes_r : Int32} {z_routes_f : (Nat → Int32)} {z_offers_r : Int32} {z_offers_f : (Nat → Int32)} {z_wants_r : Int32} {z_wants_f : (Nat → Int32)} {z_leaves_r : Int32} {z_leaves_f : (Nat → Int32)} {z_leases_r : Int32} {z_leases_f : (Nat → Int32)} {z_uses_r : Int32} {z_uses_f : (Nat → Int32)} (h : fX6_back isKept planStands today lack rate free boxes_r boxes_f words_r words_f weeks_r weeks_f routes_r routes_f offers_r offers_f wants_r wants_f leaves_r leaves_f leases_r leases_f uses_r uses_f k_today k_lack k_rate k_free k_boxes_r k_boxes_f k_words_r k_words_f k_weeks_r k_weeks_f k_routes_r k_routes_f k_offers_r k_offers_f k_wants_r k_wants_f k_leaves_r k_leaves_f k_leases_r k_leases_f k_uses_r k_uses_f = some (r, z_planStands, z_today, z_lack, z_rate, z_free, z_boxes_r, z_boxes_f, z_words_r, z_words_f, z_weeks_r, z_weeks_f, z_routes_r, z_routes_f, z_offers_r, z_offers_f, z_wants_r, z_wants_f, z_leaves_r, z_leaves_f, z_leases_r, z_leases_f, z_uses_r, z_uses_f)) : CtI G l yX6_back wsX6_back rmX6_back [.ref a_eb] (wX6_back G a_eb a_desk a_desk_boxes a_desk_boxes_a a_desk_words a_desk_words_a a_desk_weeks a_desk_weeks_a a_desk_routes a_desk_routes_a a_desk_offers a_desk_offers_a a_desk_wants a_desk_wants_a a_desk_leaves a_desk_leaves_a a_desk_leases a_desk_leases_a a_desk_uses a_desk_uses_a a_kept a_kept_boxes a_kept_boxes_a a_kept_words a_kept_words_a a_kept_weeks a_kept_weeks_a a_kept_routes a_kept_routes_a a_kept_offers a_kept_offers_a a_kept_wants a_kept_wants_a a_kept_leaves a_kept_leaves_a a_kept_leases a_kept_leases_a a_kept_uses a_kept_uses_a a_tape a_text a_plan a_mat isKept planStands today lack rate free boxes_r boxes_f words_r words_f weeks_r weeks_f routes_r routes_f offers_r offers_f wants_r wants_f leaves_r leaves_f leases_r leases_f uses_r uses_f k_today k_lack k_rate k_free k_boxes_r k_boxes_f k_words_r k_words_f k_weeks_r k_weeks_f k_routes_r k_routes_f k_offers_r k_offers_f k_wants_r k_wants_f k_leaves_r k_leaves_f k_leases_r k_leases_f k_uses_r k_uses_f) r (wX6_back G a_eb a_desk a_desk_boxes a_desk_boxes_a a_desk_words a_desk_words_a a_desk_weeks a_desk_weeks_a a_desk_routes a_desk_routes_a a_desk_offers a_desk_offers_a a_desk_wants a_desk_wants_a a_desk_leaves a_desk_leaves_a a_desk_leases a_desk_leases_a a_desk_uses a_desk_uses_a a_kept a_kept_boxes a_kept_boxes_a a_kept_words a_kept_words_a a_kept_weeks a_kept_weeks_a a_kept_routes a_kept_routes_a a_kept_offers a_kept_offers_a a_kept_wants a_kept_wants_a a_kept_leaves a_kept_leaves_a a_kept_leases a_kept_leases_a a_kept_uses a_kept_uses_a a_tape a_text a_plan a_mat isKept z_planStands z_today z_lack z_rate z_free z_boxes_r z_boxes_f z_words_r z_words_f z_weeks_r z_weeks_f z_routes_r z_routes_f z_offers_r z_offers_f z_wants_r z_wants_f z_leaves_r z_leaves_f z_leases_r z_leases_f z_uses_r z_uses_f k_today k_lack k_rate k_free k_boxes_r k_boxes_f k_words_r k_words_f k_weeks_r k_weeks_f k_routes_r k_routes_f k_offers_r k_offers_f k_wants_r k_wants_f k_leaves_r k_leaves_f k_leases_r k_leases_f k_uses_r k_uses_f) := k0X6_back G a_eb a_desk a_desk_boxes a_desk_boxes_a a_desk_words a_desk_words_a a_desk_weeks a_desk_weeks_a a_desk_routes a_desk_routes_a a_desk_offers a_desk_offers_a a_desk_wants a_desk_wants_a a_desk_leaves a_desk_leaves_a a_desk_leases a_desk_leases_a a_desk_uses a_desk_uses_a a_kept a_kept_boxes a_kept_boxes_a a_kept_words a_kept_words_a a_kept_weeks a_kept_weeks_a a_kept_routes a_kept_routes_a a_kept_offers a_kept_offers_a a_kept_wants a_kept_wants_a a_kept_leaves a_kept_leaves_a a_kept_leases a_kept_leases_a a_kept_uses a_kept_uses_a a_tape a_text a_plan a_mat isKept planStands today lack rate free boxes_r boxes_f words_r words_f weeks_r weeks_f routes_r routes_f offers_r offers_f wants_r wants_f leaves_r leaves_f leases_r leases_f uses_r uses_f k_today k_lack k_rate k_free k_boxes_r k_boxes_f k_words_r k_words_f k_weeks_r k_weeks_f k_routes_r k_routes_f k_offers_r k_offers_f k_wants_r k_wants_f k_leaves_r k_leaves_f k_leases_r k_leases_f k_uses_r k_uses_f h
end MX6_back
