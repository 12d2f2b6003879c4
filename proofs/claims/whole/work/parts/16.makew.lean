theorem hd_X0_init : yX0_init.cls ≠ "java/lang/invoke/MethodHandle" ∧ yX0_init.cls ≠ "java/lang/invoke/VarHandle" ∧ (parseMethodDescriptor yX0_init.desc).map (fun d => d.parameters.length) = some 4 := by decide +kernel
set_option maxHeartbeats 4000000 in
theorem c_X0_init (l : Launch) (D : va_G) (B : Nat) (cy : Nat → ClassId) (A : Nat → Prop) (ad av : Nat → Nat) (x0 : Nat) (x1 : Int32) (x2 : Int32) (x3 : Int32) (x4 : Nat) {S Z : HS} (hfr : hFr S) (hG : hC S) (hf : fn_X0_init x0 x1 x2 x3 x4 S = some Z) : hMet l yX0_init cX0_init 5 none ({ frames := 1, cells := 0, slots := 0, locals := 20 } : Room) D B cy A ad av true hC [.ref (B + x0), .int x1, .int x2, .int x3, .ref (B + x4)] S Z none 0 0 := by
  refine h_entry (by decide) hfr hG ?_
  intro p e s m below meth c args X hnm hw
  have hl := lv_entry ([.ref (B + x0), .int x1, .int x2, .int x3, .ref (B + x4)]) (n := 5) (Nat.le_of_ble_eq_true rfl)
  rw [lg_entry_eq]
  generalize (lg_sl ([.ref (B + x0), .int x1, .int x2, .int x3, .ref (B + x4)]) ++ List.replicate (5 - (lg_sl ([.ref (B + x0), .int x1, .int x2, .int x3, .ref (B + x4)])).length) Slot.unset).toArray = ls at hl ⊢
  have hl : lv_has ls 5 [(0, .ref (B + x0)), (1, .int x1), (2, .int x2), (3, .int x3), (4, .ref (B + x4))] := hl
  unfold fn_X0_init at hf
  refine lv_aload_n X.1 X.2.1 dX0_init_0 rfl (lv_at hl 0 rfl) ?_
  refine r_objInit X tw_408 hl.1 (by decide) (Nat.le_of_ble_eq_true rfl) dX0_init_1 ?_
  refine lv_aload_n X.1 X.2.1 dX0_init_4 rfl (lv_at hl 0 rfl) ?_
  refine lv_iload_n X.1 X.2.1 dX0_init_5 rfl (lv_at hl 1 rfl) ?_
  obtain ⟨g1, hf⟩ := gd_ok hf
  obtain ⟨S2, eS2, hf⟩ := bn_ok hf
  replace eS2 := Option.some.inj eS2
  refine r_putI X hw (κ := 1) rfl inlX0 tyX0 tyX0_ok nmX0 0 (by decide) rfl (by decide) tw_409 (Or.inr ⟨rfl, hnm, rfl⟩) g1 rfl rfl hw.2.2.2.2.2 dX0_init_6 (fun H locs hw => ?_)
  rw [eS2] at hw
  refine lv_aload_n X.1 X.2.1 dX0_init_9 rfl (lv_at hl 0 rfl) ?_
  refine lv_iload_n X.1 X.2.1 dX0_init_10 rfl (lv_at hl 2 rfl) ?_
  obtain ⟨g3, hf⟩ := gd_ok hf
  obtain ⟨S4, eS4, hf⟩ := bn_ok hf
  replace eS4 := Option.some.inj eS4
  refine r_putI X hw (κ := 1) rfl inlX0 tyX0 tyX0_ok nmX0 1 (by decide) rfl (by decide) tw_410 (Or.inr ⟨rfl, hnm, rfl⟩) g3 rfl rfl hw.2.2.2.2.2 dX0_init_11 (fun H locs hw => ?_)
  rw [eS4] at hw
  refine lv_aload_n X.1 X.2.1 dX0_init_14 rfl (lv_at hl 0 rfl) ?_
  refine lv_iload_n X.1 X.2.1 dX0_init_15 rfl (lv_at hl 3 rfl) ?_
  obtain ⟨g5, hf⟩ := gd_ok hf
  obtain ⟨S6, eS6, hf⟩ := bn_ok hf
  replace eS6 := Option.some.inj eS6
  refine r_putI X hw (κ := 1) rfl inlX0 tyX0 tyX0_ok nmX0 2 (by decide) rfl (by decide) tw_411 (Or.inr ⟨rfl, hnm, rfl⟩) g5 rfl rfl hw.2.2.2.2.2 dX0_init_16 (fun H locs hw => ?_)
  rw [eS6] at hw
  refine lv_aload_n X.1 X.2.1 dX0_init_19 rfl (lv_at hl 0 rfl) ?_
  refine lv_aload X.1 X.2.1 dX0_init_20 (lv_at hl 4 rfl) ?_
  obtain ⟨g7, hf⟩ := gd_ok hf
  obtain ⟨S8, eS8, hf⟩ := bn_ok hf
  replace eS8 := Option.some.inj eS8
  refine r_putR (v := (some x4)) X hw (κ := 1) rfl inlX0 tyX0 tyX0_ok nmX0 3 (by decide) rfl (by decide) tw_412 (Or.inr ⟨rfl, hnm, rfl⟩) g7 (by first | exact Or.inl ⟨_, rfl⟩ | exact Or.inr ⟨_, rfl⟩) (hC_sR hw.2.2.2.2.2 g7 (by decide)) dX0_init_22 (fun H locs hw => ?_)
  rw [eS8] at hw
  cases hf
  exact r_vret X hw dX0_init_25
theorem hd_X3_init : yX3_init.cls ≠ "java/lang/invoke/MethodHandle" ∧ yX3_init.cls ≠ "java/lang/invoke/VarHandle" ∧ (parseMethodDescriptor yX3_init.desc).map (fun d => d.parameters.length) = some 5 := by decide +kernel
set_option maxHeartbeats 4000000 in
theorem c_X3_init (l : Launch) (D : va_G) (B : Nat) (cy : Nat → ClassId) (A : Nat → Prop) (ad av : Nat → Nat) (x0 : Nat) (x1 : Int32) (x2 : Int32) (x3 : Int32) (x4 : Int32) (x5 : Int32) {S Z : HS} (hfr : hFr S) (hG : hC S) (hf : fn_X3_init x0 x1 x2 x3 x4 x5 S = some Z) : hMet l yX3_init cX3_init 6 none ({ frames := 1, cells := 0, slots := 0, locals := 20 } : Room) D B cy A ad av true hC [.ref (B + x0), .int x1, .int x2, .int x3, .int x4, .int x5] S Z none 0 0 := by
  refine h_entry (by decide) hfr hG ?_
  intro p e s m below meth c args X hnm hw
  have hl := lv_entry ([.ref (B + x0), .int x1, .int x2, .int x3, .int x4, .int x5]) (n := 6) (Nat.le_of_ble_eq_true rfl)
  rw [lg_entry_eq]
  generalize (lg_sl ([.ref (B + x0), .int x1, .int x2, .int x3, .int x4, .int x5]) ++ List.replicate (6 - (lg_sl ([.ref (B + x0), .int x1, .int x2, .int x3, .int x4, .int x5])).length) Slot.unset).toArray = ls at hl ⊢
  have hl : lv_has ls 6 [(0, .ref (B + x0)), (1, .int x1), (2, .int x2), (3, .int x3), (4, .int x4), (5, .int x5)] := hl
  unfold fn_X3_init at hf
  refine lv_aload_n X.1 X.2.1 dX3_init_0 rfl (lv_at hl 0 rfl) ?_
  refine r_objInit X tw_565 hl.1 (by decide) (Nat.le_of_ble_eq_true rfl) dX3_init_1 ?_
  refine lv_aload_n X.1 X.2.1 dX3_init_4 rfl (lv_at hl 0 rfl) ?_
  refine lv_iload_n X.1 X.2.1 dX3_init_5 rfl (lv_at hl 1 rfl) ?_
  obtain ⟨g1, hf⟩ := gd_ok hf
  obtain ⟨S2, eS2, hf⟩ := bn_ok hf
  replace eS2 := Option.some.inj eS2
  refine r_putI X hw (κ := 4) rfl inlX3 tyX3 tyX3_ok nmX3 0 (by decide) rfl (by decide) tw_566 (Or.inr ⟨rfl, hnm, rfl⟩) g1 rfl rfl hw.2.2.2.2.2 dX3_init_6 (fun H locs hw => ?_)
  rw [eS2] at hw
  refine lv_aload_n X.1 X.2.1 dX3_init_9 rfl (lv_at hl 0 rfl) ?_
  refine lv_iload_n X.1 X.2.1 dX3_init_10 rfl (lv_at hl 2 rfl) ?_
  obtain ⟨g3, hf⟩ := gd_ok hf
  obtain ⟨S4, eS4, hf⟩ := bn_ok hf
  replace eS4 := Option.some.inj eS4
  refine r_putI X hw (κ := 4) rfl inlX3 tyX3 tyX3_ok nmX3 1 (by decide) rfl (by decide) tw_567 (Or.inr ⟨rfl, hnm, rfl⟩) g3 rfl rfl hw.2.2.2.2.2 dX3_init_11 (fun H locs hw => ?_)
  rw [eS4] at hw
  refine lv_aload_n X.1 X.2.1 dX3_init_14 rfl (lv_at hl 0 rfl) ?_
  refine lv_iload_n X.1 X.2.1 dX3_init_15 rfl (lv_at hl 3 rfl) ?_
  obtain ⟨g5, hf⟩ := gd_ok hf
  obtain ⟨S6, eS6, hf⟩ := bn_ok hf
  replace eS6 := Option.some.inj eS6
  refine r_putI X hw (κ := 4) rfl inlX3 tyX3 tyX3_ok nmX3 2 (by decide) rfl (by decide) tw_568 (Or.inr ⟨rfl, hnm, rfl⟩) g5 rfl rfl hw.2.2.2.2.2 dX3_init_16 (fun H locs hw => ?_)
  rw [eS6] at hw
  refine lv_aload_n X.1 X.2.1 dX3_init_19 rfl (lv_at hl 0 rfl) ?_
  refine lv_iload X.1 X.2.1 dX3_init_20 (lv_at hl 4 rfl) ?_
  obtain ⟨g7, hf⟩ := gd_ok hf
  obtain ⟨S8, eS8, hf⟩ := bn_ok hf
  replace eS8 := Option.some.inj eS8
  refine r_putI X hw (κ := 4) rfl inlX3 tyX3 tyX3_ok nmX3 3 (by decide) rfl (by decide) tw_569 (Or.inr ⟨rfl, hnm, rfl⟩) g7 rfl rfl hw.2.2.2.2.2 dX3_init_22 (fun H locs hw => ?_)
  rw [eS8] at hw
  refine lv_aload_n X.1 X.2.1 dX3_init_25 rfl (lv_at hl 0 rfl) ?_
  refine lv_iload X.1 X.2.1 dX3_init_26 (lv_at hl 5 rfl) ?_
  obtain ⟨g9, hf⟩ := gd_ok hf
  obtain ⟨S10, eS10, hf⟩ := bn_ok hf
  replace eS10 := Option.some.inj eS10
  refine r_putI X hw (κ := 4) rfl inlX3 tyX3 tyX3_ok nmX3 4 (by decide) rfl (by decide) tw_570 (Or.inr ⟨rfl, hnm, rfl⟩) g9 rfl rfl hw.2.2.2.2.2 dX3_init_28 (fun H locs hw => ?_)
  rw [eS10] at hw
  cases hf
  exact r_vret X hw dX3_init_31
set_option maxHeartbeats 4000000 in
theorem w_X2_init_35 {p : Program} {l : Launch} {e : Env} {s : State} {m : MethodId} {args : Array Value} {below : List Frame} {meth : Method} {c : Code} {D : va_G} {B : Nat} {cy : Nat → ClassId} {A : Nat → Prop} {ad av : Nat → Nat} {Z : HS} (X : hCX p s m args meth c RX2 cX2_init 3 none D cy A ad av) (hnm : meth.name = "<init>") (hA : ∀ c, 65 ≤ c → A (B + c)) (h99 : cy 99 = ad 9)  (y0 : Int32) (y1 : Nat) (ca : Nat) (sl : Nat) (S : HS) (H : Heap) (locs : List Loc) (ls : Array Slot) (hf : fn_X2_init_35 y0 y1 ca sl S = some Z) (hw : hWd D B cy A true hC S s.heap H locs) (hl : lv_has ls 3 []) (hb : ca ≤ 1 ∧ sl ≤ 8) : W p l e ({ frames := 1, cells := 1, slots := 8, locals := 20 } : Room) s m args below meth c H locs ca sl (MQ below (hQo D B cy A true hC Z none) args s 1 8 A) (F0 m 35 ls [.int y0, .ref (B + y1)]) := by
  unfold fn_X2_init_35 at hf
  obtain ⟨g1, hf⟩ := gd_ok hf
  obtain ⟨S2, eS2, hf⟩ := bn_ok hf
  replace eS2 := Option.some.inj eS2
  refine r_newa (κ := 21) (atype := .int) (N := y0.toNatClampNeg) X hw rfl (Or.inr (Or.inl ⟨rfl, rfl⟩)) tw_23 g1.1 rfl g1.2.1 (hA _ hw.2.2.2.2.2.1) (hC_aN hw.2.2.2.2.2 21 (y0.toNatClampNeg)) g1.2.2.1 g1.2.2.2 dX2_init_35 (fun H hw => ?_)
  rw [eS2] at hw
  obtain ⟨g3, hf⟩ := gd_ok hf
  obtain ⟨S4, eS4, hf⟩ := bn_ok hf
  replace eS4 := Option.some.inj eS4
  refine r_putR (v := (some (gZ S))) X hw (κ := 3) rfl inlX2 tyX2 tyX2_ok nmX2 2 (by decide) rfl (by decide) tw_290 (Or.inr ⟨rfl, hnm, rfl⟩) g3 (by first | exact Or.inl ⟨_, rfl⟩ | exact Or.inr ⟨_, rfl⟩) (hC_sR hw.2.2.2.2.2 g3 (by decide)) dX2_init_37 (fun H locs hw => ?_)
  rw [eS4] at hw
  refine W.widen (k := 1) (n := 8) (show ca + 1 ≤ 1 ∧ sl + y0.toNatClampNeg ≤ 8 from g1.2.2).1 (show ca + 1 ≤ 1 ∧ sl + y0.toNatClampNeg ≤ 8 from g1.2.2).2 ?_
  cases hf
  exact r_vret X hw dX2_init_40
set_option maxHeartbeats 4000000 in
theorem w_X2_init_34 {p : Program} {l : Launch} {e : Env} {s : State} {m : MethodId} {args : Array Value} {below : List Frame} {meth : Method} {c : Code} {D : va_G} {B : Nat} {cy : Nat → ClassId} {A : Nat → Prop} {ad av : Nat → Nat} {Z : HS} (X : hCX p s m args meth c RX2 cX2_init 3 none D cy A ad av) (hnm : meth.name = "<init>") (hA : ∀ c, 65 ≤ c → A (B + c)) (h99 : cy 99 = ad 9)  (y0 : Nat) (ca : Nat) (sl : Nat) (S : HS) (H : Heap) (locs : List Loc) (ls : Array Slot) (hf : fn_X2_init_34 y0 ca sl S = some Z) (hw : hWd D B cy A true hC S s.heap H locs) (hl : lv_has ls 3 []) (hb : ca ≤ 1 ∧ sl ≤ 8) : W p l e ({ frames := 1, cells := 1, slots := 8, locals := 20 } : Room) s m args below meth c H locs ca sl (MQ below (hQo D B cy A true hC Z none) args s 1 8 A) (F0 m 34 ls [.ref (B + y0)]) := by
  unfold fn_X2_init_34 at hf
  refine lv_iconst (v := 0) X.1 X.2.1 dX2_init_34 (by decide) ?_
  exact w_X2_init_35 X hnm hA h99  _ _ _ _ _ _ _ _ hf hw (lv_sub hl [] rfl) hb
theorem hd_X2_init : yX2_init.cls ≠ "java/lang/invoke/MethodHandle" ∧ yX2_init.cls ≠ "java/lang/invoke/VarHandle" ∧ (parseMethodDescriptor yX2_init.desc).map (fun d => d.parameters.length) = some 2 := by decide +kernel
set_option maxHeartbeats 4000000 in
theorem c_X2_init (l : Launch) (D : va_G) (B : Nat) (cy : Nat → ClassId) (A : Nat → Prop) (ad av : Nat → Nat) (hA : ∀ c, 65 ≤ c → A (B + c)) (h99 : cy 99 = ad 9) (x0 : Nat) (x1 : Int32) (x2 : Int32) {S Z : HS} (hfr : hFr S) (hG : hC S) (hf : fn_X2_init x0 x1 x2 S = some Z) : hMet l yX2_init cX2_init 3 none ({ frames := 1, cells := 1, slots := 8, locals := 20 } : Room) D B cy A ad av true hC [.ref (B + x0), .int x1, .int x2] S Z none 1 8 := by
  refine h_entry (by decide) hfr hG ?_
  intro p e s m below meth c args X hnm hw
  have hl := lv_entry ([.ref (B + x0), .int x1, .int x2]) (n := 3) (Nat.le_of_ble_eq_true rfl)
  rw [lg_entry_eq]
  generalize (lg_sl ([.ref (B + x0), .int x1, .int x2]) ++ List.replicate (3 - (lg_sl ([.ref (B + x0), .int x1, .int x2])).length) Slot.unset).toArray = ls at hl ⊢
  have hl : lv_has ls 3 [(0, .ref (B + x0)), (1, .int x1), (2, .int x2)] := hl
  unfold fn_X2_init at hf
  refine lv_aload_n X.1 X.2.1 dX2_init_0 rfl (lv_at hl 0 rfl) ?_
  refine r_objInit X tw_286 hl.1 (by decide) (Nat.le_of_ble_eq_true rfl) dX2_init_1 ?_
  refine lv_aload_n X.1 X.2.1 dX2_init_4 rfl (lv_at hl 0 rfl) ?_
  refine lv_iconst (v := (-1)) X.1 X.2.1 dX2_init_5 (by decide) ?_
  obtain ⟨g1, hf⟩ := gd_ok hf
  obtain ⟨S2, eS2, hf⟩ := bn_ok hf
  replace eS2 := Option.some.inj eS2
  refine r_putI X hw (κ := 3) rfl inlX2 tyX2 tyX2_ok nmX2 5 (by decide) rfl (by decide) tw_287 (Or.inl rfl) g1 rfl rfl hw.2.2.2.2.2 dX2_init_6 (fun H locs hw => ?_)
  rw [eS2] at hw
  refine lv_aload_n X.1 X.2.1 dX2_init_9 rfl (lv_at hl 0 rfl) ?_
  refine lv_iload_n X.1 X.2.1 dX2_init_10 rfl (lv_at hl 1 rfl) ?_
  obtain ⟨g3, hf⟩ := gd_ok hf
  obtain ⟨S4, eS4, hf⟩ := bn_ok hf
  replace eS4 := Option.some.inj eS4
  refine r_putI X hw (κ := 3) rfl inlX2 tyX2 tyX2_ok nmX2 0 (by decide) rfl (by decide) tw_288 (Or.inr ⟨rfl, hnm, rfl⟩) g3 rfl rfl hw.2.2.2.2.2 dX2_init_11 (fun H locs hw => ?_)
  rw [eS4] at hw
  refine lv_aload_n X.1 X.2.1 dX2_init_14 rfl (lv_at hl 0 rfl) ?_
  refine lv_iload_n X.1 X.2.1 dX2_init_15 rfl (lv_at hl 2 rfl) ?_
  obtain ⟨g5, hf⟩ := gd_ok hf
  obtain ⟨g6, hf⟩ := gd_ok hf
  obtain ⟨S7, eS7, hf⟩ := bn_ok hf
  replace eS7 := Option.some.inj eS7
  refine r_putI X hw (κ := 3) rfl inlX2 tyX2 tyX2_ok nmX2 1 (by decide) rfl (by decide) tw_289 (Or.inr ⟨rfl, hnm, rfl⟩) g5 (zb_n g6) (zb_f g6) hw.2.2.2.2.2 dX2_init_16 (fun H locs hw => ?_)
  rw [eS7] at hw
  refine lv_aload_n X.1 X.2.1 dX2_init_19 rfl (lv_at hl 0 rfl) ?_
  refine lv_iload_n X.1 X.2.1 dX2_init_20 rfl (lv_at hl 1 rfl) ?_
  refine lv_iconst (v := 2) X.1 X.2.1 dX2_init_21 (by decide) ?_
  refine lv_icmp_ne (tgt := 34) X.1 X.2.1 dX2_init_22 (by decide) (fun hq => ?_) (fun hq => ?_)
  · replace hf := cd_fk hq hf
    exact w_X2_init_34 X hnm hA h99  _ _ _ _ _ _ _ hf hw (lv_sub hl [] rfl) ⟨Nat.zero_le _, Nat.zero_le _⟩
  · replace hf := cd_tk hq hf
    refine lv_iload_n X.1 X.2.1 dX2_init_25 rfl (lv_at hl 2 rfl) ?_
    refine lv_if_ne (tgt := 34) X.1 X.2.1 dX2_init_26 (by decide) (fun hq => ?_) (fun hq => ?_)
    · replace hf := cd_fk hq hf
      exact w_X2_init_34 X hnm hA h99  _ _ _ _ _ _ _ hf hw (lv_sub hl [] rfl) ⟨Nat.zero_le _, Nat.zero_le _⟩
    · replace hf := cd_tk hq hf
      refine lv_bipush (v := 8) X.1 X.2.1 dX2_init_29 (by decide) ?_
      refine lv_goto (tgt := 35) X.1 X.2.1 dX2_init_31 (by decide) ?_
      exact w_X2_init_35 X hnm hA h99  _ _ _ _ _ _ _ _ hf hw (lv_sub hl [] rfl) ⟨Nat.zero_le _, Nat.zero_le _⟩
set_option maxHeartbeats 4000000 in
theorem w_X4_readEnd_35 {p : Program} {l : Launch} {e : Env} {s : State} {m : MethodId} {args : Array Value} {below : List Frame} {meth : Method} {c : Code} {D : va_G} {B : Nat} {cy : Nat → ClassId} {A : Nat → Prop} {ad av : Nat → Nat} {rv : Option Nat} {Z : HS} (X : hCX p s m args meth c RX4 cX4_readEnd 3 (some (.object "PayScales$Line")) D cy A ad av) (hA : ∀ c, 65 ≤ c → A (B + c)) (h99 : cy 99 = ad 9)  (x1 : Int32) (ca : Nat) (sl : Nat) (S : HS) (H : Heap) (locs : List Loc) (ls : Array Slot) (hf : fn_X4_readEnd_35 x1 ca sl S = some (rv, Z)) (hw : hWd D B cy A true hC S s.heap H locs) (hl : lv_has ls 3 [(0, .ref (B + 2)), (1, .int x1)]) (hb : ca ≤ 2 ∧ sl ≤ 18) : W p l e ({ frames := 6, cells := 2, slots := 18, locals := 128 } : Room) s m args below meth c H locs ca sl (MQ below (hQo D B cy A true hC Z (some (va_rf (rv.map (B + ·))))) args s 2 18 A) (F0 m 35 ls []) := by
  unfold fn_X4_readEnd_35 at hf
  refine lv_aload_n X.1 X.2.1 dX4_readEnd_35 rfl (lv_at hl 0 rfl) ?_
  obtain ⟨S1, hS1, hf⟩ := bn_ok hf
  refine r_callV (As := []) (rest := []) (st1 := []) (κ := 5) X hw (c_X4_advance l D B cy A ad av  hw.2.2.2.2.1 hw.2.2.2.2.2 hS1) ⟨rfl, rfl, Nat.le_of_ble_eq_true rfl, Nat.le_of_ble_eq_true rfl⟩ rfl (by decide) (hCk hw.2.2.2.2.2 2 (by decide) rfl) tw_194 tw_195 tw_196 tw_16 tw_197 hd_X4_advance rfl hl.1 rfl (Nat.le_of_ble_eq_true rfl) dX4_readEnd_36 hb rfl (fun H locs hw => ?_)
  obtain ⟨g2, hf⟩ := gd_ok hf
  obtain ⟨S3, eS3, hf⟩ := bn_ok hf
  replace eS3 := Option.some.inj eS3
  refine r_new (κ := 3) X hw rfl inlX2 tyX2 tyX2_ok (by decide) rfl hdef_3 tw_279 tw_280 tw_281 (hA _ hw.2.2.2.2.2.1) (hC_aN hw.2.2.2.2.2 3 0) g2.1 g2.2 dX4_readEnd_39 (fun H hw => ?_)
  rw [eS3] at hw
  refine lv_dup X.1 X.2.1 dX4_readEnd_42 rfl ?_
  refine lv_iload_n X.1 X.2.1 dX4_readEnd_43 rfl (lv_at hl 1 rfl) ?_
  refine lv_iconst (v := 1) X.1 X.2.1 dX4_readEnd_44 (by decide) ?_
  obtain ⟨g5, hf⟩ := gd_ok hf
  obtain ⟨S4, hS4, hf⟩ := bn_ok hf
  refine r_callI (As := [.int x1, .int 1]) (rest := [.ref (B + (gZ S1))]) (st1 := [.ref (B + (gZ S1))]) X hw (c_X2_init l D B cy A ad av hA h99 (gZ S1) x1 1 hw.2.2.2.2.1 hw.2.2.2.2.2 hS4) ⟨rfl, rfl, Nat.le_of_ble_eq_true rfl, Nat.le_of_ble_eq_true rfl⟩ tw_283 tw_284 tw_281 tw_285 rfl hd_X2_init rfl hl.1 rfl (Nat.le_of_ble_eq_true rfl) dX4_readEnd_45 g5 rfl (fun H locs hw => ?_)
  refine lv_astore_n (lv' := [(2, .ref (B + (gZ S1))), (0, .ref (B + 2)), (1, .int x1)]) X.1 X.2.1 dX4_readEnd_48 rfl hl (by decide) rfl (fun ls hl => ?_)
  refine lv_aload_n X.1 X.2.1 dX4_readEnd_49 rfl (lv_at hl 0 rfl) ?_
  refine lv_aload_n X.1 X.2.1 dX4_readEnd_50 rfl (lv_at hl 1 rfl) ?_
  refine lv_bipush (v := 97) X.1 X.2.1 dX4_readEnd_51 (by decide) ?_
  refine lv_bipush (v := 122) X.1 X.2.1 dX4_readEnd_53 (by decide) ?_
  obtain ⟨r7, S6, hS6, hf⟩ := bn2_ok hf
  refine r_callV (As := [.int 97, .int 122]) (rest := [.ref (B + (gZ S1))]) (st1 := [.int r7, .ref (B + (gZ S1))]) (κ := 5) X hw (c_X4_takeLetter l D B cy A ad av 97 122 hw.2.2.2.2.1 hw.2.2.2.2.2 hS6) ⟨rfl, rfl, Nat.le_of_ble_eq_true rfl, Nat.le_of_ble_eq_true rfl⟩ rfl (by decide) (hCk hw.2.2.2.2.2 2 (by decide) rfl) tw_291 tw_292 tw_293 tw_16 tw_294 hd_X4_takeLetter rfl hl.1 rfl (Nat.le_of_ble_eq_true rfl) dX4_readEnd_55 g5 rfl (fun H locs hw => ?_)
  obtain ⟨g8, hf⟩ := gd_ok hf
  obtain ⟨S9, eS9, hf⟩ := bn_ok hf
  replace eS9 := Option.some.inj eS9
  refine r_putI X hw (κ := 3) rfl inlX2 tyX2 tyX2_ok nmX2 4 (by decide) rfl (by decide) tw_282 (Or.inl rfl) g8 rfl rfl hw.2.2.2.2.2 dX4_readEnd_58 (fun H locs hw => ?_)
  rw [eS9] at hw
  refine lv_aload_n X.1 X.2.1 dX4_readEnd_61 rfl (lv_at hl 0 rfl) ?_
  refine W.widen (k := 2) (n := 18) (show ca + 1 + 1 ≤ 2 ∧ sl + 10 + 8 ≤ 18 from g5).1 (show ca + 1 + 1 ≤ 2 ∧ sl + 10 + 8 ≤ 18 from g5).2 ?_
  cases hf
  exact r_aret X (by first | exact Or.inl ⟨_, rfl⟩ | exact Or.inr ⟨_, rfl⟩) hw dX4_readEnd_62
theorem hd_X4_readEnd : yX4_readEnd.cls = RX4 ∧ yX4_readEnd.cls ≠ "java/lang/invoke/MethodHandle" ∧ yX4_readEnd.cls ≠ "java/lang/invoke/VarHandle" ∧ (parseMethodDescriptor yX4_readEnd.desc).map (fun d => d.parameters.length) = some 0 := by decide +kernel
set_option maxHeartbeats 4000000 in
theorem c_X4_readEnd (l : Launch) (D : va_G) (B : Nat) (cy : Nat → ClassId) (A : Nat → Prop) (ad av : Nat → Nat) (hA : ∀ c, 65 ≤ c → A (B + c)) (h99 : cy 99 = ad 9)  {S Z : HS} {rv : Option Nat} (hfr : hFr S) (hG : hC S) (hf : fn_X4_readEnd S = some (rv, Z)) : hMet l yX4_readEnd cX4_readEnd 3 (some (.object "PayScales$Line")) ({ frames := 6, cells := 2, slots := 18, locals := 128 } : Room) D B cy A ad av true hC [.ref (B + 2)] S Z (some (va_rf (rv.map (B + ·)))) 2 18 := by
  refine h_entry (by decide) hfr hG ?_
  intro p e s m below meth c args X hnm hw
  have hl := lv_entry ([.ref (B + 2)]) (n := 3) (Nat.le_of_ble_eq_true rfl)
  rw [lg_entry_eq]
  generalize (lg_sl ([.ref (B + 2)]) ++ List.replicate (3 - (lg_sl ([.ref (B + 2)])).length) Slot.unset).toArray = ls at hl ⊢
  have hl : lv_has ls 3 [(0, .ref (B + 2))] := hl
  unfold fn_X4_readEnd at hf
  refine lv_aload_n X.1 X.2.1 dX4_readEnd_0 rfl (lv_at hl 0 rfl) ?_
  obtain ⟨r2, S1, hS1, hf⟩ := bn2_ok hf
  refine r_callV (As := []) (rest := []) (st1 := [.int r2]) (κ := 5) X hw (c_X4_wordOfToken l D B cy A ad av  hw.2.2.2.2.1 hw.2.2.2.2.2 hS1) ⟨rfl, rfl, Nat.le_of_ble_eq_true rfl, Nat.le_of_ble_eq_true rfl⟩ rfl (by decide) (hCk hw.2.2.2.2.2 2 (by decide) rfl) tw_211 tw_212 tw_213 tw_16 tw_214 hd_X4_wordOfToken rfl hl.1 rfl (Nat.le_of_ble_eq_true rfl) dX4_readEnd_1 ⟨Nat.zero_le _, Nat.zero_le _⟩ rfl (fun H locs hw => ?_)
  refine lv_istore_n (lv' := [(1, .int r2), (0, .ref (B + 2))]) X.1 X.2.1 dX4_readEnd_4 rfl hl (by decide) rfl (fun ls hl => ?_)
  refine lv_iload_n X.1 X.2.1 dX4_readEnd_5 rfl (lv_at hl 0 rfl) ?_
  refine lv_if_eq (tgt := 35) X.1 X.2.1 dX4_readEnd_6 (by decide) (fun hq => ?_) (fun hq => ?_)
  · replace hf := cd_tk hq hf
    exact w_X4_readEnd_35 X hA h99  _ _ _ _ _ _ _ hf hw (lv_sub hl [1, 0] rfl) ⟨Nat.zero_le _, Nat.zero_le _⟩
  · replace hf := cd_fk hq hf
    refine lv_iload_n X.1 X.2.1 dX4_readEnd_9 rfl (lv_at hl 0 rfl) ?_
    refine lv_iconst (v := 1) X.1 X.2.1 dX4_readEnd_10 (by decide) ?_
    refine lv_icmp_eq (tgt := 35) X.1 X.2.1 dX4_readEnd_11 (by decide) (fun hq => ?_) (fun hq => ?_)
    · replace hf := cd_tk hq hf
      exact w_X4_readEnd_35 X hA h99  _ _ _ _ _ _ _ hf hw (lv_sub hl [1, 0] rfl) ⟨Nat.zero_le _, Nat.zero_le _⟩
    · replace hf := cd_fk hq hf
      refine lv_iload_n X.1 X.2.1 dX4_readEnd_14 rfl (lv_at hl 0 rfl) ?_
      refine lv_iconst (v := 2) X.1 X.2.1 dX4_readEnd_15 (by decide) ?_
      refine lv_icmp_eq (tgt := 35) X.1 X.2.1 dX4_readEnd_16 (by decide) (fun hq => ?_) (fun hq => ?_)
      · replace hf := cd_tk hq hf
        exact w_X4_readEnd_35 X hA h99  _ _ _ _ _ _ _ hf hw (lv_sub hl [1, 0] rfl) ⟨Nat.zero_le _, Nat.zero_le _⟩
      · replace hf := cd_fk hq hf
        refine lv_iload_n X.1 X.2.1 dX4_readEnd_19 rfl (lv_at hl 0 rfl) ?_
        refine lv_iconst (v := 5) X.1 X.2.1 dX4_readEnd_20 (by decide) ?_
        refine lv_icmp_eq (tgt := 35) X.1 X.2.1 dX4_readEnd_21 (by decide) (fun hq => ?_) (fun hq => ?_)
        · replace hf := cd_tk hq hf
          exact w_X4_readEnd_35 X hA h99  _ _ _ _ _ _ _ hf hw (lv_sub hl [1, 0] rfl) ⟨Nat.zero_le _, Nat.zero_le _⟩
        · replace hf := cd_fk hq hf
          refine lv_aload_n X.1 X.2.1 dX4_readEnd_24 rfl (lv_at hl 1 rfl) ?_
          refine lv_iconst (v := 1) X.1 X.2.1 dX4_readEnd_25 (by decide) ?_
          refine lv_aload_n X.1 X.2.1 dX4_readEnd_26 rfl (lv_at hl 1 rfl) ?_
          refine r_getI X hw (κ := 5) rfl inlX4 3 (by decide) rfl (by decide) tw_186 (hCk hw.2.2.2.2.2 2 (by decide) rfl) dX4_readEnd_27 ?_
          obtain ⟨S3, hS3, hf⟩ := bn_ok hf
          refine r_callV (As := [.int 1, .int (gI S1 2 3)]) (rest := []) (st1 := []) (κ := 5) X hw (c_X4_refuse l D B cy A ad av 1 (gI S1 2 3) hw.2.2.2.2.1 hw.2.2.2.2.2 hS3) ⟨rfl, rfl, Nat.le_of_ble_eq_true rfl, Nat.le_of_ble_eq_true rfl⟩ rfl (by decide) (hCk hw.2.2.2.2.2 2 (by decide) rfl) tw_271 tw_272 tw_273 tw_16 tw_274 hd_X4_refuse rfl hl.1 rfl (Nat.le_of_ble_eq_true rfl) dX4_readEnd_30 ⟨Nat.zero_le _, Nat.zero_le _⟩ rfl (fun H locs hw => ?_)
          refine lv_iconst (v := 0) X.1 X.2.1 dX4_readEnd_33 (by decide) ?_
          refine lv_istore_n (lv' := [(1, .int 0), (0, .ref (B + 2))]) X.1 X.2.1 dX4_readEnd_34 rfl hl (by decide) rfl (fun ls hl => ?_)
          exact w_X4_readEnd_35 X hA h99  _ _ _ _ _ _ _ hf hw (lv_sub hl [1, 0] rfl) ⟨Nat.zero_le _, Nat.zero_le _⟩
set_option maxHeartbeats 4000000 in
theorem w_X4_readBody_164 {p : Program} {l : Launch} {e : Env} {s : State} {m : MethodId} {args : Array Value} {below : List Frame} {meth : Method} {c : Code} {D : va_G} {B : Nat} {cy : Nat → ClassId} {A : Nat → Prop} {ad av : Nat → Nat} {rv : Option Nat} {Z : HS} (X : hCX p s m args meth c RX4 cX4_readBody 3 (some (.object "PayScales$Line")) D cy A ad av) (hA : ∀ c, 65 ≤ c → A (B + c)) (h99 : cy 99 = ad 9)  (x2 : Nat) (ca : Nat) (sl : Nat) (S : HS) (H : Heap) (locs : List Loc) (ls : Array Slot) (hf : fn_X4_readBody_164 x2 ca sl S = some (rv, Z)) (hw : hWd D B cy A true hC S s.heap H locs) (hl : lv_has ls 3 [(2, .ref (B + x2))]) (hb : ca ≤ 2 ∧ sl ≤ 18) : W p l e ({ frames := 6, cells := 2, slots := 18, locals := 127 } : Room) s m args below meth c H locs ca sl (MQ below (hQo D B cy A true hC Z (some (va_rf (rv.map (B + ·))))) args s 2 18 A) (F0 m 164 ls []) := by
  unfold fn_X4_readBody_164 at hf
  refine lv_aload_n X.1 X.2.1 dX4_readBody_164 rfl (lv_at hl 0 rfl) ?_
  refine W.widen (k := 2) (n := 18) (show ca ≤ 2 ∧ sl ≤ 18 from hb).1 (show ca ≤ 2 ∧ sl ≤ 18 from hb).2 ?_
  cases hf
  exact r_aret X (by first | exact Or.inl ⟨_, rfl⟩ | exact Or.inr ⟨_, rfl⟩) hw dX4_readBody_165
set_option maxHeartbeats 4000000 in
theorem w_X4_readBody_153 {p : Program} {l : Launch} {e : Env} {s : State} {m : MethodId} {args : Array Value} {below : List Frame} {meth : Method} {c : Code} {D : va_G} {B : Nat} {cy : Nat → ClassId} {A : Nat → Prop} {ad av : Nat → Nat} {rv : Option Nat} {Z : HS} (X : hCX p s m args meth c RX4 cX4_readBody 3 (some (.object "PayScales$Line")) D cy A ad av) (hA : ∀ c, 65 ≤ c → A (B + c)) (h99 : cy 99 = ad 9)  (x2 : Nat) (ca : Nat) (sl : Nat) (S : HS) (H : Heap) (locs : List Loc) (ls : Array Slot) (hf : fn_X4_readBody_153 x2 ca sl S = some (rv, Z)) (hw : hWd D B cy A true hC S s.heap H locs) (hl : lv_has ls 3 [(0, .ref (B + 2)), (2, .ref (B + x2))]) (hb : ca ≤ 2 ∧ sl ≤ 18) : W p l e ({ frames := 6, cells := 2, slots := 18, locals := 127 } : Room) s m args below meth c H locs ca sl (MQ below (hQo D B cy A true hC Z (some (va_rf (rv.map (B + ·))))) args s 2 18 A) (F0 m 153 ls []) := by
  unfold fn_X4_readBody_153 at hf
  refine lv_aload_n X.1 X.2.1 dX4_readBody_153 rfl (lv_at hl 0 rfl) ?_
  refine lv_bipush (v := 61) X.1 X.2.1 dX4_readBody_154 (by decide) ?_
  obtain ⟨S1, hS1, hf⟩ := bn_ok hf
  refine r_callV (As := [.int 61]) (rest := []) (st1 := []) (κ := 5) X hw (c_X4_takeSign l D B cy A ad av 61 hw.2.2.2.2.1 hw.2.2.2.2.2 hS1) ⟨rfl, rfl, Nat.le_of_ble_eq_true rfl, Nat.le_of_ble_eq_true rfl⟩ rfl (by decide) (hCk hw.2.2.2.2.2 2 (by decide) rfl) tw_322 tw_323 tw_324 tw_16 tw_325 hd_X4_takeSign rfl hl.1 rfl (Nat.le_of_ble_eq_true rfl) dX4_readBody_156 hb rfl (fun H locs hw => ?_)
  refine lv_aload_n X.1 X.2.1 dX4_readBody_159 rfl (lv_at hl 0 rfl) ?_
  refine lv_aload_n X.1 X.2.1 dX4_readBody_160 rfl (lv_at hl 1 rfl) ?_
  obtain ⟨S2, hS2, hf⟩ := bn_ok hf
  refine r_callV (As := [.ref (B + x2)]) (rest := []) (st1 := []) (κ := 5) X hw (c_X4_readPlusNumber l D B cy A ad av x2 hw.2.2.2.2.1 hw.2.2.2.2.2 hS2) ⟨rfl, rfl, Nat.le_of_ble_eq_true rfl, Nat.le_of_ble_eq_true rfl⟩ rfl (by decide) (hCk hw.2.2.2.2.2 2 (by decide) rfl) tw_344 tw_345 tw_346 tw_16 tw_347 hd_X4_readPlusNumber rfl hl.1 rfl (Nat.le_of_ble_eq_true rfl) dX4_readBody_161 hb rfl (fun H locs hw => ?_)
  exact w_X4_readBody_164 X hA h99  _ _ _ _ _ _ _ hf hw (lv_sub hl [1] rfl) hb
set_option maxHeartbeats 4000000 in
theorem w_X4_readBody_32 {p : Program} {l : Launch} {e : Env} {s : State} {m : MethodId} {args : Array Value} {below : List Frame} {meth : Method} {c : Code} {D : va_G} {B : Nat} {cy : Nat → ClassId} {A : Nat → Prop} {ad av : Nat → Nat} {rv : Option Nat} {Z : HS} (X : hCX p s m args meth c RX4 cX4_readBody 3 (some (.object "PayScales$Line")) D cy A ad av) (hA : ∀ c, 65 ≤ c → A (B + c)) (h99 : cy 99 = ad 9)  (x1 : Int32) (x2 : Nat) (ca : Nat) (sl : Nat) (S : HS) (H : Heap) (locs : List Loc) (ls : Array Slot) (hf : fn_X4_readBody_32 x1 x2 ca sl S = some (rv, Z)) (hw : hWd D B cy A true hC S s.heap H locs) (hl : lv_has ls 3 [(0, .ref (B + 2)), (1, .int x1), (2, .ref (B + x2))]) (hb : ca ≤ 2 ∧ sl ≤ 18) : W p l e ({ frames := 6, cells := 2, slots := 18, locals := 127 } : Room) s m args below meth c H locs ca sl (MQ below (hQo D B cy A true hC Z (some (va_rf (rv.map (B + ·))))) args s 2 18 A) (F0 m 32 ls []) := by
  unfold fn_X4_readBody_32 at hf
  refine lv_iload_n X.1 X.2.1 dX4_readBody_32 rfl (lv_at hl 1 rfl) ?_
  by_cases hq0 : x1 = 0
  · replace hf := cd_tk hq0 hf
    refine lv_tableIn (off := 35) (tgt := 68) X.1 X.2.1 dX4_readBody_33 (by rw [hq0]; decide) (by rw [hq0]; decide) (by rw [hq0]; rfl) (by decide) ?_
    refine lv_aload_n X.1 X.2.1 dX4_readBody_68 rfl (lv_at hl 0 rfl) ?_
    refine lv_aload_n X.1 X.2.1 dX4_readBody_69 rfl (lv_at hl 2 rfl) ?_
    obtain ⟨S1, hS1, hf⟩ := bn_ok hf
    refine r_callV (As := [.ref (B + x2)]) (rest := []) (st1 := []) (κ := 5) X hw (c_X4_readCondition l D B cy A ad av x2 hw.2.2.2.2.1 hw.2.2.2.2.2 hS1) ⟨rfl, rfl, Nat.le_of_ble_eq_true rfl, Nat.le_of_ble_eq_true rfl⟩ rfl (by decide) (hCk hw.2.2.2.2.2 2 (by decide) rfl) tw_300 tw_301 tw_302 tw_16 tw_303 hd_X4_readCondition rfl hl.1 rfl (Nat.le_of_ble_eq_true rfl) dX4_readBody_70 hb rfl (fun H locs hw => ?_)
    refine lv_aload_n X.1 X.2.1 dX4_readBody_73 rfl (lv_at hl 0 rfl) ?_
    refine lv_bipush (v := 61) X.1 X.2.1 dX4_readBody_74 (by decide) ?_
    obtain ⟨S2, hS2, hf⟩ := bn_ok hf
    refine r_callV (As := [.int 61]) (rest := []) (st1 := []) (κ := 5) X hw (c_X4_takeSign l D B cy A ad av 61 hw.2.2.2.2.1 hw.2.2.2.2.2 hS2) ⟨rfl, rfl, Nat.le_of_ble_eq_true rfl, Nat.le_of_ble_eq_true rfl⟩ rfl (by decide) (hCk hw.2.2.2.2.2 2 (by decide) rfl) tw_322 tw_323 tw_324 tw_16 tw_325 hd_X4_takeSign rfl hl.1 rfl (Nat.le_of_ble_eq_true rfl) dX4_readBody_76 hb rfl (fun H locs hw => ?_)
    refine lv_aload_n X.1 X.2.1 dX4_readBody_79 rfl (lv_at hl 2 rfl) ?_
    refine lv_aload_n X.1 X.2.1 dX4_readBody_80 rfl (lv_at hl 0 rfl) ?_
    obtain ⟨r4, S3, hS3, hf⟩ := bn2_ok hf
    refine r_callV (As := []) (rest := [.ref (B + x2)]) (st1 := [.int r4, .ref (B + x2)]) (κ := 5) X hw (c_X4_takeNumber l D B cy A ad av  hw.2.2.2.2.1 hw.2.2.2.2.2 hS3) ⟨rfl, rfl, Nat.le_of_ble_eq_true rfl, Nat.le_of_ble_eq_true rfl⟩ rfl (by decide) (hCk hw.2.2.2.2.2 2 (by decide) rfl) tw_311 tw_312 tw_313 tw_16 tw_314 hd_X4_takeNumber rfl hl.1 rfl (Nat.le_of_ble_eq_true rfl) dX4_readBody_81 hb rfl (fun H locs hw => ?_)
    obtain ⟨g5, hf⟩ := gd_ok hf
    obtain ⟨S6, eS6, hf⟩ := bn_ok hf
    replace eS6 := Option.some.inj eS6
    refine r_putI X hw (κ := 3) rfl inlX2 tyX2 tyX2_ok nmX2 8 (by decide) rfl (by decide) tw_299 (Or.inl rfl) g5 rfl rfl hw.2.2.2.2.2 dX4_readBody_84 (fun H locs hw => ?_)
    rw [eS6] at hw
    refine lv_goto (tgt := 164) X.1 X.2.1 dX4_readBody_87 (by decide) ?_
    exact w_X4_readBody_164 X hA h99  _ _ _ _ _ _ _ hf hw (lv_sub hl [2] rfl) hb
  · replace hf := cd_fk hq0 hf
    by_cases hq1 : x1 = 1
    · replace hf := cd_tk hq1 hf
      refine lv_tableIn (off := 57) (tgt := 90) X.1 X.2.1 dX4_readBody_33 (by rw [hq1]; decide) (by rw [hq1]; decide) (by rw [hq1]; rfl) (by decide) ?_
      refine lv_aload_n X.1 X.2.1 dX4_readBody_90 rfl (lv_at hl 0 rfl) ?_
      obtain ⟨S7, hS7, hf⟩ := bn_ok hf
      refine r_callV (As := []) (rest := []) (st1 := []) (κ := 5) X hw (c_X4_takeFrom l D B cy A ad av  hw.2.2.2.2.1 hw.2.2.2.2.2 hS7) ⟨rfl, rfl, Nat.le_of_ble_eq_true rfl, Nat.le_of_ble_eq_true rfl⟩ rfl (by decide) (hCk hw.2.2.2.2.2 2 (by decide) rfl) tw_326 tw_327 tw_328 tw_16 tw_329 hd_X4_takeFrom rfl hl.1 rfl (Nat.le_of_ble_eq_true rfl) dX4_readBody_91 hb rfl (fun H locs hw => ?_)
      refine lv_aload_n X.1 X.2.1 dX4_readBody_94 rfl (lv_at hl 2 rfl) ?_
      refine lv_aload_n X.1 X.2.1 dX4_readBody_95 rfl (lv_at hl 0 rfl) ?_
      obtain ⟨r9, S8, hS8, hf⟩ := bn2_ok hf
      refine r_callV (As := []) (rest := [.ref (B + x2)]) (st1 := [.int r9, .ref (B + x2)]) (κ := 5) X hw (c_X4_takeNumber l D B cy A ad av  hw.2.2.2.2.1 hw.2.2.2.2.2 hS8) ⟨rfl, rfl, Nat.le_of_ble_eq_true rfl, Nat.le_of_ble_eq_true rfl⟩ rfl (by decide) (hCk hw.2.2.2.2.2 2 (by decide) rfl) tw_311 tw_312 tw_313 tw_16 tw_314 hd_X4_takeNumber rfl hl.1 rfl (Nat.le_of_ble_eq_true rfl) dX4_readBody_96 hb rfl (fun H locs hw => ?_)
      obtain ⟨g10, hf⟩ := gd_ok hf
      obtain ⟨S11, eS11, hf⟩ := bn_ok hf
      replace eS11 := Option.some.inj eS11
      refine r_putI X hw (κ := 3) rfl inlX2 tyX2 tyX2_ok nmX2 8 (by decide) rfl (by decide) tw_299 (Or.inl rfl) g10 rfl rfl hw.2.2.2.2.2 dX4_readBody_99 (fun H locs hw => ?_)
      rw [eS11] at hw
      refine lv_goto (tgt := 164) X.1 X.2.1 dX4_readBody_102 (by decide) ?_
      exact w_X4_readBody_164 X hA h99  _ _ _ _ _ _ _ hf hw (lv_sub hl [2] rfl) hb
    · replace hf := cd_fk hq1 hf
      by_cases hq2 : x1 = 2
      · replace hf := cd_tk hq2 hf
        refine lv_tableIn (off := 72) (tgt := 105) X.1 X.2.1 dX4_readBody_33 (by rw [hq2]; decide) (by rw [hq2]; decide) (by rw [hq2]; rfl) (by decide) ?_
        refine lv_aload_n X.1 X.2.1 dX4_readBody_105 rfl (lv_at hl 0 rfl) ?_
        refine lv_bipush (v := 58) X.1 X.2.1 dX4_readBody_106 (by decide) ?_
        obtain ⟨S12, hS12, hf⟩ := bn_ok hf
        refine r_callV (As := [.int 58]) (rest := []) (st1 := []) (κ := 5) X hw (c_X4_takeSign l D B cy A ad av 58 hw.2.2.2.2.1 hw.2.2.2.2.2 hS12) ⟨rfl, rfl, Nat.le_of_ble_eq_true rfl, Nat.le_of_ble_eq_true rfl⟩ rfl (by decide) (hCk hw.2.2.2.2.2 2 (by decide) rfl) tw_322 tw_323 tw_324 tw_16 tw_325 hd_X4_takeSign rfl hl.1 rfl (Nat.le_of_ble_eq_true rfl) dX4_readBody_108 hb rfl (fun H locs hw => ?_)
        refine lv_aload_n X.1 X.2.1 dX4_readBody_111 rfl (lv_at hl 0 rfl) ?_
        refine lv_aload_n X.1 X.2.1 dX4_readBody_112 rfl (lv_at hl 2 rfl) ?_
        obtain ⟨S13, hS13, hf⟩ := bn_ok hf
        refine r_callV (As := [.ref (B + x2)]) (rest := []) (st1 := []) (κ := 5) X hw (c_X4_readScale l D B cy A ad av x2 hw.2.2.2.2.1 hw.2.2.2.2.2 hS13) ⟨rfl, rfl, Nat.le_of_ble_eq_true rfl, Nat.le_of_ble_eq_true rfl⟩ rfl (by decide) (hCk hw.2.2.2.2.2 2 (by decide) rfl) tw_330 tw_331 tw_332 tw_16 tw_333 hd_X4_readScale rfl hl.1 rfl (Nat.le_of_ble_eq_true rfl) dX4_readBody_113 hb rfl (fun H locs hw => ?_)
        refine lv_goto (tgt := 164) X.1 X.2.1 dX4_readBody_116 (by decide) ?_
        exact w_X4_readBody_164 X hA h99  _ _ _ _ _ _ _ hf hw (lv_sub hl [2] rfl) hb
      · replace hf := cd_fk hq2 hf
        by_cases hq3 : x1 = 3
        · replace hf := cd_tk hq3 hf
          refine lv_tableIn (off := 86) (tgt := 119) X.1 X.2.1 dX4_readBody_33 (by rw [hq3]; decide) (by rw [hq3]; decide) (by rw [hq3]; rfl) (by decide) ?_
          refine lv_aload_n X.1 X.2.1 dX4_readBody_119 rfl (lv_at hl 0 rfl) ?_
          refine lv_aload_n X.1 X.2.1 dX4_readBody_120 rfl (lv_at hl 2 rfl) ?_
          obtain ⟨S14, hS14, hf⟩ := bn_ok hf
          refine r_callV (As := [.ref (B + x2)]) (rest := []) (st1 := []) (κ := 5) X hw (c_X4_readStepDays l D B cy A ad av x2 hw.2.2.2.2.1 hw.2.2.2.2.2 hS14) ⟨rfl, rfl, Nat.le_of_ble_eq_true rfl, Nat.le_of_ble_eq_true rfl⟩ rfl (by decide) (hCk hw.2.2.2.2.2 2 (by decide) rfl) tw_340 tw_341 tw_342 tw_16 tw_343 hd_X4_readStepDays rfl hl.1 rfl (Nat.le_of_ble_eq_true rfl) dX4_readBody_121 hb rfl (fun H locs hw => ?_)
          refine lv_goto (tgt := 164) X.1 X.2.1 dX4_readBody_124 (by decide) ?_
          exact w_X4_readBody_164 X hA h99  _ _ _ _ _ _ _ hf hw (lv_sub hl [2] rfl) hb
        · replace hf := cd_fk hq3 hf
          by_cases hq4 : x1 = 4
          · replace hf := cd_tk hq4 hf
            refine lv_tableIn (off := 94) (tgt := 127) X.1 X.2.1 dX4_readBody_33 (by rw [hq4]; decide) (by rw [hq4]; decide) (by rw [hq4]; rfl) (by decide) ?_
            refine lv_aload_n X.1 X.2.1 dX4_readBody_127 rfl (lv_at hl 2 rfl) ?_
            refine lv_aload_n X.1 X.2.1 dX4_readBody_128 rfl (lv_at hl 0 rfl) ?_
            obtain ⟨r16, S15, hS15, hf⟩ := bn2_ok hf
            refine r_callV (As := []) (rest := [.ref (B + x2)]) (st1 := [.int r16, .ref (B + x2)]) (κ := 5) X hw (c_X4_takeNumber l D B cy A ad av  hw.2.2.2.2.1 hw.2.2.2.2.2 hS15) ⟨rfl, rfl, Nat.le_of_ble_eq_true rfl, Nat.le_of_ble_eq_true rfl⟩ rfl (by decide) (hCk hw.2.2.2.2.2 2 (by decide) rfl) tw_311 tw_312 tw_313 tw_16 tw_314 hd_X4_takeNumber rfl hl.1 rfl (Nat.le_of_ble_eq_true rfl) dX4_readBody_129 hb rfl (fun H locs hw => ?_)
            obtain ⟨g17, hf⟩ := gd_ok hf
            obtain ⟨S18, eS18, hf⟩ := bn_ok hf
            replace eS18 := Option.some.inj eS18
            refine r_putI X hw (κ := 3) rfl inlX2 tyX2 tyX2_ok nmX2 8 (by decide) rfl (by decide) tw_299 (Or.inl rfl) g17 rfl rfl hw.2.2.2.2.2 dX4_readBody_132 (fun H locs hw => ?_)
            rw [eS18] at hw
            refine lv_goto (tgt := 164) X.1 X.2.1 dX4_readBody_135 (by decide) ?_
            exact w_X4_readBody_164 X hA h99  _ _ _ _ _ _ _ hf hw (lv_sub hl [2] rfl) hb
          · replace hf := cd_fk hq4 hf
            have hout : x1.toInt < 0 ∨ 4 < x1.toInt := by
              have g0 := lv_neT (a := 0) hq0 rfl
              have g1 := lv_neT (a := 1) hq1 rfl
              have g2 := lv_neT (a := 2) hq2 rfl
              have g3 := lv_neT (a := 3) hq3 rfl
              have g4 := lv_neT (a := 4) hq4 rfl
              omega
            refine lv_tableOut (tgt := 138) X.1 X.2.1 dX4_readBody_33 hout (by decide) ?_
            refine lv_aload_n X.1 X.2.1 dX4_readBody_138 rfl (lv_at hl 0 rfl) ?_
            refine r_getI X hw (κ := 5) rfl inlX4 5 (by decide) rfl (by decide) tw_185 (hCk hw.2.2.2.2.2 2 (by decide) rfl) dX4_readBody_139 ?_
            refine lv_sipush (v := 257) X.1 X.2.1 dX4_readBody_142 (by decide) ?_
            refine lv_icmp_ne (tgt := 153) X.1 X.2.1 dX4_readBody_145 (by decide) (fun hq => ?_) (fun hq => ?_)
            · replace hf := cd_fk hq hf
              exact w_X4_readBody_153 X hA h99  _ _ _ _ _ _ _ hf hw (lv_sub hl [0, 2] rfl) hb
            · replace hf := cd_tk hq hf
              refine lv_aload_n X.1 X.2.1 dX4_readBody_148 rfl (lv_at hl 0 rfl) ?_
              refine lv_aload_n X.1 X.2.1 dX4_readBody_149 rfl (lv_at hl 2 rfl) ?_
              obtain ⟨S19, hS19, hf⟩ := bn_ok hf
              refine r_callV (As := [.ref (B + x2)]) (rest := []) (st1 := []) (κ := 5) X hw (c_X4_readCondition l D B cy A ad av x2 hw.2.2.2.2.1 hw.2.2.2.2.2 hS19) ⟨rfl, rfl, Nat.le_of_ble_eq_true rfl, Nat.le_of_ble_eq_true rfl⟩ rfl (by decide) (hCk hw.2.2.2.2.2 2 (by decide) rfl) tw_300 tw_301 tw_302 tw_16 tw_303 hd_X4_readCondition rfl hl.1 rfl (Nat.le_of_ble_eq_true rfl) dX4_readBody_150 hb rfl (fun H locs hw => ?_)
              exact w_X4_readBody_153 X hA h99  _ _ _ _ _ _ _ hf hw (lv_sub hl [0, 2] rfl) hb
theorem hd_X4_readBody : yX4_readBody.cls = RX4 ∧ yX4_readBody.cls ≠ "java/lang/invoke/MethodHandle" ∧ yX4_readBody.cls ≠ "java/lang/invoke/VarHandle" ∧ (parseMethodDescriptor yX4_readBody.desc).map (fun d => d.parameters.length) = some 1 := by decide +kernel
set_option maxHeartbeats 4000000 in
theorem c_X4_readBody (l : Launch) (D : va_G) (B : Nat) (cy : Nat → ClassId) (A : Nat → Prop) (ad av : Nat → Nat) (hA : ∀ c, 65 ≤ c → A (B + c)) (h99 : cy 99 = ad 9) (x1 : Int32) {S Z : HS} {rv : Option Nat} (hfr : hFr S) (hG : hC S) (hf : fn_X4_readBody x1 S = some (rv, Z)) : hMet l yX4_readBody cX4_readBody 3 (some (.object "PayScales$Line")) ({ frames := 6, cells := 2, slots := 18, locals := 127 } : Room) D B cy A ad av true hC [.ref (B + 2), .int x1] S Z (some (va_rf (rv.map (B + ·)))) 2 18 := by
  refine h_entry (by decide) hfr hG ?_
  intro p e s m below meth c args X hnm hw
  have hl := lv_entry ([.ref (B + 2), .int x1]) (n := 3) (Nat.le_of_ble_eq_true rfl)
  rw [lg_entry_eq]
  generalize (lg_sl ([.ref (B + 2), .int x1]) ++ List.replicate (3 - (lg_sl ([.ref (B + 2), .int x1])).length) Slot.unset).toArray = ls at hl ⊢
  have hl : lv_has ls 3 [(0, .ref (B + 2)), (1, .int x1)] := hl
  unfold fn_X4_readBody at hf
  obtain ⟨S1, eS1, hf⟩ := bn_ok hf
  replace eS1 := Option.some.inj eS1
  refine r_new (κ := 3) X hw rfl inlX2 tyX2 tyX2_ok (by decide) rfl hdef_3 tw_279 tw_280 tw_281 (hA _ hw.2.2.2.2.2.1) (hC_aN hw.2.2.2.2.2 3 0) (show 0 + 1 ≤ 2 ∧ 0 + 10 ≤ 18 from ⟨Nat.le_of_ble_eq_true rfl, Nat.le_of_ble_eq_true rfl⟩).1 (show 0 + 1 ≤ 2 ∧ 0 + 10 ≤ 18 from ⟨Nat.le_of_ble_eq_true rfl, Nat.le_of_ble_eq_true rfl⟩).2 dX4_readBody_0 (fun H hw => ?_)
  rw [eS1] at hw
  refine lv_dup X.1 X.2.1 dX4_readBody_3 rfl ?_
  refine lv_iload_n X.1 X.2.1 dX4_readBody_4 rfl (lv_at hl 1 rfl) ?_
  refine lv_iconst (v := 0) X.1 X.2.1 dX4_readBody_5 (by decide) ?_
  obtain ⟨S2, hS2, hf⟩ := bn_ok hf
  refine r_callI (As := [.int x1, .int 0]) (rest := [.ref (B + (gZ S))]) (st1 := [.ref (B + (gZ S))]) X hw (c_X2_init l D B cy A ad av hA h99 (gZ S) x1 0 hw.2.2.2.2.1 hw.2.2.2.2.2 hS2) ⟨rfl, rfl, Nat.le_of_ble_eq_true rfl, Nat.le_of_ble_eq_true rfl⟩ tw_283 tw_284 tw_281 tw_285 rfl hd_X2_init rfl hl.1 rfl (Nat.le_of_ble_eq_true rfl) dX4_readBody_6 ⟨Nat.le_of_ble_eq_true rfl, Nat.le_of_ble_eq_true rfl⟩ rfl (fun H locs hw => ?_)
  refine lv_astore_n (lv' := [(2, .ref (B + (gZ S))), (0, .ref (B + 2)), (1, .int x1)]) X.1 X.2.1 dX4_readBody_9 rfl hl (by decide) rfl (fun ls hl => ?_)
  refine lv_iload_n X.1 X.2.1 dX4_readBody_10 rfl (lv_at hl 2 rfl) ?_
  refine lv_iconst (v := 3) X.1 X.2.1 dX4_readBody_11 (by decide) ?_
  refine lv_icmp_eq (tgt := 32) X.1 X.2.1 dX4_readBody_12 (by decide) (fun hq => ?_) (fun hq => ?_)
  · replace hf := cd_tk hq hf
    exact w_X4_readBody_32 X hA h99  _ _ _ _ _ _ _ _ hf hw (lv_sub hl [1, 2, 0] rfl) ⟨Nat.le_of_ble_eq_true rfl, Nat.le_of_ble_eq_true rfl⟩
  · replace hf := cd_fk hq hf
    refine lv_iload_n X.1 X.2.1 dX4_readBody_15 rfl (lv_at hl 2 rfl) ?_
    refine lv_iconst (v := 4) X.1 X.2.1 dX4_readBody_16 (by decide) ?_
    refine lv_icmp_eq (tgt := 32) X.1 X.2.1 dX4_readBody_17 (by decide) (fun hq => ?_) (fun hq => ?_)
    · replace hf := cd_tk hq hf
      exact w_X4_readBody_32 X hA h99  _ _ _ _ _ _ _ _ hf hw (lv_sub hl [1, 2, 0] rfl) ⟨Nat.le_of_ble_eq_true rfl, Nat.le_of_ble_eq_true rfl⟩
    · replace hf := cd_fk hq hf
      refine lv_aload_n X.1 X.2.1 dX4_readBody_20 rfl (lv_at hl 0 rfl) ?_
      refine lv_aload_n X.1 X.2.1 dX4_readBody_21 rfl (lv_at hl 1 rfl) ?_
      refine lv_bipush (v := 97) X.1 X.2.1 dX4_readBody_22 (by decide) ?_
      refine lv_bipush (v := 122) X.1 X.2.1 dX4_readBody_24 (by decide) ?_
      obtain ⟨r4, S3, hS3, hf⟩ := bn2_ok hf
      refine r_callV (As := [.int 97, .int 122]) (rest := [.ref (B + (gZ S))]) (st1 := [.int r4, .ref (B + (gZ S))]) (κ := 5) X hw (c_X4_takeLetter l D B cy A ad av 97 122 hw.2.2.2.2.1 hw.2.2.2.2.2 hS3) ⟨rfl, rfl, Nat.le_of_ble_eq_true rfl, Nat.le_of_ble_eq_true rfl⟩ rfl (by decide) (hCk hw.2.2.2.2.2 2 (by decide) rfl) tw_291 tw_292 tw_293 tw_16 tw_294 hd_X4_takeLetter rfl hl.1 rfl (Nat.le_of_ble_eq_true rfl) dX4_readBody_26 ⟨Nat.le_of_ble_eq_true rfl, Nat.le_of_ble_eq_true rfl⟩ rfl (fun H locs hw => ?_)
      obtain ⟨g5, hf⟩ := gd_ok hf
      obtain ⟨S6, eS6, hf⟩ := bn_ok hf
      replace eS6 := Option.some.inj eS6
      refine r_putI X hw (κ := 3) rfl inlX2 tyX2 tyX2_ok nmX2 4 (by decide) rfl (by decide) tw_282 (Or.inl rfl) g5 rfl rfl hw.2.2.2.2.2 dX4_readBody_29 (fun H locs hw => ?_)
      rw [eS6] at hw
      exact w_X4_readBody_32 X hA h99  _ _ _ _ _ _ _ _ hf hw (lv_sub hl [1, 2, 0] rfl) ⟨Nat.le_of_ble_eq_true rfl, Nat.le_of_ble_eq_true rfl⟩
set_option maxHeartbeats 4000000 in
theorem w_X4_read_112 {p : Program} {l : Launch} {e : Env} {s : State} {m : MethodId} {args : Array Value} {below : List Frame} {meth : Method} {c : Code} {D : va_G} {B : Nat} {cy : Nat → ClassId} {A : Nat → Prop} {ad av : Nat → Nat} {rv : Option Nat} {Z : HS} (X : hCX p s m args meth c RX4 cX4_read 7 (some (.object "java/util/ArrayList")) D cy A ad av) (hA : ∀ c, 65 ≤ c → A (B + c)) (h99 : cy 99 = ad 9)  (x2 : Nat) (ca : Nat) (sl : Nat) (S : HS) (H : Heap) (locs : List Loc) (ls : Array Slot) (hf : fn_X4_read_112 x2 ca sl S = some (rv, Z)) (hw : hWd D B cy A true hC S s.heap H locs) (hl : lv_has ls 7 [(2, .ref (B + x2))]) (hb : ca ≤ 130 ∧ sl ≤ 4100) : W p l e ({ frames := 7, cells := 130, slots := 4100, locals := 161 } : Room) s m args below meth c H locs ca sl (MQ below (hQo D B cy A true hC Z (some (va_rf (rv.map (B + ·))))) args s 130 4100 A) (F0 m 112 ls []) := by
  unfold fn_X4_read_112 at hf
  refine lv_aload_n X.1 X.2.1 dX4_read_112 rfl (lv_at hl 0 rfl) ?_
  refine W.widen (k := 130) (n := 4100) (show ca ≤ 130 ∧ sl ≤ 4100 from hb).1 (show ca ≤ 130 ∧ sl ≤ 4100 from hb).2 ?_
  cases hf
  exact r_aret X (by first | exact Or.inl ⟨_, rfl⟩ | exact Or.inr ⟨_, rfl⟩) hw dX4_read_113
set_option maxHeartbeats 4000000 in
theorem w_X4_read_106 {p : Program} {l : Launch} {e : Env} {s : State} {m : MethodId} {args : Array Value} {below : List Frame} {meth : Method} {c : Code} {D : va_G} {B : Nat} {cy : Nat → ClassId} {A : Nat → Prop} {ad av : Nat → Nat} {rv : Option Nat} {Z : HS} (X : hCX p s m args meth c RX4 cX4_read 7 (some (.object "java/util/ArrayList")) D cy A ad av) (hA : ∀ c, 65 ≤ c → A (B + c)) (h99 : cy 99 = ad 9) (k15 : Nat → Int32 → Nat → Nat → HS → Option (Option Nat × HS)) (hk15 : ∀ (x2 : Nat) (x3 : Int32) (ca : Nat) (sl : Nat) (S : HS) (H : Heap) (locs : List Loc) (ls : Array Slot), k15 x2 x3 ca sl S = some (rv, Z) → hWd D B cy A true hC S s.heap H locs → lv_has ls 7 [(0, .ref (B + 2)), (2, .ref (B + x2)), (3, .int x3)] → (ca ≤ 130 ∧ sl ≤ 4100) → W p l e ({ frames := 7, cells := 130, slots := 4100, locals := 161 } : Room) s m args below meth c H locs ca sl (MQ below (hQo D B cy A true hC Z (some (va_rf (rv.map (B + ·))))) args s 130 4100 A) (F0 m 15 ls [])) (x2 : Nat) (x3 : Int32) (ca : Nat) (sl : Nat) (S : HS) (H : Heap) (locs : List Loc) (ls : Array Slot) (hf : fn_X4_read_106 k15 x2 x3 ca sl S = some (rv, Z)) (hw : hWd D B cy A true hC S s.heap H locs) (hl : lv_has ls 7 [(0, .ref (B + 2)), (2, .ref (B + x2)), (3, .int x3)]) (hb : ca ≤ 130 ∧ sl ≤ 4100) : W p l e ({ frames := 7, cells := 130, slots := 4100, locals := 161 } : Room) s m args below meth c H locs ca sl (MQ below (hQo D B cy A true hC Z (some (va_rf (rv.map (B + ·))))) args s 130 4100 A) (F0 m 106 ls []) := by
  unfold fn_X4_read_106 at hf
  obtain ⟨v1, ev1, hf⟩ := bn_ok hf
  replace ev1 := Option.some.inj ev1
  refine lv_iinc (v := v1) (lv' := [(3, .int v1), (0, .ref (B + 2)), (2, .ref (B + x2))]) X.1 X.2.1 dX4_read_106 hl (k := 2) rfl ev1 (by decide) rfl (fun ls hl => ?_)
  refine lv_goto (tgt := 15) X.1 X.2.1 dX4_read_109 (by decide) ?_
  exact hk15 _ _ _ _ _ _ _ _ hf hw (lv_sub hl [1, 2, 0] rfl) hb
set_option maxHeartbeats 4000000 in
theorem w_X4_read_80 {p : Program} {l : Launch} {e : Env} {s : State} {m : MethodId} {args : Array Value} {below : List Frame} {meth : Method} {c : Code} {D : va_G} {B : Nat} {cy : Nat → ClassId} {A : Nat → Prop} {ad av : Nat → Nat} {rv : Option Nat} {Z : HS} (X : hCX p s m args meth c RX4 cX4_read 7 (some (.object "java/util/ArrayList")) D cy A ad av) (hA : ∀ c, 65 ≤ c → A (B + c)) (h99 : cy 99 = ad 9) (k15 : Nat → Int32 → Nat → Nat → HS → Option (Option Nat × HS)) (hk15 : ∀ (x2 : Nat) (x3 : Int32) (ca : Nat) (sl : Nat) (S : HS) (H : Heap) (locs : List Loc) (ls : Array Slot), k15 x2 x3 ca sl S = some (rv, Z) → hWd D B cy A true hC S s.heap H locs → lv_has ls 7 [(0, .ref (B + 2)), (2, .ref (B + x2)), (3, .int x3)] → (ca ≤ 130 ∧ sl ≤ 4100) → W p l e ({ frames := 7, cells := 130, slots := 4100, locals := 161 } : Room) s m args below meth c H locs ca sl (MQ below (hQo D B cy A true hC Z (some (va_rf (rv.map (B + ·))))) args s 130 4100 A) (F0 m 15 ls [])) (x2 : Nat) (x3 : Int32) (x4 : Int32) (y0 : Option Nat) (ca : Nat) (sl : Nat) (S : HS) (H : Heap) (locs : List Loc) (ls : Array Slot) (hf : fn_X4_read_80 k15 x2 x3 x4 y0 ca sl S = some (rv, Z)) (hw : hWd D B cy A true hC S s.heap H locs) (hl : lv_has ls 7 [(0, .ref (B + 2)), (2, .ref (B + x2)), (3, .int x3), (4, .int x4)]) (hb : ca ≤ 130 ∧ sl ≤ 4100) : W p l e ({ frames := 7, cells := 130, slots := 4100, locals := 161 } : Room) s m args below meth c H locs ca sl (MQ below (hQo D B cy A true hC Z (some (va_rf (rv.map (B + ·))))) args s 130 4100 A) (F0 m 80 ls [va_rf (Option.map (B + ·) y0)]) := by
  unfold fn_X4_read_80 at hf
  refine r_astoreO (lv' := [(6, va_rf (Option.map (B + ·) y0)), (0, .ref (B + 2)), (2, .ref (B + x2)), (3, .int x3), (4, .int x4)]) X.1 X.2.1 dX4_read_80 hl (by decide) rfl (fun ls hl => ?_)
  refine lv_aload_n X.1 X.2.1 dX4_read_82 rfl (lv_at hl 1 rfl) ?_
  refine r_aloadO X.1 X.2.1 dX4_read_83 (lv_at hl 0 rfl) ?_
  obtain ⟨c1, ec1, hf⟩ := bn_ok hf
  rw [ec1]
  obtain ⟨g2, hf⟩ := gd_ok hf
  obtain ⟨r4, S3, hS3, hf⟩ := bn2_ok hf
  refine r_callV (As := []) (rest := [.ref (B + 2)]) (st1 := [.int r4, .ref (B + 2)]) (κ := 3) X hw (c_X2_key l D B cy A ad av c1 hw.2.2.2.2.1 hw.2.2.2.2.2 hS3) ⟨rfl, rfl, Nat.le_of_ble_eq_true rfl, Nat.le_of_ble_eq_true rfl⟩ rfl (by decide) g2 tw_349 tw_350 tw_351 tw_281 tw_352 hd_X2_key rfl hl.1 rfl (Nat.le_of_ble_eq_true rfl) dX4_read_85 hb rfl (fun H locs hw => ?_)
  refine lv_iload X.1 X.2.1 dX4_read_88 (lv_at hl 4 rfl) ?_
  obtain ⟨S5, hS5, hf⟩ := bn_ok hf
  refine r_callV (As := [.int r4, .int x4]) (rest := []) (st1 := []) (κ := 5) X hw (c_X4_checkKey l D B cy A ad av r4 x4 hw.2.2.2.2.1 hw.2.2.2.2.2 hS5) ⟨rfl, rfl, Nat.le_of_ble_eq_true rfl, Nat.le_of_ble_eq_true rfl⟩ rfl (by decide) (hCk hw.2.2.2.2.2 2 (by decide) rfl) tw_354 tw_355 tw_356 tw_16 tw_357 hd_X4_checkKey rfl hl.1 rfl (Nat.le_of_ble_eq_true rfl) dX4_read_90 hb rfl (fun H locs hw => ?_)
  refine lv_aload_n X.1 X.2.1 dX4_read_93 rfl (lv_at hl 1 rfl) ?_
  refine lv_bipush (v := 59) X.1 X.2.1 dX4_read_94 (by decide) ?_
  obtain ⟨S6, hS6, hf⟩ := bn_ok hf
  refine r_callV (As := [.int 59]) (rest := []) (st1 := []) (κ := 5) X hw (c_X4_takeSign l D B cy A ad av 59 hw.2.2.2.2.1 hw.2.2.2.2.2 hS6) ⟨rfl, rfl, Nat.le_of_ble_eq_true rfl, Nat.le_of_ble_eq_true rfl⟩ rfl (by decide) (hCk hw.2.2.2.2.2 2 (by decide) rfl) tw_322 tw_323 tw_324 tw_16 tw_325 hd_X4_takeSign rfl hl.1 rfl (Nat.le_of_ble_eq_true rfl) dX4_read_96 hb rfl (fun H locs hw => ?_)
  refine lv_aload_n X.1 X.2.1 dX4_read_99 rfl (lv_at hl 2 rfl) ?_
  refine r_aloadO X.1 X.2.1 dX4_read_100 (lv_at hl 0 rfl) ?_
  obtain ⟨c7, ec7, hf⟩ := bn_ok hf
  rw [ec7]
  obtain ⟨g8, hf⟩ := gd_ok hf
  obtain ⟨g10, hf⟩ := gd_ok hf
  obtain ⟨S9, hS9, hf⟩ := bn_ok hf
  refine r_callV (As := [.ref (B + c7)]) (rest := []) (st1 := [.int 1]) (κ := 0) X hw (c_Jl_add l D B cy A ad av hA h99 x2 c7 80 hw.2.2.2.2.1 hw.2.2.2.2.2 hS9) ⟨rfl, rfl, Nat.le_of_ble_eq_true rfl, Nat.le_of_ble_eq_true rfl⟩ rfl (by decide) g8 tw_358 tw_359 tw_360 tw_20 tw_361 hd_Jl_add rfl hl.1 rfl (Nat.le_of_ble_eq_true rfl) dX4_read_102 g10 rfl (fun H locs hw => ?_)
  refine lv_pop X.1 X.2.1 dX4_read_105 rfl ?_
  exact w_X4_read_106 X hA h99 k15 hk15 _ _ _ _ _ _ _ _ hf hw (lv_sub hl [1, 2, 3] rfl) g10
set_option maxHeartbeats 4000000 in
theorem w_X4_read_15 {p : Program} {l : Launch} {e : Env} {s : State} {m : MethodId} {args : Array Value} {below : List Frame} {meth : Method} {c : Code} {D : va_G} {B : Nat} {cy : Nat → ClassId} {A : Nat → Prop} {ad av : Nat → Nat} {rv : Option Nat} {Z : HS} (X : hCX p s m args meth c RX4 cX4_read 7 (some (.object "java/util/ArrayList")) D cy A ad av) (hA : ∀ c, 65 ≤ c → A (B + c)) (h99 : cy 99 = ad 9)  : ∀ (n : Nat) (x2 : Nat) (x3 : Int32) (ca : Nat) (sl : Nat) (S : HS) (H : Heap) (locs : List Loc) (ls : Array Slot), fn_X4_read_15 n x2 x3 ca sl S = some (rv, Z) → hWd D B cy A true hC S s.heap H locs → lv_has ls 7 [(0, .ref (B + 2)), (2, .ref (B + x2)), (3, .int x3)] → (ca ≤ 130 ∧ sl ≤ 4100) → W p l e ({ frames := 7, cells := 130, slots := 4100, locals := 161 } : Room) s m args below meth c H locs ca sl (MQ below (hQo D B cy A true hC Z (some (va_rf (rv.map (B + ·))))) args s 130 4100 A) (F0 m 15 ls []) := by
  intro n
  induction n with
  | zero =>
    intro x2 x3 ca sl S H locs ls hf
    cases hf
  | succ n ih =>
    intro x2 x3 ca sl S H locs ls hf hw hl hb
    rw [fn_X4_read_15] at hf
    refine lv_iload_n X.1 X.2.1 dX4_read_15 rfl (lv_at hl 2 rfl) ?_
    refine lv_bipush (v := 40) X.1 X.2.1 dX4_read_16 (by decide) ?_
    refine lv_icmp_gt (tgt := 112) X.1 X.2.1 dX4_read_18 (by decide) (fun hq => ?_) (fun hq => ?_)
    · replace hf := cd_tk hq hf
      exact w_X4_read_112 X hA h99  _ _ _ _ _ _ _ hf hw (lv_sub hl [1] rfl) hb
    · replace hf := cd_fk hq hf
      refine lv_aload_n X.1 X.2.1 dX4_read_21 rfl (lv_at hl 0 rfl) ?_
      refine r_getI X hw (κ := 5) rfl inlX4 6 (by decide) rfl (by decide) tw_184 (hCk hw.2.2.2.2.2 2 (by decide) rfl) dX4_read_22 ?_
      refine lv_if_ne (tgt := 112) X.1 X.2.1 dX4_read_25 (by decide) (fun hq => ?_) (fun hq => ?_)
      · replace hf := cd_fk hq hf
        exact w_X4_read_112 X hA h99  _ _ _ _ _ _ _ hf hw (lv_sub hl [1] rfl) hb
      · replace hf := cd_tk hq hf
        refine lv_aload_n X.1 X.2.1 dX4_read_28 rfl (lv_at hl 0 rfl) ?_
        refine r_getI X hw (κ := 5) rfl inlX4 5 (by decide) rfl (by decide) tw_185 (hCk hw.2.2.2.2.2 2 (by decide) rfl) dX4_read_29 ?_
        refine lv_sipush (v := 259) X.1 X.2.1 dX4_read_32 (by decide) ?_
        refine lv_icmp_eq (tgt := 112) X.1 X.2.1 dX4_read_35 (by decide) (fun hq => ?_) (fun hq => ?_)
        · replace hf := cd_tk hq hf
          exact w_X4_read_112 X hA h99  _ _ _ _ _ _ _ hf hw (lv_sub hl [1] rfl) hb
        · replace hf := cd_fk hq hf
          refine lv_aload_n X.1 X.2.1 dX4_read_38 rfl (lv_at hl 0 rfl) ?_
          refine r_getI X hw (κ := 5) rfl inlX4 3 (by decide) rfl (by decide) tw_186 (hCk hw.2.2.2.2.2 2 (by decide) rfl) dX4_read_39 ?_
          obtain ⟨v1, ev1, hf⟩ := bn_ok hf
          replace ev1 := Option.some.inj ev1
          refine lv_ren ev1 ?_
          refine lv_istore (lv' := [(4, .int v1), (0, .ref (B + 2)), (2, .ref (B + x2)), (3, .int x3)]) X.1 X.2.1 dX4_read_42 hl (by decide) rfl (fun ls hl => ?_)
          refine lv_aload_n X.1 X.2.1 dX4_read_44 rfl (lv_at hl 1 rfl) ?_
          refine lv_aload_n X.1 X.2.1 dX4_read_45 rfl (lv_at hl 2 rfl) ?_
          obtain ⟨g2, hf⟩ := gd_ok hf
          obtain ⟨r4, S3, hS3, hf⟩ := bn2_ok hf
          refine r_callV (As := []) (rest := [.ref (B + 2)]) (st1 := [.int r4, .ref (B + 2)]) (κ := 0) X hw (c_Jl_size l D B cy A ad av _ _ x2 hw.2.2.2.2.1 hw.2.2.2.2.2 hS3) ⟨rfl, rfl, Nat.le_of_ble_eq_true rfl, Nat.le_of_ble_eq_true rfl⟩ rfl (by decide) g2 tw_206 tw_175 tw_176 tw_20 tw_177 hd_Jl_size rfl hl.1 rfl (Nat.le_of_ble_eq_true rfl) dX4_read_46 hb rfl (fun H locs hw => ?_)
          obtain ⟨r6, S5, hS5, hf⟩ := bn2_ok hf
          refine r_callV (As := [.int r4]) (rest := []) (st1 := [.int r6]) (κ := 5) X hw (c_X4_takeFirstWord l D B cy A ad av r4 hw.2.2.2.2.1 hw.2.2.2.2.2 hS5) ⟨rfl, rfl, Nat.le_of_ble_eq_true rfl, Nat.le_of_ble_eq_true rfl⟩ rfl (by decide) (hCk hw.2.2.2.2.2 2 (by decide) rfl) tw_207 tw_208 tw_209 tw_16 tw_210 hd_X4_takeFirstWord rfl hl.1 rfl (Nat.le_of_ble_eq_true rfl) dX4_read_49 hb rfl (fun H locs hw => ?_)
          refine lv_istore (lv' := [(5, .int r6), (4, .int v1), (0, .ref (B + 2)), (2, .ref (B + x2)), (3, .int x3)]) X.1 X.2.1 dX4_read_52 hl (by decide) rfl (fun ls hl => ?_)
          refine lv_iload X.1 X.2.1 dX4_read_54 (lv_at hl 0 rfl) ?_
          refine lv_iconst (v := (-1)) X.1 X.2.1 dX4_read_56 (by decide) ?_
          refine lv_icmp_eq (tgt := 106) X.1 X.2.1 dX4_read_57 (by decide) (fun hq => ?_) (fun hq => ?_)
          · replace hf := cd_tk hq hf
            exact w_X4_read_106 X hA h99 (fn_X4_read_15 n) ih _ _ _ _ _ _ _ _ hf hw (lv_sub hl [2, 3, 4] rfl) hb
          · replace hf := cd_fk hq hf
            refine lv_iload X.1 X.2.1 dX4_read_60 (lv_at hl 0 rfl) ?_
            refine lv_bipush (v := 6) X.1 X.2.1 dX4_read_62 (by decide) ?_
            refine lv_icmp_ne (tgt := 74) X.1 X.2.1 dX4_read_64 (by decide) (fun hq => ?_) (fun hq => ?_)
            · replace hf := cd_fk hq hf
              refine lv_aload_n X.1 X.2.1 dX4_read_74 rfl (lv_at hl 2 rfl) ?_
              refine lv_iload X.1 X.2.1 dX4_read_75 (lv_at hl 0 rfl) ?_
              obtain ⟨g8, hf⟩ := gd_ok hf
              obtain ⟨r9, S7, hS7, hf⟩ := bn2_ok hf
              refine r_callV (As := [.int r6]) (rest := []) (st1 := [va_rf (Option.map (B + ·) r9)]) (κ := 5) X hw (c_X4_readBody l D B cy A ad av hA h99 r6 hw.2.2.2.2.1 hw.2.2.2.2.2 hS7) ⟨rfl, rfl, Nat.le_of_ble_eq_true rfl, Nat.le_of_ble_eq_true rfl⟩ rfl (by decide) (hCk hw.2.2.2.2.2 2 (by decide) rfl) tw_295 tw_296 tw_297 tw_16 tw_298 hd_X4_readBody rfl hl.1 rfl (Nat.le_of_ble_eq_true rfl) dX4_read_77 g8 rfl (fun H locs hw => ?_)
              exact w_X4_read_80 X hA h99 (fn_X4_read_15 n) ih _ _ _ _ _ _ _ _ _ _ hf hw (lv_sub hl [2, 3, 4, 1] rfl) g8
            · replace hf := cd_tk hq hf
              refine lv_aload_n X.1 X.2.1 dX4_read_67 rfl (lv_at hl 2 rfl) ?_
              obtain ⟨g11, hf⟩ := gd_ok hf
              obtain ⟨r12, S10, hS10, hf⟩ := bn2_ok hf
              refine r_callV (As := []) (rest := []) (st1 := [va_rf (Option.map (B + ·) r12)]) (κ := 5) X hw (c_X4_readEnd l D B cy A ad av hA h99  hw.2.2.2.2.1 hw.2.2.2.2.2 hS10) ⟨rfl, rfl, Nat.le_of_ble_eq_true rfl, Nat.le_of_ble_eq_true rfl⟩ rfl (by decide) (hCk hw.2.2.2.2.2 2 (by decide) rfl) tw_275 tw_276 tw_277 tw_16 tw_278 hd_X4_readEnd rfl hl.1 rfl (Nat.le_of_ble_eq_true rfl) dX4_read_68 g11 rfl (fun H locs hw => ?_)
              refine lv_goto (tgt := 80) X.1 X.2.1 dX4_read_71 (by decide) ?_
              exact w_X4_read_80 X hA h99 (fn_X4_read_15 n) ih _ _ _ _ _ _ _ _ _ _ hf hw (lv_sub hl [2, 3, 4, 1] rfl) g11
theorem hd_X4_read : yX4_read.cls = RX4 ∧ yX4_read.cls ≠ "java/lang/invoke/MethodHandle" ∧ yX4_read.cls ≠ "java/lang/invoke/VarHandle" ∧ (parseMethodDescriptor yX4_read.desc).map (fun d => d.parameters.length) = some 1 := by decide +kernel
set_option maxHeartbeats 4000000 in
theorem c_X4_read (l : Launch) (D : va_G) (B : Nat) (cy : Nat → ClassId) (A : Nat → Prop) (ad av : Nat → Nat) (hA : ∀ c, 65 ≤ c → A (B + c)) (h99 : cy 99 = ad 9) (x1 : Int32) {S Z : HS} {rv : Option Nat} (hfr : hFr S) (hG : hC S) (hf : fn_X4_read x1 S = some (rv, Z)) : hMet l yX4_read cX4_read 7 (some (.object "java/util/ArrayList")) ({ frames := 7, cells := 130, slots := 4100, locals := 161 } : Room) D B cy A ad av true hC [.ref (B + 2), .int x1] S Z (some (va_rf (rv.map (B + ·)))) 130 4100 := by
  refine h_entry (by decide) hfr hG ?_
  intro p e s m below meth c args X hnm hw
  have hl := lv_entry ([.ref (B + 2), .int x1]) (n := 7) (Nat.le_of_ble_eq_true rfl)
  rw [lg_entry_eq]
  generalize (lg_sl ([.ref (B + 2), .int x1]) ++ List.replicate (7 - (lg_sl ([.ref (B + 2), .int x1])).length) Slot.unset).toArray = ls at hl ⊢
  have hl : lv_has ls 7 [(0, .ref (B + 2)), (1, .int x1)] := hl
  unfold fn_X4_read at hf
  obtain ⟨S1, eS1, hf⟩ := bn_ok hf
  replace eS1 := Option.some.inj eS1
  refine r_new (κ := 11) X hw rfl inlJx4a65c tyJx4a65c tyJx4a65c_ok (by decide) rfl hdef_11 tw_183 tw_19 tw_20 (hA _ hw.2.2.2.2.2.1) (hC_aN hw.2.2.2.2.2 11 0) (show 0 + 1 ≤ 130 ∧ 0 + 3 ≤ 4100 from ⟨Nat.le_of_ble_eq_true rfl, Nat.le_of_ble_eq_true rfl⟩).1 (show 0 + 1 ≤ 130 ∧ 0 + 3 ≤ 4100 from ⟨Nat.le_of_ble_eq_true rfl, Nat.le_of_ble_eq_true rfl⟩).2 dX4_read_0 (fun H hw => ?_)
  rw [eS1] at hw
  refine lv_dup X.1 X.2.1 dX4_read_3 rfl ?_
  obtain ⟨S2, hS2, hf⟩ := bn_ok hf
  refine r_callI (As := []) (rest := [.ref (B + (gZ S))]) (st1 := [.ref (B + (gZ S))]) X hw (c_Jl_init l D B cy A ad av true hC h99 (gZ S) hw.2.2.2.2.1 hw.2.2.2.2.2 hw.2.2.2.2.2 (hC_sK (S := sI _ _ 0 0) hw.2.2.2.2.2 (hC_11 hw.2.2.2.2.2 (gd_ok hS2).1.1)) hS2) ⟨rfl, rfl, Nat.le_of_ble_eq_true rfl, Nat.le_of_ble_eq_true rfl⟩ tw_187 tw_52 tw_20 tw_53 rfl hd_Jl_init rfl hl.1 rfl (Nat.le_of_ble_eq_true rfl) dX4_read_4 ⟨Nat.le_of_ble_eq_true rfl, Nat.le_of_ble_eq_true rfl⟩ rfl (fun H locs hw => ?_)
  refine lv_astore_n (lv' := [(2, .ref (B + (gZ S))), (0, .ref (B + 2)), (1, .int x1)]) X.1 X.2.1 dX4_read_7 rfl hl (by decide) rfl (fun ls hl => ?_)
  refine lv_aload_n X.1 X.2.1 dX4_read_8 rfl (lv_at hl 1 rfl) ?_
  refine lv_iload_n X.1 X.2.1 dX4_read_9 rfl (lv_at hl 2 rfl) ?_
  obtain ⟨S3, hS3, hf⟩ := bn_ok hf
  refine r_callV (As := [.int x1]) (rest := []) (st1 := []) (κ := 5) X hw (c_X4_begin l D B cy A ad av x1 hw.2.2.2.2.1 hw.2.2.2.2.2 hS3) ⟨rfl, rfl, Nat.le_of_ble_eq_true rfl, Nat.le_of_ble_eq_true rfl⟩ rfl (by decide) (hCk hw.2.2.2.2.2 2 (by decide) rfl) tw_188 tw_189 tw_190 tw_16 tw_191 hd_X4_begin rfl hl.1 rfl (Nat.le_of_ble_eq_true rfl) dX4_read_10 ⟨Nat.le_of_ble_eq_true rfl, Nat.le_of_ble_eq_true rfl⟩ rfl (fun H locs hw => ?_)
  refine lv_iconst (v := 0) X.1 X.2.1 dX4_read_13 (by decide) ?_
  refine lv_istore_n (lv' := [(3, .int 0), (2, .ref (B + (gZ S))), (0, .ref (B + 2)), (1, .int x1)]) X.1 X.2.1 dX4_read_14 rfl hl (by decide) rfl (fun ls hl => ?_)
  exact w_X4_read_15 X hA h99  _ _ _ _ _ _ _ _ _ hf hw (lv_sub hl [2, 1, 0] rfl) ⟨Nat.le_of_ble_eq_true rfl, Nat.le_of_ble_eq_true rfl⟩
set_option maxHeartbeats 4000000 in
theorem w_X8_agree_31 {p : Program} {l : Launch} {e : Env} {s : State} {m : MethodId} {args : Array Value} {below : List Frame} {meth : Method} {c : Code} {D : va_G} {B : Nat} {cy : Nat → ClassId} {A : Nat → Prop} {ad av : Nat → Nat} {rv : Int32} {Z : HS} (X : hCX p s m args meth c RX8 cX8_agree 5 (some .int) D cy A ad av) (hA : ∀ c, 65 ≤ c → A (B + c)) (h99 : cy 99 = ad 9)  (ca : Nat) (sl : Nat) (S : HS) (H : Heap) (locs : List Loc) (ls : Array Slot) (hf : fn_X8_agree_31 ca sl S = some (rv, Z)) (hw : hWd D B cy A true hC S s.heap H locs) (hl : lv_has ls 5 []) (hb : ca ≤ 140 ∧ sl ≤ 4300) : W p l e ({ frames := 8, cells := 140, slots := 4300, locals := 187 } : Room) s m args below meth c H locs ca sl (MQ below (hQo D B cy A true hC Z (some (.int rv))) args s 140 4300 A) (F0 m 31 ls []) := by
  unfold fn_X8_agree_31 at hf
  refine lv_bipush (v := (-2)) X.1 X.2.1 dX8_agree_31 (by decide) ?_
  refine W.widen (k := 140) (n := 4300) (show ca ≤ 140 ∧ sl ≤ 4300 from hb).1 (show ca ≤ 140 ∧ sl ≤ 4300 from hb).2 ?_
  cases hf
  exact r_iret X hw dX8_agree_33
theorem hd_X8_agree : yX8_agree.cls = RX8 ∧ yX8_agree.cls ≠ "java/lang/invoke/MethodHandle" ∧ yX8_agree.cls ≠ "java/lang/invoke/VarHandle" ∧ (parseMethodDescriptor yX8_agree.desc).map (fun d => d.parameters.length) = some 2 := by decide +kernel
set_option maxHeartbeats 4000000 in
theorem c_X8_agree (l : Launch) (D : va_G) (B : Nat) (cy : Nat → ClassId) (A : Nat → Prop) (ad av : Nat → Nat) (hA : ∀ c, 65 ≤ c → A (B + c)) (h99 : cy 99 = ad 9) (x1 : Int32) (x2 : Int32) {S Z : HS} {rv : Int32} (hfr : hFr S) (hG : hC S) (hf : fn_X8_agree x1 x2 S = some (rv, Z)) : hMet l yX8_agree cX8_agree 5 (some .int) ({ frames := 8, cells := 140, slots := 4300, locals := 187 } : Room) D B cy A ad av true hC [.ref (B + 0), .int x1, .int x2] S Z (some (.int rv)) 140 4300 := by
  refine h_entry (by decide) hfr hG ?_
  intro p e s m below meth c args X hnm hw
  have hl := lv_entry ([.ref (B + 0), .int x1, .int x2]) (n := 5) (Nat.le_of_ble_eq_true rfl)
  rw [lg_entry_eq]
  generalize (lg_sl ([.ref (B + 0), .int x1, .int x2]) ++ List.replicate (5 - (lg_sl ([.ref (B + 0), .int x1, .int x2])).length) Slot.unset).toArray = ls at hl ⊢
  have hl : lv_has ls 5 [(0, .ref (B + 0)), (1, .int x1), (2, .int x2)] := hl
  unfold fn_X8_agree at hf
  refine lv_iload_n X.1 X.2.1 dX8_agree_0 rfl (lv_at hl 1 rfl) ?_
  refine lv_if_lt (tgt := 31) X.1 X.2.1 dX8_agree_1 (by decide) (fun hq => ?_) (fun hq => ?_)
  · replace hf := cd_tk hq hf
    exact w_X8_agree_31 X hA h99  _ _ _ _ _ _ hf hw (lv_sub hl [] rfl) ⟨Nat.zero_le _, Nat.zero_le _⟩
  · replace hf := cd_fk hq hf
    refine lv_iload_n X.1 X.2.1 dX8_agree_4 rfl (lv_at hl 1 rfl) ?_
    refine lv_aload_n X.1 X.2.1 dX8_agree_5 rfl (lv_at hl 0 rfl) ?_
    refine r_getI X hw (κ := 9) rfl inlX8 14 (by decide) rfl (by decide) tw_149 (hCk hw.2.2.2.2.2 0 (by decide) rfl) dX8_agree_6 ?_
    refine lv_icmp_gt (tgt := 31) X.1 X.2.1 dX8_agree_9 (by decide) (fun hq => ?_) (fun hq => ?_)
    · replace hf := cd_tk hq hf
      exact w_X8_agree_31 X hA h99  _ _ _ _ _ _ hf hw (lv_sub hl [] rfl) ⟨Nat.zero_le _, Nat.zero_le _⟩
    · replace hf := cd_fk hq hf
      refine lv_iload_n X.1 X.2.1 dX8_agree_12 rfl (lv_at hl 2 rfl) ?_
      obtain ⟨r2, S1, hS1, hf⟩ := bn2_ok hf
      refine r_callS (As := [.int x2]) (rest := []) (st1 := [.int r2]) X hw (c_X8_isDay l D B cy A ad av x2 hw.2.2.2.2.1 hw.2.2.2.2.2 hS1) ⟨rfl, rfl, Nat.le_of_ble_eq_true rfl, Nat.le_of_ble_eq_true rfl⟩ tw_171 tw_172 tw_2 tw_173 hd_X8_isDay rfl hl.1 rfl (Nat.le_of_ble_eq_true rfl) dX8_agree_13 ⟨Nat.zero_le _, Nat.zero_le _⟩ rfl (fun H locs hw => ?_)
      refine lv_if_eq (tgt := 31) X.1 X.2.1 dX8_agree_16 (by decide) (fun hq => ?_) (fun hq => ?_)
      · replace hf := cd_tk hq hf
        exact w_X8_agree_31 X hA h99  _ _ _ _ _ _ hf hw (lv_sub hl [] rfl) ⟨Nat.zero_le _, Nat.zero_le _⟩
      · replace hf := cd_fk hq hf
        refine lv_aload_n X.1 X.2.1 dX8_agree_19 rfl (lv_at hl 0 rfl) ?_
        refine r_getF X hw (κ := 9) rfl inlX8 2 (by decide) rfl (by decide) tw_21 (hCk hw.2.2.2.2.2 0 (by decide) rfl) (hCr (c := 0) (k := 2) (d := 4) hw.2.2.2.2.2 (by decide)) dX8_agree_20 ?_
        obtain ⟨r4, S3, hS3, hf⟩ := bn2_ok hf
        refine r_callV (As := []) (rest := []) (st1 := [.int r4]) (κ := 0) X hw (c_Jl_size l D B cy A ad av _ _ 4 hw.2.2.2.2.1 hw.2.2.2.2.2 hS3) ⟨rfl, rfl, Nat.le_of_ble_eq_true rfl, Nat.le_of_ble_eq_true rfl⟩ rfl (by decide) (hCk hw.2.2.2.2.2 4 (by decide) rfl) tw_174 tw_175 tw_176 tw_20 tw_177 hd_Jl_size rfl hl.1 rfl (Nat.le_of_ble_eq_true rfl) dX8_agree_23 ⟨Nat.zero_le _, Nat.zero_le _⟩ rfl (fun H locs hw => ?_)
        refine lv_bipush (v := 12) X.1 X.2.1 dX8_agree_26 (by decide) ?_
        refine lv_icmp_lt (tgt := 34) X.1 X.2.1 dX8_agree_28 (by decide) (fun hq => ?_) (fun hq => ?_)
        · replace hf := cd_tk hq hf
          refine lv_aload_n X.1 X.2.1 dX8_agree_34 rfl (lv_at hl 0 rfl) ?_
          refine lv_iconst (v := 0) X.1 X.2.1 dX8_agree_35 (by decide) ?_
          obtain ⟨S5, eS5, hf⟩ := bn_ok hf
          replace eS5 := Option.some.inj eS5
          refine r_putI X hw (κ := 9) rfl inlX8 tyX8 tyX8_ok nmX8 14 (by decide) rfl (by decide) tw_149 (Or.inl rfl) (hCk hw.2.2.2.2.2 0 (by decide) rfl) rfl rfl hw.2.2.2.2.2 dX8_agree_36 (fun H locs hw => ?_)
          rw [eS5] at hw
          refine lv_aload_n X.1 X.2.1 dX8_agree_39 rfl (lv_at hl 0 rfl) ?_
          refine r_getF X hw (κ := 9) rfl inlX8 1 (by decide) rfl (by decide) tw_17 (hCk hw.2.2.2.2.2 0 (by decide) rfl) (hCr (c := 0) (k := 1) (d := 2) hw.2.2.2.2.2 (by decide)) dX8_agree_40 ?_
          refine lv_iload_n X.1 X.2.1 dX8_agree_43 rfl (lv_at hl 1 rfl) ?_
          obtain ⟨r7, S6, hS6, hf⟩ := bn2_ok hf
          refine r_callV (As := [.int x1]) (rest := []) (st1 := [va_rf (Option.map (B + ·) r7)]) (κ := 5) X hw (c_X4_read l D B cy A ad av hA h99 x1 hw.2.2.2.2.1 hw.2.2.2.2.2 hS6) ⟨rfl, rfl, Nat.le_of_ble_eq_true rfl, Nat.le_of_ble_eq_true rfl⟩ rfl (by decide) (hCk hw.2.2.2.2.2 2 (by decide) rfl) tw_179 tw_180 tw_181 tw_16 tw_182 hd_X4_read rfl hl.1 rfl (Nat.le_of_ble_eq_true rfl) dX8_agree_44 ⟨Nat.le_of_ble_eq_true rfl, Nat.le_of_ble_eq_true rfl⟩ rfl (fun H locs hw => ?_)
          refine r_astore_nO (lv' := [(3, va_rf (Option.map (B + ·) r7)), (0, .ref (B + 0)), (1, .int x1), (2, .int x2)]) X.1 X.2.1 dX8_agree_47 rfl hl (by decide) rfl (fun ls hl => ?_)
          refine lv_aload_n X.1 X.2.1 dX8_agree_48 rfl (lv_at hl 1 rfl) ?_
          refine r_getF X hw (κ := 9) rfl inlX8 1 (by decide) rfl (by decide) tw_17 (hCk hw.2.2.2.2.2 0 (by decide) rfl) (hCr (c := 0) (k := 1) (d := 2) hw.2.2.2.2.2 (by decide)) dX8_agree_49 ?_
          refine r_getI X hw (κ := 5) rfl inlX4 6 (by decide) rfl (by decide) tw_164 (hCk hw.2.2.2.2.2 2 (by decide) rfl) dX8_agree_52 ?_
          refine lv_if_eq (tgt := 60) X.1 X.2.1 dX8_agree_55 (by decide) (fun hq => ?_) (fun hq => ?_)
          · replace hf := cd_tk hq hf
            obtain ⟨S8, eS8, hf⟩ := bn_ok hf
            replace eS8 := Option.some.inj eS8
            refine r_new (κ := 1) X hw rfl inlX0 tyX0 tyX0_ok (by decide) rfl hdef_1 tw_165 tw_166 tw_167 (hA _ hw.2.2.2.2.2.1) (hC_aN hw.2.2.2.2.2 1 0) (show 130 + 1 ≤ 140 ∧ 4100 + 4 ≤ 4300 from ⟨Nat.le_of_ble_eq_true rfl, Nat.le_of_ble_eq_true rfl⟩).1 (show 130 + 1 ≤ 140 ∧ 4100 + 4 ≤ 4300 from ⟨Nat.le_of_ble_eq_true rfl, Nat.le_of_ble_eq_true rfl⟩).2 dX8_agree_60 (fun H hw => ?_)
            rw [eS8] at hw
            refine lv_dup X.1 X.2.1 dX8_agree_63 rfl ?_
            refine lv_aload_n X.1 X.2.1 dX8_agree_64 rfl (lv_at hl 1 rfl) ?_
            refine r_getF X hw (κ := 9) rfl inlX8 2 (by decide) rfl (by decide) tw_21 (hCk hw.2.2.2.2.2 0 (by decide) rfl) (hCr (c := 0) (k := 2) (d := 4) hw.2.2.2.2.2 (by decide)) dX8_agree_65 ?_
            obtain ⟨r10, S9, hS9, hf⟩ := bn2_ok hf
            refine r_callV (As := []) (rest := [.ref (B + (gZ S6)), .ref (B + (gZ S6))]) (st1 := [.int r10, .ref (B + (gZ S6)), .ref (B + (gZ S6))]) (κ := 0) X hw (c_Jl_size l D B cy A ad av _ _ 4 hw.2.2.2.2.1 hw.2.2.2.2.2 hS9) ⟨rfl, rfl, Nat.le_of_ble_eq_true rfl, Nat.le_of_ble_eq_true rfl⟩ rfl (by decide) (hCk hw.2.2.2.2.2 4 (by decide) rfl) tw_174 tw_175 tw_176 tw_20 tw_177 hd_Jl_size rfl hl.1 rfl (Nat.le_of_ble_eq_true rfl) dX8_agree_68 ⟨Nat.le_of_ble_eq_true rfl, Nat.le_of_ble_eq_true rfl⟩ rfl (fun H locs hw => ?_)
            refine lv_iload_n X.1 X.2.1 dX8_agree_71 rfl (lv_at hl 3 rfl) ?_
            refine lv_aload_n X.1 X.2.1 dX8_agree_72 rfl (lv_at hl 1 rfl) ?_
            refine r_getI X hw (κ := 9) rfl inlX8 13 (by decide) rfl (by decide) tw_168 (hCk hw.2.2.2.2.2 0 (by decide) rfl) dX8_agree_73 ?_
            refine r_aload_nO X.1 X.2.1 dX8_agree_76 rfl (lv_at hl 0 rfl) ?_
            obtain ⟨c11, ec11, hf⟩ := bn_ok hf
            rw [ec11]
            obtain ⟨S12, hS12, hf⟩ := bn_ok hf
            refine r_callI (As := [.int r10, .int x2, .int (gI S9 0 13), .ref (B + c11)]) (rest := [.ref (B + (gZ S6))]) (st1 := [.ref (B + (gZ S6))]) X hw (c_X0_init l D B cy A ad av (gZ S6) r10 x2 (gI S9 0 13) c11 hw.2.2.2.2.1 hw.2.2.2.2.2 hS12) ⟨rfl, rfl, Nat.le_of_ble_eq_true rfl, Nat.le_of_ble_eq_true rfl⟩ tw_405 tw_406 tw_167 tw_407 rfl hd_X0_init rfl hl.1 rfl (Nat.le_of_ble_eq_true rfl) dX8_agree_77 ⟨Nat.le_of_ble_eq_true rfl, Nat.le_of_ble_eq_true rfl⟩ rfl (fun H locs hw => ?_)
            refine lv_astore (lv' := [(4, .ref (B + (gZ S6))), (3, va_rf (Option.map (B + ·) r7)), (0, .ref (B + 0)), (1, .int x1), (2, .int x2)]) X.1 X.2.1 dX8_agree_80 hl (by decide) (by cases r7 <;> rfl) (fun ls hl => ?_)
            refine lv_aload_n X.1 X.2.1 dX8_agree_82 rfl (lv_at hl 2 rfl) ?_
            refine r_getF X hw (κ := 9) rfl inlX8 2 (by decide) rfl (by decide) tw_21 (hCk hw.2.2.2.2.2 0 (by decide) rfl) (hCr (c := 0) (k := 2) (d := 4) hw.2.2.2.2.2 (by decide)) dX8_agree_83 ?_
            refine lv_aload_n X.1 X.2.1 dX8_agree_86 rfl (lv_at hl 2 rfl) ?_
            refine lv_iload_n X.1 X.2.1 dX8_agree_87 rfl (lv_at hl 4 rfl) ?_
            obtain ⟨r14, S13, hS13, hf⟩ := bn2_ok hf
            refine r_callV (As := [.int x2]) (rest := [.ref (B + 4)]) (st1 := [.int r14, .ref (B + 4)]) (κ := 9) X hw (c_X8_placeOfAgreement l D B cy A ad av x2 hw.2.2.2.2.1 hw.2.2.2.2.2 hS13) ⟨rfl, rfl, Nat.le_of_ble_eq_true rfl, Nat.le_of_ble_eq_true rfl⟩ rfl (by decide) (hCk hw.2.2.2.2.2 0 (by decide) rfl) tw_413 tw_414 tw_415 tw_2 tw_416 hd_X8_placeOfAgreement rfl hl.1 rfl (Nat.le_of_ble_eq_true rfl) dX8_agree_88 ⟨Nat.le_of_ble_eq_true rfl, Nat.le_of_ble_eq_true rfl⟩ rfl (fun H locs hw => ?_)
            refine lv_aload X.1 X.2.1 dX8_agree_91 (lv_at hl 0 rfl) ?_
            obtain ⟨S15, hS15, hf⟩ := bn_ok hf
            refine r_callV (As := [.int r14, .ref (B + (gZ S6))]) (rest := []) (st1 := []) (κ := 0) X hw (c_Jl_addAt l D B cy A ad av hA h99 4 r14 (gZ S6) 80 hw.2.2.2.2.1 hw.2.2.2.2.2 hS15) ⟨rfl, rfl, Nat.le_of_ble_eq_true rfl, Nat.le_of_ble_eq_true rfl⟩ rfl (by decide) (hCk hw.2.2.2.2.2 4 (by decide) rfl) tw_432 tw_433 tw_434 tw_20 tw_435 hd_Jl_addAt rfl hl.1 rfl (Nat.le_of_ble_eq_true rfl) dX8_agree_93 ⟨Nat.le_of_ble_eq_true rfl, Nat.le_of_ble_eq_true rfl⟩ rfl (fun H locs hw => ?_)
            refine lv_aload_n X.1 X.2.1 dX8_agree_96 rfl (lv_at hl 2 rfl) ?_
            refine lv_dup X.1 X.2.1 dX8_agree_97 rfl ?_
            refine r_getI X hw (κ := 9) rfl inlX8 15 (by decide) rfl (by decide) tw_169 (hCk hw.2.2.2.2.2 0 (by decide) rfl) dX8_agree_98 ?_
            refine r_aload_nO X.1 X.2.1 dX8_agree_101 rfl (lv_at hl 1 rfl) ?_
            obtain ⟨c16, ec16, hf⟩ := bn_ok hf
            rw [ec16]
            obtain ⟨g17, hf⟩ := gd_ok hf
            obtain ⟨r19, S18, hS18, hf⟩ := bn2_ok hf
            refine r_callV (As := []) (rest := [.int (gI S15 0 15), .ref (B + 0)]) (st1 := [.int r19, .int (gI S15 0 15), .ref (B + 0)]) (κ := 0) X hw (c_Jl_size l D B cy A ad av _ _ c16 hw.2.2.2.2.1 hw.2.2.2.2.2 hS18) ⟨rfl, rfl, Nat.le_of_ble_eq_true rfl, Nat.le_of_ble_eq_true rfl⟩ rfl (by decide) g17 tw_174 tw_175 tw_176 tw_20 tw_177 hd_Jl_size rfl hl.1 rfl (Nat.le_of_ble_eq_true rfl) dX8_agree_102 ⟨Nat.le_of_ble_eq_true rfl, Nat.le_of_ble_eq_true rfl⟩ rfl (fun H locs hw => ?_)
            refine lv_iadd X.1 X.2.1 dX8_agree_105 ?_
            obtain ⟨S20, eS20, hf⟩ := bn_ok hf
            replace eS20 := Option.some.inj eS20
            refine r_putI X hw (κ := 9) rfl inlX8 tyX8 tyX8_ok nmX8 15 (by decide) rfl (by decide) tw_169 (Or.inl rfl) (hCk hw.2.2.2.2.2 0 (by decide) rfl) rfl rfl hw.2.2.2.2.2 dX8_agree_106 (fun H locs hw => ?_)
            rw [eS20] at hw
            refine lv_aload X.1 X.2.1 dX8_agree_109 (lv_at hl 0 rfl) ?_
            obtain ⟨g21, hf⟩ := gd_ok hf
            refine r_getI X hw (κ := 1) rfl inlX0 0 (by decide) rfl (by decide) tw_170 g21 dX8_agree_111 ?_
            refine W.widen (k := 140) (n := 4300) (show 132 ≤ 140 ∧ 4184 ≤ 4300 from ⟨Nat.le_of_ble_eq_true rfl, Nat.le_of_ble_eq_true rfl⟩).1 (show 132 ≤ 140 ∧ 4184 ≤ 4300 from ⟨Nat.le_of_ble_eq_true rfl, Nat.le_of_ble_eq_true rfl⟩).2 ?_
            cases hf
            exact r_iret X hw dX8_agree_114
          · replace hf := cd_fk hq hf
            refine lv_iconst (v := (-1)) X.1 X.2.1 dX8_agree_58 (by decide) ?_
            refine W.widen (k := 140) (n := 4300) (show 130 ≤ 140 ∧ 4100 ≤ 4300 from ⟨Nat.le_of_ble_eq_true rfl, Nat.le_of_ble_eq_true rfl⟩).1 (show 130 ≤ 140 ∧ 4100 ≤ 4300 from ⟨Nat.le_of_ble_eq_true rfl, Nat.le_of_ble_eq_true rfl⟩).2 ?_
            cases hf
            exact r_iret X hw dX8_agree_59
        · replace hf := cd_fk hq hf
          exact w_X8_agree_31 X hA h99  _ _ _ _ _ _ hf hw (lv_sub hl [] rfl) ⟨Nat.zero_le _, Nat.zero_le _⟩
set_option maxHeartbeats 4000000 in
theorem w_X8_note_37 {p : Program} {l : Launch} {e : Env} {s : State} {m : MethodId} {args : Array Value} {below : List Frame} {meth : Method} {c : Code} {D : va_G} {B : Nat} {cy : Nat → ClassId} {A : Nat → Prop} {ad av : Nat → Nat} {rv : Int32} {Z : HS} (X : hCX p s m args meth c RX8 cX8_note 5 (some .int) D cy A ad av) (hA : ∀ c, 65 ≤ c → A (B + c)) (h99 : cy 99 = ad 9)  (ca : Nat) (sl : Nat) (S : HS) (H : Heap) (locs : List Loc) (ls : Array Slot) (hf : fn_X8_note_37 ca sl S = some (rv, Z)) (hw : hWd D B cy A true hC S s.heap H locs) (hl : lv_has ls 5 []) (hb : ca ≤ 2 ∧ sl ≤ 305) : W p l e ({ frames := 6, cells := 2, slots := 305, locals := 141 } : Room) s m args below meth c H locs ca sl (MQ below (hQo D B cy A true hC Z (some (.int rv))) args s 2 305 A) (F0 m 37 ls []) := by
  unfold fn_X8_note_37 at hf
  refine lv_iconst (v := (-1)) X.1 X.2.1 dX8_note_37 (by decide) ?_
  refine W.widen (k := 2) (n := 305) (show ca ≤ 2 ∧ sl ≤ 305 from hb).1 (show ca ≤ 2 ∧ sl ≤ 305 from hb).2 ?_
  cases hf
  exact r_iret X hw dX8_note_38
theorem hd_X8_note : yX8_note.cls = RX8 ∧ yX8_note.cls ≠ "java/lang/invoke/MethodHandle" ∧ yX8_note.cls ≠ "java/lang/invoke/VarHandle" ∧ (parseMethodDescriptor yX8_note.desc).map (fun d => d.parameters.length) = some 4 := by decide +kernel
set_option maxHeartbeats 4000000 in
theorem c_X8_note (l : Launch) (D : va_G) (B : Nat) (cy : Nat → ClassId) (A : Nat → Prop) (ad av : Nat → Nat) (hA : ∀ c, 65 ≤ c → A (B + c)) (h99 : cy 99 = ad 9) (x1 : Int32) (x2 : Int32) (x3 : Int32) (x4 : Int32) {S Z : HS} {rv : Int32} (hfr : hFr S) (hG : hC S) (hf : fn_X8_note x1 x2 x3 x4 S = some (rv, Z)) : hMet l yX8_note cX8_note 5 (some .int) ({ frames := 6, cells := 2, slots := 305, locals := 141 } : Room) D B cy A ad av true hC [.ref (B + 0), .int x1, .int x2, .int x3, .int x4] S Z (some (.int rv)) 2 305 := by
  refine h_entry (by decide) hfr hG ?_
  intro p e s m below meth c args X hnm hw
  have hl := lv_entry ([.ref (B + 0), .int x1, .int x2, .int x3, .int x4]) (n := 5) (Nat.le_of_ble_eq_true rfl)
  rw [lg_entry_eq]
  generalize (lg_sl ([.ref (B + 0), .int x1, .int x2, .int x3, .int x4]) ++ List.replicate (5 - (lg_sl ([.ref (B + 0), .int x1, .int x2, .int x3, .int x4])).length) Slot.unset).toArray = ls at hl ⊢
  have hl : lv_has ls 5 [(0, .ref (B + 0)), (1, .int x1), (2, .int x2), (3, .int x3), (4, .int x4)] := hl
  unfold fn_X8_note at hf
  refine lv_aload_n X.1 X.2.1 dX8_note_0 rfl (lv_at hl 0 rfl) ?_
  refine lv_iload_n X.1 X.2.1 dX8_note_1 rfl (lv_at hl 1 rfl) ?_
  obtain ⟨r2, S1, hS1, hf⟩ := bn2_ok hf
  refine r_callV (As := [.int x1]) (rest := []) (st1 := [.int r2]) (κ := 9) X hw (c_X8_isPost l D B cy A ad av x1 hw.2.2.2.2.1 hw.2.2.2.2.2 hS1) ⟨rfl, rfl, Nat.le_of_ble_eq_true rfl, Nat.le_of_ble_eq_true rfl⟩ rfl (by decide) (hCk hw.2.2.2.2.2 0 (by decide) rfl) tw_546 tw_547 tw_548 tw_2 tw_549 hd_X8_isPost rfl hl.1 rfl (Nat.le_of_ble_eq_true rfl) dX8_note_2 ⟨Nat.zero_le _, Nat.zero_le _⟩ rfl (fun H locs hw => ?_)
  refine lv_if_eq (tgt := 37) X.1 X.2.1 dX8_note_5 (by decide) (fun hq => ?_) (fun hq => ?_)
  · replace hf := cd_tk hq hf
    exact w_X8_note_37 X hA h99  _ _ _ _ _ _ hf hw (lv_sub hl [] rfl) ⟨Nat.zero_le _, Nat.zero_le _⟩
  · replace hf := cd_fk hq hf
    refine lv_iload_n X.1 X.2.1 dX8_note_8 rfl (lv_at hl 3 rfl) ?_
    obtain ⟨r4, S3, hS3, hf⟩ := bn2_ok hf
    refine r_callS (As := [.int x3]) (rest := []) (st1 := [.int r4]) X hw (c_X8_isDay l D B cy A ad av x3 hw.2.2.2.2.1 hw.2.2.2.2.2 hS3) ⟨rfl, rfl, Nat.le_of_ble_eq_true rfl, Nat.le_of_ble_eq_true rfl⟩ tw_171 tw_172 tw_2 tw_173 hd_X8_isDay rfl hl.1 rfl (Nat.le_of_ble_eq_true rfl) dX8_note_9 ⟨Nat.zero_le _, Nat.zero_le _⟩ rfl (fun H locs hw => ?_)
    refine lv_if_eq (tgt := 37) X.1 X.2.1 dX8_note_12 (by decide) (fun hq => ?_) (fun hq => ?_)
    · replace hf := cd_tk hq hf
      exact w_X8_note_37 X hA h99  _ _ _ _ _ _ hf hw (lv_sub hl [] rfl) ⟨Nat.zero_le _, Nat.zero_le _⟩
    · replace hf := cd_fk hq hf
      refine lv_iload_n X.1 X.2.1 dX8_note_15 rfl (lv_at hl 2 rfl) ?_
      refine lv_iload X.1 X.2.1 dX8_note_16 (lv_at hl 4 rfl) ?_
      obtain ⟨r6, S5, hS5, hf⟩ := bn2_ok hf
      refine r_callS (As := [.int x2, .int x4]) (rest := []) (st1 := [.int r6]) X hw (c_X8_canBecome l D B cy A ad av x2 x4 hw.2.2.2.2.1 hw.2.2.2.2.2 hS5) ⟨rfl, rfl, Nat.le_of_ble_eq_true rfl, Nat.le_of_ble_eq_true rfl⟩ tw_550 tw_551 tw_2 tw_552 hd_X8_canBecome rfl hl.1 rfl (Nat.le_of_ble_eq_true rfl) dX8_note_18 ⟨Nat.zero_le _, Nat.zero_le _⟩ rfl (fun H locs hw => ?_)
      refine lv_if_eq (tgt := 37) X.1 X.2.1 dX8_note_21 (by decide) (fun hq => ?_) (fun hq => ?_)
      · replace hf := cd_tk hq hf
        exact w_X8_note_37 X hA h99  _ _ _ _ _ _ hf hw (lv_sub hl [] rfl) ⟨Nat.zero_le _, Nat.zero_le _⟩
      · replace hf := cd_fk hq hf
        refine lv_aload_n X.1 X.2.1 dX8_note_24 rfl (lv_at hl 0 rfl) ?_
        refine r_getF X hw (κ := 9) rfl inlX8 3 (by decide) rfl (by decide) tw_22 (hCk hw.2.2.2.2.2 0 (by decide) rfl) (hCr (c := 0) (k := 3) (d := 5) hw.2.2.2.2.2 (by decide)) dX8_note_25 ?_
        obtain ⟨r8, S7, hS7, hf⟩ := bn2_ok hf
        refine r_callV (As := []) (rest := []) (st1 := [.int r8]) (κ := 0) X hw (c_Jl_size l D B cy A ad av _ _ 5 hw.2.2.2.2.1 hw.2.2.2.2.2 hS7) ⟨rfl, rfl, Nat.le_of_ble_eq_true rfl, Nat.le_of_ble_eq_true rfl⟩ rfl (by decide) (hCk hw.2.2.2.2.2 5 (by decide) rfl) tw_174 tw_175 tw_176 tw_20 tw_177 hd_Jl_size rfl hl.1 rfl (Nat.le_of_ble_eq_true rfl) dX8_note_28 ⟨Nat.zero_le _, Nat.zero_le _⟩ rfl (fun H locs hw => ?_)
        refine lv_sipush (v := 200) X.1 X.2.1 dX8_note_31 (by decide) ?_
        refine lv_icmp_lt (tgt := 39) X.1 X.2.1 dX8_note_34 (by decide) (fun hq => ?_) (fun hq => ?_)
        · replace hf := cd_tk hq hf
          refine lv_aload_n X.1 X.2.1 dX8_note_39 rfl (lv_at hl 0 rfl) ?_
          refine r_getF X hw (κ := 9) rfl inlX8 3 (by decide) rfl (by decide) tw_22 (hCk hw.2.2.2.2.2 0 (by decide) rfl) (hCr (c := 0) (k := 3) (d := 5) hw.2.2.2.2.2 (by decide)) dX8_note_40 ?_
          refine lv_aload_n X.1 X.2.1 dX8_note_43 rfl (lv_at hl 0 rfl) ?_
          refine lv_iload_n X.1 X.2.1 dX8_note_44 rfl (lv_at hl 3 rfl) ?_
          obtain ⟨r10, S9, hS9, hf⟩ := bn2_ok hf
          refine r_callV (As := [.int x3]) (rest := [.ref (B + 5)]) (st1 := [.int r10, .ref (B + 5)]) (κ := 9) X hw (c_X8_placeOfNote l D B cy A ad av x3 hw.2.2.2.2.1 hw.2.2.2.2.2 hS9) ⟨rfl, rfl, Nat.le_of_ble_eq_true rfl, Nat.le_of_ble_eq_true rfl⟩ rfl (by decide) (hCk hw.2.2.2.2.2 0 (by decide) rfl) tw_556 tw_557 tw_558 tw_2 tw_559 hd_X8_placeOfNote rfl hl.1 rfl (Nat.le_of_ble_eq_true rfl) dX8_note_45 ⟨Nat.zero_le _, Nat.zero_le _⟩ rfl (fun H locs hw => ?_)
          obtain ⟨S11, eS11, hf⟩ := bn_ok hf
          replace eS11 := Option.some.inj eS11
          refine r_new (κ := 4) X hw rfl inlX3 tyX3 tyX3_ok (by decide) rfl hdef_4 tw_543 tw_544 tw_545 (hA _ hw.2.2.2.2.2.1) (hC_aN hw.2.2.2.2.2 4 0) (show 0 + 1 ≤ 2 ∧ 0 + 5 ≤ 305 from ⟨Nat.le_of_ble_eq_true rfl, Nat.le_of_ble_eq_true rfl⟩).1 (show 0 + 1 ≤ 2 ∧ 0 + 5 ≤ 305 from ⟨Nat.le_of_ble_eq_true rfl, Nat.le_of_ble_eq_true rfl⟩).2 dX8_note_48 (fun H hw => ?_)
          rw [eS11] at hw
          refine lv_dup X.1 X.2.1 dX8_note_51 rfl ?_
          refine lv_iload_n X.1 X.2.1 dX8_note_52 rfl (lv_at hl 1 rfl) ?_
          refine lv_iload_n X.1 X.2.1 dX8_note_53 rfl (lv_at hl 2 rfl) ?_
          refine lv_iload_n X.1 X.2.1 dX8_note_54 rfl (lv_at hl 3 rfl) ?_
          refine lv_aload_n X.1 X.2.1 dX8_note_55 rfl (lv_at hl 0 rfl) ?_
          refine r_getI X hw (κ := 9) rfl inlX8 13 (by decide) rfl (by decide) tw_168 (hCk hw.2.2.2.2.2 0 (by decide) rfl) dX8_note_56 ?_
          refine lv_iload X.1 X.2.1 dX8_note_59 (lv_at hl 4 rfl) ?_
          obtain ⟨S12, hS12, hf⟩ := bn_ok hf
          refine r_callI (As := [.int x1, .int x2, .int x3, .int (gI S11 0 13), .int x4]) (rest := [.ref (B + (gZ S9)), .int r10, .ref (B + 5)]) (st1 := [.ref (B + (gZ S9)), .int r10, .ref (B + 5)]) X hw (c_X3_init l D B cy A ad av (gZ S9) x1 x2 x3 (gI S11 0 13) x4 hw.2.2.2.2.1 hw.2.2.2.2.2 hS12) ⟨rfl, rfl, Nat.le_of_ble_eq_true rfl, Nat.le_of_ble_eq_true rfl⟩ tw_562 tw_563 tw_545 tw_564 rfl hd_X3_init rfl hl.1 rfl (Nat.le_of_ble_eq_true rfl) dX8_note_61 ⟨Nat.le_of_ble_eq_true rfl, Nat.le_of_ble_eq_true rfl⟩ rfl (fun H locs hw => ?_)
          obtain ⟨S13, hS13, hf⟩ := bn_ok hf
          refine r_callV (As := [.int r10, .ref (B + (gZ S9))]) (rest := []) (st1 := []) (κ := 0) X hw (c_Jl_addAt l D B cy A ad av hA h99 5 r10 (gZ S9) 300 hw.2.2.2.2.1 hw.2.2.2.2.2 hS13) ⟨rfl, rfl, Nat.le_of_ble_eq_true rfl, Nat.le_of_ble_eq_true rfl⟩ rfl (by decide) (hCk hw.2.2.2.2.2 5 (by decide) rfl) tw_432 tw_433 tw_434 tw_20 tw_435 hd_Jl_addAt rfl hl.1 rfl (Nat.le_of_ble_eq_true rfl) dX8_note_64 ⟨Nat.le_of_ble_eq_true rfl, Nat.le_of_ble_eq_true rfl⟩ rfl (fun H locs hw => ?_)
          refine lv_aload_n X.1 X.2.1 dX8_note_67 rfl (lv_at hl 0 rfl) ?_
          refine r_getF X hw (κ := 9) rfl inlX8 3 (by decide) rfl (by decide) tw_22 (hCk hw.2.2.2.2.2 0 (by decide) rfl) (hCr (c := 0) (k := 3) (d := 5) hw.2.2.2.2.2 (by decide)) dX8_note_68 ?_
          obtain ⟨r15, S14, hS14, hf⟩ := bn2_ok hf
          refine r_callV (As := []) (rest := []) (st1 := [.int r15]) (κ := 0) X hw (c_Jl_size l D B cy A ad av _ _ 5 hw.2.2.2.2.1 hw.2.2.2.2.2 hS14) ⟨rfl, rfl, Nat.le_of_ble_eq_true rfl, Nat.le_of_ble_eq_true rfl⟩ rfl (by decide) (hCk hw.2.2.2.2.2 5 (by decide) rfl) tw_174 tw_175 tw_176 tw_20 tw_177 hd_Jl_size rfl hl.1 rfl (Nat.le_of_ble_eq_true rfl) dX8_note_71 ⟨Nat.le_of_ble_eq_true rfl, Nat.le_of_ble_eq_true rfl⟩ rfl (fun H locs hw => ?_)
          refine W.widen (k := 2) (n := 305) (show 2 ≤ 2 ∧ 305 ≤ 305 from ⟨Nat.le_of_ble_eq_true rfl, Nat.le_of_ble_eq_true rfl⟩).1 (show 2 ≤ 2 ∧ 305 ≤ 305 from ⟨Nat.le_of_ble_eq_true rfl, Nat.le_of_ble_eq_true rfl⟩).2 ?_
          cases hf
          exact r_iret X hw dX8_note_74
        · replace hf := cd_fk hq hf
          exact w_X8_note_37 X hA h99  _ _ _ _ _ _ hf hw (lv_sub hl [] rfl) ⟨Nat.zero_le _, Nat.zero_le _⟩
