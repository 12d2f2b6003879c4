theorem hd_X4_init : yX4_init.cls ≠ "java/lang/invoke/MethodHandle" ∧ yX4_init.cls ≠ "java/lang/invoke/VarHandle" ∧ (parseMethodDescriptor yX4_init.desc).map (fun d => d.parameters.length) = some 1 := by decide +kernel
set_option maxHeartbeats 4000000 in
theorem c_X4_init (l : Launch) (D : va_G) (B : Nat) (cy : Nat → ClassId) (A : Nat → Prop) (ad av : Nat → Nat) (hA : ∀ c, c < 24 → A (B + c)) (h99 : cy 99 = ad 9) (x0 : Nat) (x1 : Nat) {S Z : HS} (hfr : hFr S) (hG : hTr S) (hf : fn_X4_init x0 x1 S = some Z) : hMet l yX4_init cX4_init 2 none ({ frames := 1, cells := 1, slots := 156, locals := 20 } : Room) D B cy A ad av true hTr [.ref (B + x0), .ref (B + x1)] S Z none 1 156 := by
  refine h_entry (by decide) hfr hG ?_
  intro p e s m below meth c args X hnm hw
  have hl := lv_entry ([.ref (B + x0), .ref (B + x1)]) (n := 2) (Nat.le_of_ble_eq_true rfl)
  rw [lg_entry_eq]
  generalize (lg_sl ([.ref (B + x0), .ref (B + x1)]) ++ List.replicate (2 - (lg_sl ([.ref (B + x0), .ref (B + x1)])).length) Slot.unset).toArray = ls at hl ⊢
  have hl : lv_has ls 2 [(0, .ref (B + x0)), (1, .ref (B + x1))] := hl
  unfold fn_X4_init at hf
  refine lv_aload_n X.1 X.2.1 dX4_init_0 rfl (lv_at hl 0 rfl) ?_
  refine r_objInit X tw_46 hl.1 (by decide) (Nat.le_of_ble_eq_true rfl) dX4_init_1 ?_
  refine lv_aload_n X.1 X.2.1 dX4_init_4 rfl (lv_at hl 0 rfl) ?_
  refine lv_sipush (v := 156) X.1 X.2.1 dX4_init_5 (by decide) ?_
  obtain ⟨g1, hf⟩ := gd_ok hf
  obtain ⟨S2, eS2, hf⟩ := bn_ok hf
  replace eS2 := Option.some.inj eS2
  refine r_newa (κ := 23) (atype := .boolean) (N := 156) X hw rfl (Or.inr (Or.inr (Or.inr ⟨rfl, rfl⟩))) tw_47 (by decide) (by decide) (by decide) (hA _ g1) trivial (show 0 + 1 ≤ 1 ∧ 0 + 156 ≤ 156 from ⟨Nat.le_of_ble_eq_true rfl, Nat.le_of_ble_eq_true rfl⟩).1 (show 0 + 1 ≤ 1 ∧ 0 + 156 ≤ 156 from ⟨Nat.le_of_ble_eq_true rfl, Nat.le_of_ble_eq_true rfl⟩).2 dX4_init_8 (fun H hw => ?_)
  rw [eS2] at hw
  obtain ⟨g3, hf⟩ := gd_ok hf
  obtain ⟨S4, eS4, hf⟩ := bn_ok hf
  replace eS4 := Option.some.inj eS4
  refine r_putR (v := (some (gZ S))) X hw (κ := 5) rfl inlX4 tyX4 tyX4_ok nmX4 1 (by decide) rfl (by decide) tw_48 (Or.inr ⟨rfl, hnm, rfl⟩) g3 (by first | exact Or.inl ⟨_, rfl⟩ | exact Or.inr ⟨_, rfl⟩) trivial dX4_init_10 (fun H locs hw => ?_)
  rw [eS4] at hw
  refine lv_aload_n X.1 X.2.1 dX4_init_13 rfl (lv_at hl 0 rfl) ?_
  refine lv_iconst (v := (-1)) X.1 X.2.1 dX4_init_14 (by decide) ?_
  obtain ⟨g5, hf⟩ := gd_ok hf
  obtain ⟨S6, eS6, hf⟩ := bn_ok hf
  replace eS6 := Option.some.inj eS6
  refine r_putI X hw (κ := 5) rfl inlX4 tyX4 tyX4_ok nmX4 7 (by decide) rfl (by decide) tw_49 (Or.inl rfl) g5 rfl rfl trivial dX4_init_15 (fun H locs hw => ?_)
  rw [eS6] at hw
  refine lv_aload_n X.1 X.2.1 dX4_init_18 rfl (lv_at hl 0 rfl) ?_
  refine lv_aload_n X.1 X.2.1 dX4_init_19 rfl (lv_at hl 1 rfl) ?_
  obtain ⟨g7, hf⟩ := gd_ok hf
  obtain ⟨S8, eS8, hf⟩ := bn_ok hf
  replace eS8 := Option.some.inj eS8
  refine r_putR (v := (some x1)) X hw (κ := 5) rfl inlX4 tyX4 tyX4_ok nmX4 0 (by decide) rfl (by decide) tw_50 (Or.inr ⟨rfl, hnm, rfl⟩) g7 (by first | exact Or.inl ⟨_, rfl⟩ | exact Or.inr ⟨_, rfl⟩) trivial dX4_init_20 (fun H locs hw => ?_)
  rw [eS8] at hw
  refine W.widen (k := 1) (n := 156) (show 1 ≤ 1 ∧ 156 ≤ 156 from ⟨Nat.le_of_ble_eq_true rfl, Nat.le_of_ble_eq_true rfl⟩).1 (show 1 ≤ 1 ∧ 156 ≤ 156 from ⟨Nat.le_of_ble_eq_true rfl, Nat.le_of_ble_eq_true rfl⟩).2 ?_
  cases hf
  exact r_vret X hw dX4_init_23
theorem hd_X6_init : yX6_init.cls ≠ "java/lang/invoke/MethodHandle" ∧ yX6_init.cls ≠ "java/lang/invoke/VarHandle" ∧ (parseMethodDescriptor yX6_init.desc).map (fun d => d.parameters.length) = some 0 := by decide +kernel
set_option maxHeartbeats 4000000 in
theorem c_X6_init (l : Launch) (D : va_G) (B : Nat) (cy : Nat → ClassId) (A : Nat → Prop) (ad av : Nat → Nat) (hA : ∀ c, c < 24 → A (B + c)) (h99 : cy 99 = ad 9) (x0 : Nat) {S Z : HS} (hfr : hFr S) (hG : hTr S) (hf : fn_X6_init x0 S = some Z) : hMet l yX6_init cX6_init 1 none ({ frames := 1, cells := 3, slots := 468, locals := 20 } : Room) D B cy A ad av true hTr [.ref (B + x0)] S Z none 3 468 := by
  refine h_entry (by decide) hfr hG ?_
  intro p e s m below meth c args X hnm hw
  have hl := lv_entry ([.ref (B + x0)]) (n := 1) (Nat.le_of_ble_eq_true rfl)
  rw [lg_entry_eq]
  generalize (lg_sl ([.ref (B + x0)]) ++ List.replicate (1 - (lg_sl ([.ref (B + x0)])).length) Slot.unset).toArray = ls at hl ⊢
  have hl : lv_has ls 1 [(0, .ref (B + x0))] := hl
  unfold fn_X6_init at hf
  refine lv_aload_n X.1 X.2.1 dX6_init_0 rfl (lv_at hl 0 rfl) ?_
  refine r_objInit X tw_68 hl.1 (by decide) (Nat.le_of_ble_eq_true rfl) dX6_init_1 ?_
  refine lv_aload_n X.1 X.2.1 dX6_init_4 rfl (lv_at hl 0 rfl) ?_
  refine lv_sipush (v := 156) X.1 X.2.1 dX6_init_5 (by decide) ?_
  obtain ⟨g1, hf⟩ := gd_ok hf
  obtain ⟨S2, eS2, hf⟩ := bn_ok hf
  replace eS2 := Option.some.inj eS2
  refine r_newq (κ := 24) (N := 156) X hw (Or.inl ⟨rfl, rfl⟩) tw_628 (by decide) (by decide) (by decide) (hA _ g1) trivial (show 0 + 1 ≤ 3 ∧ 0 + 156 ≤ 468 from ⟨Nat.le_of_ble_eq_true rfl, Nat.le_of_ble_eq_true rfl⟩).1 (show 0 + 1 ≤ 3 ∧ 0 + 156 ≤ 468 from ⟨Nat.le_of_ble_eq_true rfl, Nat.le_of_ble_eq_true rfl⟩).2 dX6_init_8 (fun H hw => ?_)
  rw [eS2] at hw
  obtain ⟨g3, hf⟩ := gd_ok hf
  obtain ⟨S4, eS4, hf⟩ := bn_ok hf
  replace eS4 := Option.some.inj eS4
  refine r_putR (v := (some (gZ S))) X hw (κ := 7) rfl inlX6 tyX6 tyX6_ok nmX6 0 (by decide) rfl (by decide) tw_70 (Or.inr ⟨rfl, hnm, rfl⟩) g3 (by first | exact Or.inl ⟨_, rfl⟩ | exact Or.inr ⟨_, rfl⟩) trivial dX6_init_11 (fun H locs hw => ?_)
  rw [eS4] at hw
  refine lv_aload_n X.1 X.2.1 dX6_init_14 rfl (lv_at hl 0 rfl) ?_
  refine lv_sipush (v := 156) X.1 X.2.1 dX6_init_15 (by decide) ?_
  obtain ⟨g5, hf⟩ := gd_ok hf
  obtain ⟨S6, eS6, hf⟩ := bn_ok hf
  replace eS6 := Option.some.inj eS6
  refine r_newa (κ := 21) (atype := .int) (N := 156) X hw rfl (Or.inr (Or.inl ⟨rfl, rfl⟩)) tw_23 (by decide) (by decide) (by decide) (hA _ g5) trivial (show 1 + 1 ≤ 3 ∧ 156 + 156 ≤ 468 from ⟨Nat.le_of_ble_eq_true rfl, Nat.le_of_ble_eq_true rfl⟩).1 (show 1 + 1 ≤ 3 ∧ 156 + 156 ≤ 468 from ⟨Nat.le_of_ble_eq_true rfl, Nat.le_of_ble_eq_true rfl⟩).2 dX6_init_18 (fun H hw => ?_)
  rw [eS6] at hw
  obtain ⟨g7, hf⟩ := gd_ok hf
  obtain ⟨S8, eS8, hf⟩ := bn_ok hf
  replace eS8 := Option.some.inj eS8
  refine r_putR (v := (some (gZ S4))) X hw (κ := 7) rfl inlX6 tyX6 tyX6_ok nmX6 1 (by decide) rfl (by decide) tw_71 (Or.inr ⟨rfl, hnm, rfl⟩) g7 (by first | exact Or.inl ⟨_, rfl⟩ | exact Or.inr ⟨_, rfl⟩) trivial dX6_init_20 (fun H locs hw => ?_)
  rw [eS8] at hw
  refine lv_aload_n X.1 X.2.1 dX6_init_23 rfl (lv_at hl 0 rfl) ?_
  refine lv_sipush (v := 156) X.1 X.2.1 dX6_init_24 (by decide) ?_
  obtain ⟨g9, hf⟩ := gd_ok hf
  obtain ⟨S10, eS10, hf⟩ := bn_ok hf
  replace eS10 := Option.some.inj eS10
  refine r_newa (κ := 21) (atype := .int) (N := 156) X hw rfl (Or.inr (Or.inl ⟨rfl, rfl⟩)) tw_23 (by decide) (by decide) (by decide) (hA _ g9) trivial (show 2 + 1 ≤ 3 ∧ 312 + 156 ≤ 468 from ⟨Nat.le_of_ble_eq_true rfl, Nat.le_of_ble_eq_true rfl⟩).1 (show 2 + 1 ≤ 3 ∧ 312 + 156 ≤ 468 from ⟨Nat.le_of_ble_eq_true rfl, Nat.le_of_ble_eq_true rfl⟩).2 dX6_init_27 (fun H hw => ?_)
  rw [eS10] at hw
  obtain ⟨g11, hf⟩ := gd_ok hf
  obtain ⟨S12, eS12, hf⟩ := bn_ok hf
  replace eS12 := Option.some.inj eS12
  refine r_putR (v := (some (gZ S8))) X hw (κ := 7) rfl inlX6 tyX6 tyX6_ok nmX6 2 (by decide) rfl (by decide) tw_72 (Or.inr ⟨rfl, hnm, rfl⟩) g11 (by first | exact Or.inl ⟨_, rfl⟩ | exact Or.inr ⟨_, rfl⟩) trivial dX6_init_29 (fun H locs hw => ?_)
  rw [eS12] at hw
  refine W.widen (k := 3) (n := 468) (show 3 ≤ 3 ∧ 468 ≤ 468 from ⟨Nat.le_of_ble_eq_true rfl, Nat.le_of_ble_eq_true rfl⟩).1 (show 3 ≤ 3 ∧ 468 ≤ 468 from ⟨Nat.le_of_ble_eq_true rfl, Nat.le_of_ble_eq_true rfl⟩).2 ?_
  cases hf
  exact r_vret X hw dX6_init_32
theorem hd_X1_init : yX1_init.cls ≠ "java/lang/invoke/MethodHandle" ∧ yX1_init.cls ≠ "java/lang/invoke/VarHandle" ∧ (parseMethodDescriptor yX1_init.desc).map (fun d => d.parameters.length) = some 0 := by decide +kernel
set_option maxHeartbeats 4000000 in
theorem c_X1_init (l : Launch) (D : va_G) (B : Nat) (cy : Nat → ClassId) (A : Nat → Prop) (ad av : Nat → Nat) (x0 : Nat) {S Z : HS} (hfr : hFr S) (hG : hTr S) (hf : fn_X1_init x0 S = some Z) : hMet l yX1_init cX1_init 1 none ({ frames := 1, cells := 0, slots := 0, locals := 20 } : Room) D B cy A ad av true hTr [.ref (B + x0)] S Z none 0 0 := by
  refine h_entry (by decide) hfr hG ?_
  intro p e s m below meth c args X hnm hw
  have hl := lv_entry ([.ref (B + x0)]) (n := 1) (Nat.le_of_ble_eq_true rfl)
  rw [lg_entry_eq]
  generalize (lg_sl ([.ref (B + x0)]) ++ List.replicate (1 - (lg_sl ([.ref (B + x0)])).length) Slot.unset).toArray = ls at hl ⊢
  have hl : lv_has ls 1 [(0, .ref (B + x0))] := hl
  unfold fn_X1_init at hf
  refine lv_aload_n X.1 X.2.1 dX1_init_0 rfl (lv_at hl 0 rfl) ?_
  refine r_objInit X tw_89 hl.1 (by decide) (Nat.le_of_ble_eq_true rfl) dX1_init_1 ?_
  cases hf
  exact r_vret X hw dX1_init_4
theorem hd_X7_init : yX7_init.cls ≠ "java/lang/invoke/MethodHandle" ∧ yX7_init.cls ≠ "java/lang/invoke/VarHandle" ∧ (parseMethodDescriptor yX7_init.desc).map (fun d => d.parameters.length) = some 4 := by decide +kernel
set_option maxHeartbeats 4000000 in
theorem c_X7_init (l : Launch) (D : va_G) (B : Nat) (cy : Nat → ClassId) (A : Nat → Prop) (ad av : Nat → Nat) (hA : ∀ c, c < 24 → A (B + c)) (h99 : cy 99 = ad 9) (x0 : Nat) (x1 : Nat) (x2 : Nat) (x3 : Nat) (x4 : Nat) {S Z : HS} (hfr : hFr S) (hG : hTr S) (hf : fn_X7_init x0 x1 x2 x3 x4 S = some Z) : hMet l yX7_init cX7_init 5 none ({ frames := 2, cells := 3, slots := 24, locals := 40 } : Room) D B cy A ad av true hTr [.ref (B + x0), .ref (B + x1), .ref (B + x2), .ref (B + x3), .ref (B + x4)] S Z none 3 24 := by
  refine h_entry (by decide) hfr hG ?_
  intro p e s m below meth c args X hnm hw
  have hl := lv_entry ([.ref (B + x0), .ref (B + x1), .ref (B + x2), .ref (B + x3), .ref (B + x4)]) (n := 5) (Nat.le_of_ble_eq_true rfl)
  rw [lg_entry_eq]
  generalize (lg_sl ([.ref (B + x0), .ref (B + x1), .ref (B + x2), .ref (B + x3), .ref (B + x4)]) ++ List.replicate (5 - (lg_sl ([.ref (B + x0), .ref (B + x1), .ref (B + x2), .ref (B + x3), .ref (B + x4)])).length) Slot.unset).toArray = ls at hl ⊢
  have hl : lv_has ls 5 [(0, .ref (B + x0)), (1, .ref (B + x1)), (2, .ref (B + x2)), (3, .ref (B + x3)), (4, .ref (B + x4))] := hl
  unfold fn_X7_init at hf
  refine lv_aload_n X.1 X.2.1 dX7_init_0 rfl (lv_at hl 0 rfl) ?_
  refine r_objInit X tw_76 hl.1 (by decide) (Nat.le_of_ble_eq_true rfl) dX7_init_1 ?_
  refine lv_aload_n X.1 X.2.1 dX7_init_4 rfl (lv_at hl 0 rfl) ?_
  obtain ⟨g1, hf⟩ := gd_ok hf
  obtain ⟨S2, eS2, hf⟩ := bn_ok hf
  replace eS2 := Option.some.inj eS2
  refine r_new (κ := 2) X hw rfl inlX1 tyX1 tyX1_ok (by decide) rfl hdef_2 tw_77 tw_78 tw_79 (hA _ g1) trivial (show 0 + 1 ≤ 3 ∧ 0 + 7 ≤ 24 from ⟨Nat.le_of_ble_eq_true rfl, Nat.le_of_ble_eq_true rfl⟩).1 (show 0 + 1 ≤ 3 ∧ 0 + 7 ≤ 24 from ⟨Nat.le_of_ble_eq_true rfl, Nat.le_of_ble_eq_true rfl⟩).2 dX7_init_5 (fun H hw => ?_)
  rw [eS2] at hw
  refine lv_dup X.1 X.2.1 dX7_init_8 rfl ?_
  obtain ⟨S3, hS3, hf⟩ := bn_ok hf
  refine r_callIN (As := []) (rest := [.ref (B + (gZ S)), .ref (B + x0)]) (st1 := [.ref (B + (gZ S)), .ref (B + x0)]) X hw (c_X1_init l D B cy A ad av (gZ S) hw.2.2.2.2.1 hw.2.2.2.2.2 hS3) ⟨rfl, rfl, Nat.le_of_ble_eq_true rfl, Nat.le_of_ble_eq_true rfl⟩ X.2.2.2.2.2.2.1.2.2.2.2.2.2.2.2.2.2.2.1 tw_87 tw_79 tw_88 rfl hd_X1_init rfl hl.1 rfl (Nat.le_of_ble_eq_true rfl) dX7_init_9 ⟨Nat.le_of_ble_eq_true rfl, Nat.le_of_ble_eq_true rfl⟩ rfl (fun H locs hw => ?_)
  obtain ⟨g4, hf⟩ := gd_ok hf
  obtain ⟨S5, eS5, hf⟩ := bn_ok hf
  replace eS5 := Option.some.inj eS5
  refine r_putR (v := (some (gZ S))) X hw (κ := 8) rfl inlX7 tyX7 tyX7_ok nmX7 4 (by decide) rfl (by decide) tw_80 (Or.inr ⟨rfl, hnm, rfl⟩) g4 (by first | exact Or.inl ⟨_, rfl⟩ | exact Or.inr ⟨_, rfl⟩) trivial dX7_init_12 (fun H locs hw => ?_)
  rw [eS5] at hw
  refine lv_aload_n X.1 X.2.1 dX7_init_15 rfl (lv_at hl 0 rfl) ?_
  refine lv_bipush (v := 9) X.1 X.2.1 dX7_init_16 (by decide) ?_
  obtain ⟨g6, hf⟩ := gd_ok hf
  obtain ⟨S7, eS7, hf⟩ := bn_ok hf
  replace eS7 := Option.some.inj eS7
  refine r_newa (κ := 21) (atype := .int) (N := 9) X hw rfl (Or.inr (Or.inl ⟨rfl, rfl⟩)) tw_23 (by decide) (by decide) (by decide) (hA _ g6) trivial (show 1 + 1 ≤ 3 ∧ 7 + 9 ≤ 24 from ⟨Nat.le_of_ble_eq_true rfl, Nat.le_of_ble_eq_true rfl⟩).1 (show 1 + 1 ≤ 3 ∧ 7 + 9 ≤ 24 from ⟨Nat.le_of_ble_eq_true rfl, Nat.le_of_ble_eq_true rfl⟩).2 dX7_init_18 (fun H hw => ?_)
  rw [eS7] at hw
  obtain ⟨g8, hf⟩ := gd_ok hf
  obtain ⟨S9, eS9, hf⟩ := bn_ok hf
  replace eS9 := Option.some.inj eS9
  refine r_putR (v := (some (gZ S5))) X hw (κ := 8) rfl inlX7 tyX7 tyX7_ok nmX7 5 (by decide) rfl (by decide) tw_81 (Or.inr ⟨rfl, hnm, rfl⟩) g8 (by first | exact Or.inl ⟨_, rfl⟩ | exact Or.inr ⟨_, rfl⟩) trivial dX7_init_20 (fun H locs hw => ?_)
  rw [eS9] at hw
  refine lv_aload_n X.1 X.2.1 dX7_init_23 rfl (lv_at hl 0 rfl) ?_
  refine lv_bipush (v := 8) X.1 X.2.1 dX7_init_24 (by decide) ?_
  obtain ⟨g10, hf⟩ := gd_ok hf
  obtain ⟨S11, eS11, hf⟩ := bn_ok hf
  replace eS11 := Option.some.inj eS11
  refine r_newa (κ := 21) (atype := .int) (N := 8) X hw rfl (Or.inr (Or.inl ⟨rfl, rfl⟩)) tw_23 (by decide) (by decide) (by decide) (hA _ g10) trivial (show 2 + 1 ≤ 3 ∧ 16 + 8 ≤ 24 from ⟨Nat.le_of_ble_eq_true rfl, Nat.le_of_ble_eq_true rfl⟩).1 (show 2 + 1 ≤ 3 ∧ 16 + 8 ≤ 24 from ⟨Nat.le_of_ble_eq_true rfl, Nat.le_of_ble_eq_true rfl⟩).2 dX7_init_26 (fun H hw => ?_)
  rw [eS11] at hw
  obtain ⟨g12, hf⟩ := gd_ok hf
  obtain ⟨S13, eS13, hf⟩ := bn_ok hf
  replace eS13 := Option.some.inj eS13
  refine r_putR (v := (some (gZ S9))) X hw (κ := 8) rfl inlX7 tyX7 tyX7_ok nmX7 6 (by decide) rfl (by decide) tw_82 (Or.inr ⟨rfl, hnm, rfl⟩) g12 (by first | exact Or.inl ⟨_, rfl⟩ | exact Or.inr ⟨_, rfl⟩) trivial dX7_init_28 (fun H locs hw => ?_)
  rw [eS13] at hw
  refine lv_aload_n X.1 X.2.1 dX7_init_31 rfl (lv_at hl 0 rfl) ?_
  refine lv_aload_n X.1 X.2.1 dX7_init_32 rfl (lv_at hl 1 rfl) ?_
  obtain ⟨g14, hf⟩ := gd_ok hf
  obtain ⟨S15, eS15, hf⟩ := bn_ok hf
  replace eS15 := Option.some.inj eS15
  refine r_putR (v := (some x1)) X hw (κ := 8) rfl inlX7 tyX7 tyX7_ok nmX7 0 (by decide) rfl (by decide) tw_83 (Or.inr ⟨rfl, hnm, rfl⟩) g14 (by first | exact Or.inl ⟨_, rfl⟩ | exact Or.inr ⟨_, rfl⟩) trivial dX7_init_33 (fun H locs hw => ?_)
  rw [eS15] at hw
  refine lv_aload_n X.1 X.2.1 dX7_init_36 rfl (lv_at hl 0 rfl) ?_
  refine lv_aload_n X.1 X.2.1 dX7_init_37 rfl (lv_at hl 2 rfl) ?_
  obtain ⟨g16, hf⟩ := gd_ok hf
  obtain ⟨S17, eS17, hf⟩ := bn_ok hf
  replace eS17 := Option.some.inj eS17
  refine r_putR (v := (some x2)) X hw (κ := 8) rfl inlX7 tyX7 tyX7_ok nmX7 1 (by decide) rfl (by decide) tw_84 (Or.inr ⟨rfl, hnm, rfl⟩) g16 (by first | exact Or.inl ⟨_, rfl⟩ | exact Or.inr ⟨_, rfl⟩) trivial dX7_init_38 (fun H locs hw => ?_)
  rw [eS17] at hw
  refine lv_aload_n X.1 X.2.1 dX7_init_41 rfl (lv_at hl 0 rfl) ?_
  refine lv_aload_n X.1 X.2.1 dX7_init_42 rfl (lv_at hl 3 rfl) ?_
  obtain ⟨g18, hf⟩ := gd_ok hf
  obtain ⟨S19, eS19, hf⟩ := bn_ok hf
  replace eS19 := Option.some.inj eS19
  refine r_putR (v := (some x3)) X hw (κ := 8) rfl inlX7 tyX7 tyX7_ok nmX7 2 (by decide) rfl (by decide) tw_85 (Or.inr ⟨rfl, hnm, rfl⟩) g18 (by first | exact Or.inl ⟨_, rfl⟩ | exact Or.inr ⟨_, rfl⟩) trivial dX7_init_43 (fun H locs hw => ?_)
  rw [eS19] at hw
  refine lv_aload_n X.1 X.2.1 dX7_init_46 rfl (lv_at hl 0 rfl) ?_
  refine lv_aload X.1 X.2.1 dX7_init_47 (lv_at hl 4 rfl) ?_
  obtain ⟨g20, hf⟩ := gd_ok hf
  obtain ⟨S21, eS21, hf⟩ := bn_ok hf
  replace eS21 := Option.some.inj eS21
  refine r_putR (v := (some x4)) X hw (κ := 8) rfl inlX7 tyX7 tyX7_ok nmX7 3 (by decide) rfl (by decide) tw_86 (Or.inr ⟨rfl, hnm, rfl⟩) g20 (by first | exact Or.inl ⟨_, rfl⟩ | exact Or.inr ⟨_, rfl⟩) trivial dX7_init_49 (fun H locs hw => ?_)
  rw [eS21] at hw
  refine W.widen (k := 3) (n := 24) (show 3 ≤ 3 ∧ 24 ≤ 24 from ⟨Nat.le_of_ble_eq_true rfl, Nat.le_of_ble_eq_true rfl⟩).1 (show 3 ≤ 3 ∧ 24 ≤ 24 from ⟨Nat.le_of_ble_eq_true rfl, Nat.le_of_ble_eq_true rfl⟩).2 ?_
  cases hf
  exact r_vret X hw dX7_init_52
theorem hd_X5_init : yX5_init.cls ≠ "java/lang/invoke/MethodHandle" ∧ yX5_init.cls ≠ "java/lang/invoke/VarHandle" ∧ (parseMethodDescriptor yX5_init.desc).map (fun d => d.parameters.length) = some 2 := by decide +kernel
set_option maxHeartbeats 4000000 in
theorem c_X5_init (l : Launch) (D : va_G) (B : Nat) (cy : Nat → ClassId) (A : Nat → Prop) (ad av : Nat → Nat) (hA : ∀ c, c < 24 → A (B + c)) (h99 : cy 99 = ad 9) (x0 : Nat) (x1 : Int32) (x2 : Int32) {S Z : HS} (hfr : hFr S) (hG : hTr S) (hf : fn_X5_init x0 x1 x2 S = some Z) : hMet l yX5_init cX5_init 3 none ({ frames := 1, cells := 1, slots := 960, locals := 21 } : Room) D B cy A ad av true hTr [.ref (B + x0), .int x1, .int x2] S Z none 1 960 := by
  refine h_entry (by decide) hfr hG ?_
  intro p e s m below meth c args X hnm hw
  have hl := lv_entry ([.ref (B + x0), .int x1, .int x2]) (n := 3) (Nat.le_of_ble_eq_true rfl)
  rw [lg_entry_eq]
  generalize (lg_sl ([.ref (B + x0), .int x1, .int x2]) ++ List.replicate (3 - (lg_sl ([.ref (B + x0), .int x1, .int x2])).length) Slot.unset).toArray = ls at hl ⊢
  have hl : lv_has ls 3 [(0, .ref (B + x0)), (1, .int x1), (2, .int x2)] := hl
  unfold fn_X5_init at hf
  refine lv_aload_n X.1 X.2.1 dX5_init_0 rfl (lv_at hl 0 rfl) ?_
  refine r_objInit X tw_93 hl.1 (by decide) (Nat.le_of_ble_eq_true rfl) dX5_init_1 ?_
  refine lv_aload_n X.1 X.2.1 dX5_init_4 rfl (lv_at hl 0 rfl) ?_
  refine lv_iload_n X.1 X.2.1 dX5_init_5 rfl (lv_at hl 1 rfl) ?_
  obtain ⟨g1, hf⟩ := gd_ok hf
  obtain ⟨S2, eS2, hf⟩ := bn_ok hf
  replace eS2 := Option.some.inj eS2
  refine r_putI X hw (κ := 6) rfl inlX5 tyX5 tyX5_ok nmX5 0 (by decide) rfl (by decide) tw_94 (Or.inr ⟨rfl, hnm, rfl⟩) g1 rfl rfl trivial dX5_init_6 (fun H locs hw => ?_)
  rw [eS2] at hw
  refine lv_aload_n X.1 X.2.1 dX5_init_9 rfl (lv_at hl 0 rfl) ?_
  refine lv_iconst (v := 0) X.1 X.2.1 dX5_init_10 (by decide) ?_
  refine lv_iload_n X.1 X.2.1 dX5_init_11 rfl (lv_at hl 1 rfl) ?_
  refine lv_iload_n X.1 X.2.1 dX5_init_12 rfl (lv_at hl 2 rfl) ?_
  refine lv_imul X.1 X.2.1 dX5_init_13 ?_
  refine r_mmax X hl.1 tw_95 (by decide) (Nat.le_of_ble_eq_true rfl) (show 0 ≤ 1 ∧ 0 ≤ 960 from ⟨Nat.zero_le _, Nat.zero_le _⟩).1 (show 0 ≤ 1 ∧ 0 ≤ 960 from ⟨Nat.zero_le _, Nat.zero_le _⟩).2 dX5_init_14 ?_
  obtain ⟨g3, hf⟩ := gd_ok hf
  obtain ⟨g4, hf⟩ := gd_ok hf
  obtain ⟨S5, eS5, hf⟩ := bn_ok hf
  replace eS5 := Option.some.inj eS5
  refine r_newa (κ := 22) (atype := .long) (N := (jmax 0 (x1 * x2) : Int32).toNatClampNeg) X hw rfl (Or.inr (Or.inr (Or.inl ⟨rfl, rfl⟩))) tw_33 g3.1 rfl g3.2.1 (hA _ g4) trivial g3.2.2.1 g3.2.2.2 dX5_init_17 (fun H hw => ?_)
  rw [eS5] at hw
  obtain ⟨g6, hf⟩ := gd_ok hf
  obtain ⟨S7, eS7, hf⟩ := bn_ok hf
  replace eS7 := Option.some.inj eS7
  refine r_putR (v := (some (gZ S2))) X hw (κ := 6) rfl inlX5 tyX5 tyX5_ok nmX5 1 (by decide) rfl (by decide) tw_99 (Or.inr ⟨rfl, hnm, rfl⟩) g6 (by first | exact Or.inl ⟨_, rfl⟩ | exact Or.inr ⟨_, rfl⟩) trivial dX5_init_19 (fun H locs hw => ?_)
  rw [eS7] at hw
  refine W.widen (k := 1) (n := 960) (show 1 ≤ 1 ∧ 0 + (jmax 0 (x1 * x2) : Int32).toNatClampNeg ≤ 960 from g3.2.2).1 (show 1 ≤ 1 ∧ 0 + (jmax 0 (x1 * x2) : Int32).toNatClampNeg ≤ 960 from g3.2.2).2 ?_
  cases hf
  exact r_vret X hw dX5_init_22
set_option maxHeartbeats 4000000 in
theorem w_X8_init_165 {p : Program} {l : Launch} {e : Env} {s : State} {m : MethodId} {args : Array Value} {below : List Frame} {meth : Method} {c : Code} {D : va_G} {B : Nat} {cy : Nat → ClassId} {A : Nat → Prop} {ad av : Nat → Nat} {Z : HS} (X : hCX p s m args meth c RX8 cX8_init 1 none D cy A ad av) (hnm : meth.name = "<init>") (hA : ∀ c, c < 24 → A (B + c)) (h99 : cy 99 = ad 9)  (ca : Nat) (sl : Nat) (S : HS) (H : Heap) (locs : List Loc) (ls : Array Slot) (hf : fn_X8_init_165 ca sl S = some Z) (hw : hWd D B cy A true hTr S s.heap H locs) (hl : lv_has ls 1 []) (hb : ca ≤ 23 ∧ sl ≤ 7000) : W p l e ({ frames := 4, cells := 23, slots := 7000, locals := 72 } : Room) s m args below meth c H locs ca sl (MQ below (hQo D B cy A true hTr Z none) args s 23 7000 A) (F0 m 165 ls []) := by
  unfold fn_X8_init_165 at hf
  refine W.widen (k := 23) (n := 7000) (show ca ≤ 23 ∧ sl ≤ 7000 from hb).1 (show ca ≤ 23 ∧ sl ≤ 7000 from hb).2 ?_
  cases hf
  exact r_vret X hw dX8_init_165
set_option maxHeartbeats 4000000 in
theorem w_X8_init_134 {p : Program} {l : Launch} {e : Env} {s : State} {m : MethodId} {args : Array Value} {below : List Frame} {meth : Method} {c : Code} {D : va_G} {B : Nat} {cy : Nat → ClassId} {A : Nat → Prop} {ad av : Nat → Nat} {Z : HS} (X : hCX p s m args meth c RX8 cX8_init 1 none D cy A ad av) (hnm : meth.name = "<init>") (hA : ∀ c, c < 24 → A (B + c)) (h99 : cy 99 = ad 9)  (x0 : Nat) (ca : Nat) (sl : Nat) (S : HS) (H : Heap) (locs : List Loc) (ls : Array Slot) (hf : fn_X8_init_134 x0 ca sl S = some Z) (hw : hWd D B cy A true hTr S s.heap H locs) (hl : lv_has ls 1 [(0, .ref (B + x0))]) (hb : ca ≤ 23 ∧ sl ≤ 7000) : W p l e ({ frames := 4, cells := 23, slots := 7000, locals := 72 } : Room) s m args below meth c H locs ca sl (MQ below (hQo D B cy A true hTr Z none) args s 23 7000 A) (F0 m 134 ls []) := by
  unfold fn_X8_init_134 at hf
  refine lv_aload_n X.1 X.2.1 dX8_init_134 rfl (lv_at hl 0 rfl) ?_
  obtain ⟨g1, hf⟩ := gd_ok hf
  obtain ⟨g2, hf⟩ := gd_ok hf
  obtain ⟨S3, eS3, hf⟩ := bn_ok hf
  replace eS3 := Option.some.inj eS3
  refine r_new (κ := 6) X hw rfl inlX5 tyX5 tyX5_ok (by decide) rfl hdef_6 tw_35 tw_36 tw_37 (hA _ g2) trivial g1.1 g1.2 dX8_init_135 (fun H hw => ?_)
  rw [eS3] at hw
  refine lv_dup X.1 X.2.1 dX8_init_138 rfl ?_
  refine lv_iconst (v := 4) X.1 X.2.1 dX8_init_139 (by decide) ?_
  refine lv_sipush (v := 156) X.1 X.2.1 dX8_init_140 (by decide) ?_
  obtain ⟨g5, hf⟩ := gd_ok hf
  obtain ⟨S4, hS4, hf⟩ := bn_ok hf
  refine r_callI (As := [.int 4, .int 156]) (rest := [.ref (B + (gZ S)), .ref (B + x0)]) (st1 := [.ref (B + (gZ S)), .ref (B + x0)]) X hw (c_X5_init l D B cy A ad av hA h99 (gZ S) 4 156 hw.2.2.2.2.1 hw.2.2.2.2.2 hS4) ⟨rfl, rfl, Nat.le_of_ble_eq_true rfl, Nat.le_of_ble_eq_true rfl⟩ tw_90 tw_91 tw_37 tw_92 rfl hd_X5_init rfl hl.1 rfl (Nat.le_of_ble_eq_true rfl) dX8_init_143 g5 rfl (fun H locs hw => ?_)
  obtain ⟨g6, hf⟩ := gd_ok hf
  obtain ⟨S7, eS7, hf⟩ := bn_ok hf
  replace eS7 := Option.some.inj eS7
  refine r_putR (v := (some (gZ S))) X hw (κ := 9) rfl inlX8 tyX8 tyX8_ok nmX8 10 (by decide) rfl (by decide) tw_40 (Or.inr ⟨rfl, hnm, rfl⟩) g6 (by first | exact Or.inl ⟨_, rfl⟩ | exact Or.inr ⟨_, rfl⟩) trivial dX8_init_146 (fun H locs hw => ?_)
  rw [eS7] at hw
  refine lv_aload_n X.1 X.2.1 dX8_init_149 rfl (lv_at hl 0 rfl) ?_
  refine lv_bipush (v := 8) X.1 X.2.1 dX8_init_150 (by decide) ?_
  obtain ⟨g8, hf⟩ := gd_ok hf
  obtain ⟨g9, hf⟩ := gd_ok hf
  obtain ⟨S10, eS10, hf⟩ := bn_ok hf
  replace eS10 := Option.some.inj eS10
  refine r_newa (κ := 21) (atype := .int) (N := 8) X hw rfl (Or.inr (Or.inl ⟨rfl, rfl⟩)) tw_23 (by decide) (by decide) (by decide) (hA _ g9) trivial g8.1 g8.2 dX8_init_152 (fun H hw => ?_)
  rw [eS10] at hw
  obtain ⟨g11, hf⟩ := gd_ok hf
  obtain ⟨S12, eS12, hf⟩ := bn_ok hf
  replace eS12 := Option.some.inj eS12
  refine r_putR (v := (some (gZ S7))) X hw (κ := 9) rfl inlX8 tyX8 tyX8_ok nmX8 11 (by decide) rfl (by decide) tw_41 (Or.inr ⟨rfl, hnm, rfl⟩) g11 (by first | exact Or.inl ⟨_, rfl⟩ | exact Or.inr ⟨_, rfl⟩) trivial dX8_init_154 (fun H locs hw => ?_)
  rw [eS12] at hw
  refine lv_aload_n X.1 X.2.1 dX8_init_157 rfl (lv_at hl 0 rfl) ?_
  refine lv_bipush (v := 8) X.1 X.2.1 dX8_init_158 (by decide) ?_
  obtain ⟨g13, hf⟩ := gd_ok hf
  obtain ⟨g14, hf⟩ := gd_ok hf
  obtain ⟨S15, eS15, hf⟩ := bn_ok hf
  replace eS15 := Option.some.inj eS15
  refine r_newa (κ := 21) (atype := .int) (N := 8) X hw rfl (Or.inr (Or.inl ⟨rfl, rfl⟩)) tw_23 (by decide) (by decide) (by decide) (hA _ g14) trivial g13.1 g13.2 dX8_init_160 (fun H hw => ?_)
  rw [eS15] at hw
  obtain ⟨g16, hf⟩ := gd_ok hf
  obtain ⟨S17, eS17, hf⟩ := bn_ok hf
  replace eS17 := Option.some.inj eS17
  refine r_putR (v := (some (gZ S12))) X hw (κ := 9) rfl inlX8 tyX8 tyX8_ok nmX8 12 (by decide) rfl (by decide) tw_42 (Or.inr ⟨rfl, hnm, rfl⟩) g16 (by first | exact Or.inl ⟨_, rfl⟩ | exact Or.inr ⟨_, rfl⟩) trivial dX8_init_162 (fun H locs hw => ?_)
  rw [eS17] at hw
  exact w_X8_init_165 X hnm hA h99  _ _ _ _ _ _ hf hw (lv_sub hl [] rfl) g13
set_option maxHeartbeats 4000000 in
theorem w_X8_init_96 {p : Program} {l : Launch} {e : Env} {s : State} {m : MethodId} {args : Array Value} {below : List Frame} {meth : Method} {c : Code} {D : va_G} {B : Nat} {cy : Nat → ClassId} {A : Nat → Prop} {ad av : Nat → Nat} {Z : HS} (X : hCX p s m args meth c RX8 cX8_init 1 none D cy A ad av) (hnm : meth.name = "<init>") (hA : ∀ c, c < 24 → A (B + c)) (h99 : cy 99 = ad 9)  (x0 : Nat) (ca : Nat) (sl : Nat) (S : HS) (H : Heap) (locs : List Loc) (ls : Array Slot) (hf : fn_X8_init_96 x0 ca sl S = some Z) (hw : hWd D B cy A true hTr S s.heap H locs) (hl : lv_has ls 1 [(0, .ref (B + x0))]) (hb : ca ≤ 23 ∧ sl ≤ 7000) : W p l e ({ frames := 4, cells := 23, slots := 7000, locals := 72 } : Room) s m args below meth c H locs ca sl (MQ below (hQo D B cy A true hTr Z none) args s 23 7000 A) (F0 m 96 ls []) := by
  unfold fn_X8_init_96 at hf
  refine lv_aload_n X.1 X.2.1 dX8_init_96 rfl (lv_at hl 0 rfl) ?_
  refine lv_sipush (v := 320) X.1 X.2.1 dX8_init_97 (by decide) ?_
  obtain ⟨g1, hf⟩ := gd_ok hf
  obtain ⟨g2, hf⟩ := gd_ok hf
  obtain ⟨S3, eS3, hf⟩ := bn_ok hf
  replace eS3 := Option.some.inj eS3
  refine r_newa (κ := 22) (atype := .long) (N := 320) X hw rfl (Or.inr (Or.inr (Or.inl ⟨rfl, rfl⟩))) tw_33 (by decide) (by decide) (by decide) (hA _ g2) trivial g1.1 g1.2 dX8_init_100 (fun H hw => ?_)
  rw [eS3] at hw
  obtain ⟨g4, hf⟩ := gd_ok hf
  obtain ⟨S5, eS5, hf⟩ := bn_ok hf
  replace eS5 := Option.some.inj eS5
  refine r_putR (v := (some (gZ S))) X hw (κ := 9) rfl inlX8 tyX8 tyX8_ok nmX8 7 (by decide) rfl (by decide) tw_34 (Or.inr ⟨rfl, hnm, rfl⟩) g4 (by first | exact Or.inl ⟨_, rfl⟩ | exact Or.inr ⟨_, rfl⟩) trivial dX8_init_102 (fun H locs hw => ?_)
  rw [eS5] at hw
  refine lv_aload_n X.1 X.2.1 dX8_init_105 rfl (lv_at hl 0 rfl) ?_
  obtain ⟨g6, hf⟩ := gd_ok hf
  obtain ⟨g7, hf⟩ := gd_ok hf
  obtain ⟨S8, eS8, hf⟩ := bn_ok hf
  replace eS8 := Option.some.inj eS8
  refine r_new (κ := 6) X hw rfl inlX5 tyX5 tyX5_ok (by decide) rfl hdef_6 tw_35 tw_36 tw_37 (hA _ g7) trivial g6.1 g6.2 dX8_init_106 (fun H hw => ?_)
  rw [eS8] at hw
  refine lv_dup X.1 X.2.1 dX8_init_109 rfl ?_
  refine lv_iconst (v := 3) X.1 X.2.1 dX8_init_110 (by decide) ?_
  refine lv_sipush (v := 320) X.1 X.2.1 dX8_init_111 (by decide) ?_
  obtain ⟨g10, hf⟩ := gd_ok hf
  obtain ⟨S9, hS9, hf⟩ := bn_ok hf
  refine r_callI (As := [.int 3, .int 320]) (rest := [.ref (B + (gZ S5)), .ref (B + x0)]) (st1 := [.ref (B + (gZ S5)), .ref (B + x0)]) X hw (c_X5_init l D B cy A ad av hA h99 (gZ S5) 3 320 hw.2.2.2.2.1 hw.2.2.2.2.2 hS9) ⟨rfl, rfl, Nat.le_of_ble_eq_true rfl, Nat.le_of_ble_eq_true rfl⟩ tw_90 tw_91 tw_37 tw_92 rfl hd_X5_init rfl hl.1 rfl (Nat.le_of_ble_eq_true rfl) dX8_init_114 g10 rfl (fun H locs hw => ?_)
  obtain ⟨g11, hf⟩ := gd_ok hf
  obtain ⟨S12, eS12, hf⟩ := bn_ok hf
  replace eS12 := Option.some.inj eS12
  refine r_putR (v := (some (gZ S5))) X hw (κ := 9) rfl inlX8 tyX8 tyX8_ok nmX8 8 (by decide) rfl (by decide) tw_38 (Or.inr ⟨rfl, hnm, rfl⟩) g11 (by first | exact Or.inl ⟨_, rfl⟩ | exact Or.inr ⟨_, rfl⟩) trivial dX8_init_117 (fun H locs hw => ?_)
  rw [eS12] at hw
  refine lv_aload_n X.1 X.2.1 dX8_init_120 rfl (lv_at hl 0 rfl) ?_
  obtain ⟨g13, hf⟩ := gd_ok hf
  obtain ⟨g14, hf⟩ := gd_ok hf
  obtain ⟨S15, eS15, hf⟩ := bn_ok hf
  replace eS15 := Option.some.inj eS15
  refine r_new (κ := 6) X hw rfl inlX5 tyX5 tyX5_ok (by decide) rfl hdef_6 tw_35 tw_36 tw_37 (hA _ g14) trivial g13.1 g13.2 dX8_init_121 (fun H hw => ?_)
  rw [eS15] at hw
  refine lv_dup X.1 X.2.1 dX8_init_124 rfl ?_
  refine lv_iconst (v := 4) X.1 X.2.1 dX8_init_125 (by decide) ?_
  refine lv_bipush (v := 28) X.1 X.2.1 dX8_init_126 (by decide) ?_
  obtain ⟨g17, hf⟩ := gd_ok hf
  obtain ⟨S16, hS16, hf⟩ := bn_ok hf
  refine r_callI (As := [.int 4, .int 28]) (rest := [.ref (B + (gZ S12)), .ref (B + x0)]) (st1 := [.ref (B + (gZ S12)), .ref (B + x0)]) X hw (c_X5_init l D B cy A ad av hA h99 (gZ S12) 4 28 hw.2.2.2.2.1 hw.2.2.2.2.2 hS16) ⟨rfl, rfl, Nat.le_of_ble_eq_true rfl, Nat.le_of_ble_eq_true rfl⟩ tw_90 tw_91 tw_37 tw_92 rfl hd_X5_init rfl hl.1 rfl (Nat.le_of_ble_eq_true rfl) dX8_init_128 g17 rfl (fun H locs hw => ?_)
  obtain ⟨g18, hf⟩ := gd_ok hf
  obtain ⟨S19, eS19, hf⟩ := bn_ok hf
  replace eS19 := Option.some.inj eS19
  refine r_putR (v := (some (gZ S12))) X hw (κ := 9) rfl inlX8 tyX8 tyX8_ok nmX8 9 (by decide) rfl (by decide) tw_39 (Or.inr ⟨rfl, hnm, rfl⟩) g18 (by first | exact Or.inl ⟨_, rfl⟩ | exact Or.inr ⟨_, rfl⟩) trivial dX8_init_131 (fun H locs hw => ?_)
  rw [eS19] at hw
  exact w_X8_init_134 X hnm hA h99  _ _ _ _ _ _ _ hf hw (lv_sub hl [0] rfl) g17
set_option maxHeartbeats 4000000 in
theorem w_X8_init_58 {p : Program} {l : Launch} {e : Env} {s : State} {m : MethodId} {args : Array Value} {below : List Frame} {meth : Method} {c : Code} {D : va_G} {B : Nat} {cy : Nat → ClassId} {A : Nat → Prop} {ad av : Nat → Nat} {Z : HS} (X : hCX p s m args meth c RX8 cX8_init 1 none D cy A ad av) (hnm : meth.name = "<init>") (hA : ∀ c, c < 24 → A (B + c)) (h99 : cy 99 = ad 9)  (x0 : Nat) (ca : Nat) (sl : Nat) (S : HS) (H : Heap) (locs : List Loc) (ls : Array Slot) (hf : fn_X8_init_58 x0 ca sl S = some Z) (hw : hWd D B cy A true hTr S s.heap H locs) (hl : lv_has ls 1 [(0, .ref (B + x0))]) (hb : ca ≤ 23 ∧ sl ≤ 7000) : W p l e ({ frames := 4, cells := 23, slots := 7000, locals := 72 } : Room) s m args below meth c H locs ca sl (MQ below (hQo D B cy A true hTr Z none) args s 23 7000 A) (F0 m 58 ls []) := by
  unfold fn_X8_init_58 at hf
  refine lv_aload_n X.1 X.2.1 dX8_init_58 rfl (lv_at hl 0 rfl) ?_
  obtain ⟨g1, hf⟩ := gd_ok hf
  obtain ⟨g2, hf⟩ := gd_ok hf
  obtain ⟨S3, eS3, hf⟩ := bn_ok hf
  replace eS3 := Option.some.inj eS3
  refine r_new (κ := 7) X hw rfl inlX6 tyX6 tyX6_ok (by decide) rfl hdef_7 tw_25 tw_26 tw_27 (hA _ g2) trivial g1.1 g1.2 dX8_init_59 (fun H hw => ?_)
  rw [eS3] at hw
  refine lv_dup X.1 X.2.1 dX8_init_62 rfl ?_
  obtain ⟨g5, hf⟩ := gd_ok hf
  obtain ⟨S4, hS4, hf⟩ := bn_ok hf
  refine r_callIN (As := []) (rest := [.ref (B + (gZ S)), .ref (B + x0)]) (st1 := [.ref (B + (gZ S)), .ref (B + x0)]) X hw (c_X6_init l D B cy A ad av hA h99 (gZ S) hw.2.2.2.2.1 hw.2.2.2.2.2 hS4) ⟨rfl, rfl, Nat.le_of_ble_eq_true rfl, Nat.le_of_ble_eq_true rfl⟩ X.2.2.2.2.2.2.1.2.2.2.2.2.2.2.2.2.2.1 tw_66 tw_27 tw_67 rfl hd_X6_init rfl hl.1 rfl (Nat.le_of_ble_eq_true rfl) dX8_init_63 g5 rfl (fun H locs hw => ?_)
  obtain ⟨g6, hf⟩ := gd_ok hf
  obtain ⟨S7, eS7, hf⟩ := bn_ok hf
  replace eS7 := Option.some.inj eS7
  refine r_putR (v := (some (gZ S))) X hw (κ := 9) rfl inlX8 tyX8 tyX8_ok nmX8 5 (by decide) rfl (by decide) tw_28 (Or.inr ⟨rfl, hnm, rfl⟩) g6 (by first | exact Or.inl ⟨_, rfl⟩ | exact Or.inr ⟨_, rfl⟩) trivial dX8_init_66 (fun H locs hw => ?_)
  rw [eS7] at hw
  refine lv_aload_n X.1 X.2.1 dX8_init_69 rfl (lv_at hl 0 rfl) ?_
  obtain ⟨g8, hf⟩ := gd_ok hf
  obtain ⟨g9, hf⟩ := gd_ok hf
  obtain ⟨S10, eS10, hf⟩ := bn_ok hf
  replace eS10 := Option.some.inj eS10
  refine r_new (κ := 8) X hw rfl inlX7 tyX7 tyX7_ok (by decide) rfl hdef_8 tw_29 tw_30 tw_31 (hA _ g9) trivial g8.1 g8.2 dX8_init_70 (fun H hw => ?_)
  rw [eS10] at hw
  refine lv_dup X.1 X.2.1 dX8_init_73 rfl ?_
  refine lv_aload_n X.1 X.2.1 dX8_init_74 rfl (lv_at hl 0 rfl) ?_
  obtain ⟨g11, hf⟩ := gd_ok hf
  refine r_getR X hw (κ := 9) rfl inlX8 2 (by decide) rfl (by decide) tw_21 g11 dX8_init_75 ?_
  refine lv_aload_n X.1 X.2.1 dX8_init_78 rfl (lv_at hl 0 rfl) ?_
  obtain ⟨g12, hf⟩ := gd_ok hf
  refine r_getR X hw (κ := 9) rfl inlX8 3 (by decide) rfl (by decide) tw_22 g12 dX8_init_79 ?_
  refine lv_aload_n X.1 X.2.1 dX8_init_82 rfl (lv_at hl 0 rfl) ?_
  obtain ⟨g13, hf⟩ := gd_ok hf
  refine r_getR X hw (κ := 9) rfl inlX8 4 (by decide) rfl (by decide) tw_24 g13 dX8_init_83 ?_
  refine lv_aload_n X.1 X.2.1 dX8_init_86 rfl (lv_at hl 0 rfl) ?_
  obtain ⟨g14, hf⟩ := gd_ok hf
  refine r_getR X hw (κ := 9) rfl inlX8 5 (by decide) rfl (by decide) tw_28 g14 dX8_init_87 ?_
  obtain ⟨c15, ec15, hf⟩ := bn_ok hf
  rw [ec15]
  obtain ⟨c16, ec16, hf⟩ := bn_ok hf
  rw [ec16]
  obtain ⟨c17, ec17, hf⟩ := bn_ok hf
  rw [ec17]
  obtain ⟨c18, ec18, hf⟩ := bn_ok hf
  rw [ec18]
  obtain ⟨g20, hf⟩ := gd_ok hf
  obtain ⟨S19, hS19, hf⟩ := bn_ok hf
  refine r_callI (As := [.ref (B + c15), .ref (B + c16), .ref (B + c17), .ref (B + c18)]) (rest := [.ref (B + (gZ S7)), .ref (B + x0)]) (st1 := [.ref (B + (gZ S7)), .ref (B + x0)]) X hw (c_X7_init l D B cy A ad av hA h99 (gZ S7) c15 c16 c17 c18 hw.2.2.2.2.1 hw.2.2.2.2.2 hS19) ⟨rfl, rfl, Nat.le_of_ble_eq_true rfl, Nat.le_of_ble_eq_true rfl⟩ tw_73 tw_74 tw_31 tw_75 rfl hd_X7_init rfl hl.1 rfl (Nat.le_of_ble_eq_true rfl) dX8_init_90 g20 rfl (fun H locs hw => ?_)
  obtain ⟨g21, hf⟩ := gd_ok hf
  obtain ⟨S22, eS22, hf⟩ := bn_ok hf
  replace eS22 := Option.some.inj eS22
  refine r_putR (v := (some (gZ S7))) X hw (κ := 9) rfl inlX8 tyX8 tyX8_ok nmX8 6 (by decide) rfl (by decide) tw_32 (Or.inr ⟨rfl, hnm, rfl⟩) g21 (by first | exact Or.inl ⟨_, rfl⟩ | exact Or.inr ⟨_, rfl⟩) trivial dX8_init_93 (fun H locs hw => ?_)
  rw [eS22] at hw
  exact w_X8_init_96 X hnm hA h99  _ _ _ _ _ _ _ hf hw (lv_sub hl [0] rfl) g20
set_option maxHeartbeats 4000000 in
theorem w_X8_init_28 {p : Program} {l : Launch} {e : Env} {s : State} {m : MethodId} {args : Array Value} {below : List Frame} {meth : Method} {c : Code} {D : va_G} {B : Nat} {cy : Nat → ClassId} {A : Nat → Prop} {ad av : Nat → Nat} {Z : HS} (X : hCX p s m args meth c RX8 cX8_init 1 none D cy A ad av) (hnm : meth.name = "<init>") (hA : ∀ c, c < 24 → A (B + c)) (h99 : cy 99 = ad 9)  (x0 : Nat) (ca : Nat) (sl : Nat) (S : HS) (H : Heap) (locs : List Loc) (ls : Array Slot) (hf : fn_X8_init_28 x0 ca sl S = some Z) (hw : hWd D B cy A true hTr S s.heap H locs) (hl : lv_has ls 1 [(0, .ref (B + x0))]) (hb : ca ≤ 23 ∧ sl ≤ 7000) : W p l e ({ frames := 4, cells := 23, slots := 7000, locals := 72 } : Room) s m args below meth c H locs ca sl (MQ below (hQo D B cy A true hTr Z none) args s 23 7000 A) (F0 m 28 ls []) := by
  unfold fn_X8_init_28 at hf
  refine lv_aload_n X.1 X.2.1 dX8_init_28 rfl (lv_at hl 0 rfl) ?_
  obtain ⟨g1, hf⟩ := gd_ok hf
  obtain ⟨g2, hf⟩ := gd_ok hf
  obtain ⟨S3, eS3, hf⟩ := bn_ok hf
  replace eS3 := Option.some.inj eS3
  refine r_new (κ := 11) X hw rfl inlJx4a65c tyJx4a65c tyJx4a65c_ok (by decide) rfl hdef_11 tw_18 tw_19 tw_20 (hA _ g2) trivial g1.1 g1.2 dX8_init_29 (fun H hw => ?_)
  rw [eS3] at hw
  refine lv_dup X.1 X.2.1 dX8_init_32 rfl ?_
  obtain ⟨S4, hS4, hf⟩ := bn_ok hf
  refine r_callI (As := []) (rest := [.ref (B + (gZ S)), .ref (B + x0)]) (st1 := [.ref (B + (gZ S)), .ref (B + x0)]) X hw (c_Jl_init l D B cy A ad av true hTr h99 (gZ S) hw.2.2.2.2.1 hw.2.2.2.2.2 trivial trivial hS4) ⟨rfl, rfl, Nat.le_of_ble_eq_true rfl, Nat.le_of_ble_eq_true rfl⟩ tw_51 tw_52 tw_20 tw_53 rfl hd_Jl_init rfl hl.1 rfl (Nat.le_of_ble_eq_true rfl) dX8_init_33 g1 rfl (fun H locs hw => ?_)
  obtain ⟨g5, hf⟩ := gd_ok hf
  obtain ⟨S6, eS6, hf⟩ := bn_ok hf
  replace eS6 := Option.some.inj eS6
  refine r_putR (v := (some (gZ S))) X hw (κ := 9) rfl inlX8 tyX8 tyX8_ok nmX8 2 (by decide) rfl (by decide) tw_21 (Or.inr ⟨rfl, hnm, rfl⟩) g5 (by first | exact Or.inl ⟨_, rfl⟩ | exact Or.inr ⟨_, rfl⟩) trivial dX8_init_36 (fun H locs hw => ?_)
  rw [eS6] at hw
  refine lv_aload_n X.1 X.2.1 dX8_init_39 rfl (lv_at hl 0 rfl) ?_
  obtain ⟨g7, hf⟩ := gd_ok hf
  obtain ⟨g8, hf⟩ := gd_ok hf
  obtain ⟨S9, eS9, hf⟩ := bn_ok hf
  replace eS9 := Option.some.inj eS9
  refine r_new (κ := 11) X hw rfl inlJx4a65c tyJx4a65c tyJx4a65c_ok (by decide) rfl hdef_11 tw_18 tw_19 tw_20 (hA _ g8) trivial g7.1 g7.2 dX8_init_40 (fun H hw => ?_)
  rw [eS9] at hw
  refine lv_dup X.1 X.2.1 dX8_init_43 rfl ?_
  obtain ⟨S10, hS10, hf⟩ := bn_ok hf
  refine r_callI (As := []) (rest := [.ref (B + (gZ S6)), .ref (B + x0)]) (st1 := [.ref (B + (gZ S6)), .ref (B + x0)]) X hw (c_Jl_init l D B cy A ad av true hTr h99 (gZ S6) hw.2.2.2.2.1 hw.2.2.2.2.2 trivial trivial hS10) ⟨rfl, rfl, Nat.le_of_ble_eq_true rfl, Nat.le_of_ble_eq_true rfl⟩ tw_51 tw_52 tw_20 tw_53 rfl hd_Jl_init rfl hl.1 rfl (Nat.le_of_ble_eq_true rfl) dX8_init_44 g7 rfl (fun H locs hw => ?_)
  obtain ⟨g11, hf⟩ := gd_ok hf
  obtain ⟨S12, eS12, hf⟩ := bn_ok hf
  replace eS12 := Option.some.inj eS12
  refine r_putR (v := (some (gZ S6))) X hw (κ := 9) rfl inlX8 tyX8 tyX8_ok nmX8 3 (by decide) rfl (by decide) tw_22 (Or.inr ⟨rfl, hnm, rfl⟩) g11 (by first | exact Or.inl ⟨_, rfl⟩ | exact Or.inr ⟨_, rfl⟩) trivial dX8_init_47 (fun H locs hw => ?_)
  rw [eS12] at hw
  refine lv_aload_n X.1 X.2.1 dX8_init_50 rfl (lv_at hl 0 rfl) ?_
  refine lv_bipush (v := 8) X.1 X.2.1 dX8_init_51 (by decide) ?_
  obtain ⟨g13, hf⟩ := gd_ok hf
  obtain ⟨g14, hf⟩ := gd_ok hf
  obtain ⟨S15, eS15, hf⟩ := bn_ok hf
  replace eS15 := Option.some.inj eS15
  refine r_newa (κ := 21) (atype := .int) (N := 8) X hw rfl (Or.inr (Or.inl ⟨rfl, rfl⟩)) tw_23 (by decide) (by decide) (by decide) (hA _ g14) trivial g13.1 g13.2 dX8_init_53 (fun H hw => ?_)
  rw [eS15] at hw
  obtain ⟨g16, hf⟩ := gd_ok hf
  obtain ⟨S17, eS17, hf⟩ := bn_ok hf
  replace eS17 := Option.some.inj eS17
  refine r_putR (v := (some (gZ S12))) X hw (κ := 9) rfl inlX8 tyX8 tyX8_ok nmX8 4 (by decide) rfl (by decide) tw_24 (Or.inr ⟨rfl, hnm, rfl⟩) g16 (by first | exact Or.inl ⟨_, rfl⟩ | exact Or.inr ⟨_, rfl⟩) trivial dX8_init_55 (fun H locs hw => ?_)
  rw [eS17] at hw
  exact w_X8_init_58 X hnm hA h99  _ _ _ _ _ _ _ hf hw (lv_sub hl [0] rfl) g13
theorem hd_X8_init : yX8_init.cls ≠ "java/lang/invoke/MethodHandle" ∧ yX8_init.cls ≠ "java/lang/invoke/VarHandle" ∧ (parseMethodDescriptor yX8_init.desc).map (fun d => d.parameters.length) = some 0 := by decide +kernel
set_option maxHeartbeats 4000000 in
theorem c_X8_init (l : Launch) (D : va_G) (B : Nat) (cy : Nat → ClassId) (A : Nat → Prop) (ad av : Nat → Nat) (hA : ∀ c, c < 24 → A (B + c)) (h99 : cy 99 = ad 9) (x0 : Nat) {S Z : HS} (hfr : hFr S) (hG : hTr S) (hf : fn_X8_init x0 S = some Z) : hMet l yX8_init cX8_init 1 none ({ frames := 4, cells := 23, slots := 7000, locals := 72 } : Room) D B cy A ad av true hTr [.ref (B + x0)] S Z none 23 7000 := by
  refine h_entry (by decide) hfr hG ?_
  intro p e s m below meth c args X hnm hw
  have hl := lv_entry ([.ref (B + x0)]) (n := 1) (Nat.le_of_ble_eq_true rfl)
  rw [lg_entry_eq]
  generalize (lg_sl ([.ref (B + x0)]) ++ List.replicate (1 - (lg_sl ([.ref (B + x0)])).length) Slot.unset).toArray = ls at hl ⊢
  have hl : lv_has ls 1 [(0, .ref (B + x0))] := hl
  unfold fn_X8_init at hf
  refine lv_aload_n X.1 X.2.1 dX8_init_0 rfl (lv_at hl 0 rfl) ?_
  refine r_objInit X tw_9 hl.1 (by decide) (Nat.le_of_ble_eq_true rfl) dX8_init_1 ?_
  refine lv_aload_n X.1 X.2.1 dX8_init_4 rfl (lv_at hl 0 rfl) ?_
  refine lv_sipush (v := 2000) X.1 X.2.1 dX8_init_5 (by decide) ?_
  obtain ⟨g1, hf⟩ := gd_ok hf
  obtain ⟨S2, eS2, hf⟩ := bn_ok hf
  replace eS2 := Option.some.inj eS2
  refine r_newa (κ := 20) (atype := .byte) (N := 2000) X hw rfl (Or.inl ⟨rfl, rfl⟩) tw_12 (by decide) (by decide) (by decide) (hA _ g1) trivial (show 0 + 1 ≤ 23 ∧ 0 + 2000 ≤ 7000 from ⟨Nat.le_of_ble_eq_true rfl, Nat.le_of_ble_eq_true rfl⟩).1 (show 0 + 1 ≤ 23 ∧ 0 + 2000 ≤ 7000 from ⟨Nat.le_of_ble_eq_true rfl, Nat.le_of_ble_eq_true rfl⟩).2 dX8_init_8 (fun H hw => ?_)
  rw [eS2] at hw
  obtain ⟨g3, hf⟩ := gd_ok hf
  obtain ⟨S4, eS4, hf⟩ := bn_ok hf
  replace eS4 := Option.some.inj eS4
  refine r_putR (v := (some (gZ S))) X hw (κ := 9) rfl inlX8 tyX8 tyX8_ok nmX8 0 (by decide) rfl (by decide) tw_13 (Or.inr ⟨rfl, hnm, rfl⟩) g3 (by first | exact Or.inl ⟨_, rfl⟩ | exact Or.inr ⟨_, rfl⟩) trivial dX8_init_10 (fun H locs hw => ?_)
  rw [eS4] at hw
  refine lv_aload_n X.1 X.2.1 dX8_init_13 rfl (lv_at hl 0 rfl) ?_
  obtain ⟨g5, hf⟩ := gd_ok hf
  obtain ⟨S6, eS6, hf⟩ := bn_ok hf
  replace eS6 := Option.some.inj eS6
  refine r_new (κ := 5) X hw rfl inlX4 tyX4 tyX4_ok (by decide) rfl hdef_5 tw_14 tw_15 tw_16 (hA _ g5) trivial (show 1 + 1 ≤ 23 ∧ 2000 + 8 ≤ 7000 from ⟨Nat.le_of_ble_eq_true rfl, Nat.le_of_ble_eq_true rfl⟩).1 (show 1 + 1 ≤ 23 ∧ 2000 + 8 ≤ 7000 from ⟨Nat.le_of_ble_eq_true rfl, Nat.le_of_ble_eq_true rfl⟩).2 dX8_init_14 (fun H hw => ?_)
  rw [eS6] at hw
  refine lv_dup X.1 X.2.1 dX8_init_17 rfl ?_
  refine lv_aload_n X.1 X.2.1 dX8_init_18 rfl (lv_at hl 0 rfl) ?_
  obtain ⟨g7, hf⟩ := gd_ok hf
  refine r_getR X hw (κ := 9) rfl inlX8 0 (by decide) rfl (by decide) tw_13 g7 dX8_init_19 ?_
  obtain ⟨c8, ec8, hf⟩ := bn_ok hf
  rw [ec8]
  obtain ⟨S9, hS9, hf⟩ := bn_ok hf
  refine r_callI (As := [.ref (B + c8)]) (rest := [.ref (B + (gZ S4)), .ref (B + x0)]) (st1 := [.ref (B + (gZ S4)), .ref (B + x0)]) X hw (c_X4_init l D B cy A ad av hA h99 (gZ S4) c8 hw.2.2.2.2.1 hw.2.2.2.2.2 hS9) ⟨rfl, rfl, Nat.le_of_ble_eq_true rfl, Nat.le_of_ble_eq_true rfl⟩ tw_43 tw_44 tw_16 tw_45 rfl hd_X4_init rfl hl.1 rfl (Nat.le_of_ble_eq_true rfl) dX8_init_22 ⟨Nat.le_of_ble_eq_true rfl, Nat.le_of_ble_eq_true rfl⟩ rfl (fun H locs hw => ?_)
  obtain ⟨g10, hf⟩ := gd_ok hf
  obtain ⟨S11, eS11, hf⟩ := bn_ok hf
  replace eS11 := Option.some.inj eS11
  refine r_putR (v := (some (gZ S4))) X hw (κ := 9) rfl inlX8 tyX8 tyX8_ok nmX8 1 (by decide) rfl (by decide) tw_17 (Or.inr ⟨rfl, hnm, rfl⟩) g10 (by first | exact Or.inl ⟨_, rfl⟩ | exact Or.inr ⟨_, rfl⟩) trivial dX8_init_25 (fun H locs hw => ?_)
  rw [eS11] at hw
  exact w_X8_init_28 X hnm hA h99  _ _ _ _ _ _ _ hf hw (lv_sub hl [0] rfl) ⟨Nat.le_of_ble_eq_true rfl, Nat.le_of_ble_eq_true rfl⟩
set_option maxHeartbeats 4000000 in
theorem w_X9_init_344 {p : Program} {l : Launch} {e : Env} {s : State} {m : MethodId} {args : Array Value} {below : List Frame} {meth : Method} {c : Code} {D : va_G} {B : Nat} {cy : Nat → ClassId} {A : Nat → Prop} {ad av : Nat → Nat} {Z : HS} (X : hCX p s m args meth c RX9 cX9_init 1 none D cy A ad av) (hnm : meth.name = "<init>") (hA : ∀ c, c < 41 → A (B + c)) (h99 : cy 99 = ad 9)  (x0 : Nat) (ca : Nat) (sl : Nat) (S : HS) (H : Heap) (locs : List Loc) (ls : Array Slot) (hf : fn_X9_init_344 x0 ca sl S = some Z) (hw : hWd D B cy A true hTr S s.heap H locs) (hl : lv_has ls 1 [(0, .ref (B + x0))]) (hb : ca ≤ 43 ∧ sl ≤ 20000) : W p l e ({ frames := 1, cells := 43, slots := 20000, locals := 20 } : Room) s m args below meth c H locs ca sl (MQ below (hQo D B cy A true hTr Z none) args s 43 20000 A) (F0 m 344 ls []) := by
  unfold fn_X9_init_344 at hf
  refine lv_aload_n X.1 X.2.1 dX9_init_344 rfl (lv_at hl 0 rfl) ?_
  refine lv_sipush (v := 624) X.1 X.2.1 dX9_init_345 (by decide) ?_
  obtain ⟨g1, hf⟩ := gd_ok hf
  obtain ⟨g2, hf⟩ := gd_ok hf
  obtain ⟨S3, eS3, hf⟩ := bn_ok hf
  replace eS3 := Option.some.inj eS3
  refine r_newa (κ := 21) (atype := .int) (N := 624) X hw rfl (Or.inr (Or.inl ⟨rfl, rfl⟩)) tw_23 (by decide) (by decide) (by decide) (hA _ g2) trivial g1.1 g1.2 dX9_init_348 (fun H hw => ?_)
  rw [eS3] at hw
  obtain ⟨g4, hf⟩ := gd_ok hf
  obtain ⟨S5, eS5, hf⟩ := bn_ok hf
  replace eS5 := Option.some.inj eS5
  refine r_putR (v := (some (gZ S))) X hw (κ := 10) rfl inlX9 tyX9 tyX9_ok nmX9 58 (by decide) rfl (by decide) tw_144 (Or.inr ⟨rfl, hnm, rfl⟩) g4 (by first | exact Or.inl ⟨_, rfl⟩ | exact Or.inr ⟨_, rfl⟩) trivial dX9_init_350 (fun H locs hw => ?_)
  rw [eS5] at hw
  refine W.widen (k := 43) (n := 20000) (show ca + 1 ≤ 43 ∧ sl + 624 ≤ 20000 from g1).1 (show ca + 1 ≤ 43 ∧ sl + 624 ≤ 20000 from g1).2 ?_
  cases hf
  exact r_vret X hw dX9_init_353
set_option maxHeartbeats 4000000 in
theorem w_X9_init_318 {p : Program} {l : Launch} {e : Env} {s : State} {m : MethodId} {args : Array Value} {below : List Frame} {meth : Method} {c : Code} {D : va_G} {B : Nat} {cy : Nat → ClassId} {A : Nat → Prop} {ad av : Nat → Nat} {Z : HS} (X : hCX p s m args meth c RX9 cX9_init 1 none D cy A ad av) (hnm : meth.name = "<init>") (hA : ∀ c, c < 41 → A (B + c)) (h99 : cy 99 = ad 9)  (x0 : Nat) (ca : Nat) (sl : Nat) (S : HS) (H : Heap) (locs : List Loc) (ls : Array Slot) (hf : fn_X9_init_318 x0 ca sl S = some Z) (hw : hWd D B cy A true hTr S s.heap H locs) (hl : lv_has ls 1 [(0, .ref (B + x0))]) (hb : ca ≤ 43 ∧ sl ≤ 20000) : W p l e ({ frames := 1, cells := 43, slots := 20000, locals := 20 } : Room) s m args below meth c H locs ca sl (MQ below (hQo D B cy A true hTr Z none) args s 43 20000 A) (F0 m 318 ls []) := by
  unfold fn_X9_init_318 at hf
  refine lv_aload_n X.1 X.2.1 dX9_init_318 rfl (lv_at hl 0 rfl) ?_
  refine lv_sipush (v := 320) X.1 X.2.1 dX9_init_319 (by decide) ?_
  obtain ⟨g1, hf⟩ := gd_ok hf
  obtain ⟨g2, hf⟩ := gd_ok hf
  obtain ⟨S3, eS3, hf⟩ := bn_ok hf
  replace eS3 := Option.some.inj eS3
  refine r_newa (κ := 21) (atype := .int) (N := 320) X hw rfl (Or.inr (Or.inl ⟨rfl, rfl⟩)) tw_23 (by decide) (by decide) (by decide) (hA _ g2) trivial g1.1 g1.2 dX9_init_322 (fun H hw => ?_)
  rw [eS3] at hw
  obtain ⟨g4, hf⟩ := gd_ok hf
  obtain ⟨S5, eS5, hf⟩ := bn_ok hf
  replace eS5 := Option.some.inj eS5
  refine r_putR (v := (some (gZ S))) X hw (κ := 10) rfl inlX9 tyX9 tyX9_ok nmX9 52 (by decide) rfl (by decide) tw_141 (Or.inr ⟨rfl, hnm, rfl⟩) g4 (by first | exact Or.inl ⟨_, rfl⟩ | exact Or.inr ⟨_, rfl⟩) trivial dX9_init_324 (fun H locs hw => ?_)
  rw [eS5] at hw
  refine lv_aload_n X.1 X.2.1 dX9_init_327 rfl (lv_at hl 0 rfl) ?_
  refine lv_sipush (v := 320) X.1 X.2.1 dX9_init_328 (by decide) ?_
  obtain ⟨g6, hf⟩ := gd_ok hf
  obtain ⟨g7, hf⟩ := gd_ok hf
  obtain ⟨S8, eS8, hf⟩ := bn_ok hf
  replace eS8 := Option.some.inj eS8
  refine r_newa (κ := 22) (atype := .long) (N := 320) X hw rfl (Or.inr (Or.inr (Or.inl ⟨rfl, rfl⟩))) tw_33 (by decide) (by decide) (by decide) (hA _ g7) trivial g6.1 g6.2 dX9_init_331 (fun H hw => ?_)
  rw [eS8] at hw
  obtain ⟨g9, hf⟩ := gd_ok hf
  obtain ⟨S10, eS10, hf⟩ := bn_ok hf
  replace eS10 := Option.some.inj eS10
  refine r_putR (v := (some (gZ S5))) X hw (κ := 10) rfl inlX9 tyX9 tyX9_ok nmX9 53 (by decide) rfl (by decide) tw_142 (Or.inr ⟨rfl, hnm, rfl⟩) g9 (by first | exact Or.inl ⟨_, rfl⟩ | exact Or.inr ⟨_, rfl⟩) trivial dX9_init_333 (fun H locs hw => ?_)
  rw [eS10] at hw
  refine lv_aload_n X.1 X.2.1 dX9_init_336 rfl (lv_at hl 0 rfl) ?_
  refine lv_bipush (v := 112) X.1 X.2.1 dX9_init_337 (by decide) ?_
  obtain ⟨g11, hf⟩ := gd_ok hf
  obtain ⟨g12, hf⟩ := gd_ok hf
  obtain ⟨S13, eS13, hf⟩ := bn_ok hf
  replace eS13 := Option.some.inj eS13
  refine r_newa (κ := 21) (atype := .int) (N := 112) X hw rfl (Or.inr (Or.inl ⟨rfl, rfl⟩)) tw_23 (by decide) (by decide) (by decide) (hA _ g12) trivial g11.1 g11.2 dX9_init_339 (fun H hw => ?_)
  rw [eS13] at hw
  obtain ⟨g14, hf⟩ := gd_ok hf
  obtain ⟨S15, eS15, hf⟩ := bn_ok hf
  replace eS15 := Option.some.inj eS15
  refine r_putR (v := (some (gZ S10))) X hw (κ := 10) rfl inlX9 tyX9 tyX9_ok nmX9 56 (by decide) rfl (by decide) tw_143 (Or.inr ⟨rfl, hnm, rfl⟩) g14 (by first | exact Or.inl ⟨_, rfl⟩ | exact Or.inr ⟨_, rfl⟩) trivial dX9_init_341 (fun H locs hw => ?_)
  rw [eS15] at hw
  exact w_X9_init_344 X hnm hA h99  _ _ _ _ _ _ _ hf hw (lv_sub hl [0] rfl) g11
set_option maxHeartbeats 4000000 in
theorem w_X9_init_291 {p : Program} {l : Launch} {e : Env} {s : State} {m : MethodId} {args : Array Value} {below : List Frame} {meth : Method} {c : Code} {D : va_G} {B : Nat} {cy : Nat → ClassId} {A : Nat → Prop} {ad av : Nat → Nat} {Z : HS} (X : hCX p s m args meth c RX9 cX9_init 1 none D cy A ad av) (hnm : meth.name = "<init>") (hA : ∀ c, c < 41 → A (B + c)) (h99 : cy 99 = ad 9)  (x0 : Nat) (ca : Nat) (sl : Nat) (S : HS) (H : Heap) (locs : List Loc) (ls : Array Slot) (hf : fn_X9_init_291 x0 ca sl S = some Z) (hw : hWd D B cy A true hTr S s.heap H locs) (hl : lv_has ls 1 [(0, .ref (B + x0))]) (hb : ca ≤ 43 ∧ sl ≤ 20000) : W p l e ({ frames := 1, cells := 43, slots := 20000, locals := 20 } : Room) s m args below meth c H locs ca sl (MQ below (hQo D B cy A true hTr Z none) args s 43 20000 A) (F0 m 291 ls []) := by
  unfold fn_X9_init_291 at hf
  refine lv_aload_n X.1 X.2.1 dX9_init_291 rfl (lv_at hl 0 rfl) ?_
  refine lv_sipush (v := 320) X.1 X.2.1 dX9_init_292 (by decide) ?_
  obtain ⟨g1, hf⟩ := gd_ok hf
  obtain ⟨g2, hf⟩ := gd_ok hf
  obtain ⟨S3, eS3, hf⟩ := bn_ok hf
  replace eS3 := Option.some.inj eS3
  refine r_newa (κ := 22) (atype := .long) (N := 320) X hw rfl (Or.inr (Or.inr (Or.inl ⟨rfl, rfl⟩))) tw_33 (by decide) (by decide) (by decide) (hA _ g2) trivial g1.1 g1.2 dX9_init_295 (fun H hw => ?_)
  rw [eS3] at hw
  obtain ⟨g4, hf⟩ := gd_ok hf
  obtain ⟨S5, eS5, hf⟩ := bn_ok hf
  replace eS5 := Option.some.inj eS5
  refine r_putR (v := (some (gZ S))) X hw (κ := 10) rfl inlX9 tyX9 tyX9_ok nmX9 49 (by decide) rfl (by decide) tw_138 (Or.inr ⟨rfl, hnm, rfl⟩) g4 (by first | exact Or.inl ⟨_, rfl⟩ | exact Or.inr ⟨_, rfl⟩) trivial dX9_init_297 (fun H locs hw => ?_)
  rw [eS5] at hw
  refine lv_aload_n X.1 X.2.1 dX9_init_300 rfl (lv_at hl 0 rfl) ?_
  refine lv_sipush (v := 320) X.1 X.2.1 dX9_init_301 (by decide) ?_
  obtain ⟨g6, hf⟩ := gd_ok hf
  obtain ⟨g7, hf⟩ := gd_ok hf
  obtain ⟨S8, eS8, hf⟩ := bn_ok hf
  replace eS8 := Option.some.inj eS8
  refine r_newa (κ := 22) (atype := .long) (N := 320) X hw rfl (Or.inr (Or.inr (Or.inl ⟨rfl, rfl⟩))) tw_33 (by decide) (by decide) (by decide) (hA _ g7) trivial g6.1 g6.2 dX9_init_304 (fun H hw => ?_)
  rw [eS8] at hw
  obtain ⟨g9, hf⟩ := gd_ok hf
  obtain ⟨S10, eS10, hf⟩ := bn_ok hf
  replace eS10 := Option.some.inj eS10
  refine r_putR (v := (some (gZ S5))) X hw (κ := 10) rfl inlX9 tyX9 tyX9_ok nmX9 50 (by decide) rfl (by decide) tw_139 (Or.inr ⟨rfl, hnm, rfl⟩) g9 (by first | exact Or.inl ⟨_, rfl⟩ | exact Or.inr ⟨_, rfl⟩) trivial dX9_init_306 (fun H locs hw => ?_)
  rw [eS10] at hw
  refine lv_aload_n X.1 X.2.1 dX9_init_309 rfl (lv_at hl 0 rfl) ?_
  refine lv_sipush (v := 320) X.1 X.2.1 dX9_init_310 (by decide) ?_
  obtain ⟨g11, hf⟩ := gd_ok hf
  obtain ⟨g12, hf⟩ := gd_ok hf
  obtain ⟨S13, eS13, hf⟩ := bn_ok hf
  replace eS13 := Option.some.inj eS13
  refine r_newa (κ := 21) (atype := .int) (N := 320) X hw rfl (Or.inr (Or.inl ⟨rfl, rfl⟩)) tw_23 (by decide) (by decide) (by decide) (hA _ g12) trivial g11.1 g11.2 dX9_init_313 (fun H hw => ?_)
  rw [eS13] at hw
  obtain ⟨g14, hf⟩ := gd_ok hf
  obtain ⟨S15, eS15, hf⟩ := bn_ok hf
  replace eS15 := Option.some.inj eS15
  refine r_putR (v := (some (gZ S10))) X hw (κ := 10) rfl inlX9 tyX9 tyX9_ok nmX9 51 (by decide) rfl (by decide) tw_140 (Or.inr ⟨rfl, hnm, rfl⟩) g14 (by first | exact Or.inl ⟨_, rfl⟩ | exact Or.inr ⟨_, rfl⟩) trivial dX9_init_315 (fun H locs hw => ?_)
  rw [eS15] at hw
  exact w_X9_init_318 X hnm hA h99  _ _ _ _ _ _ _ hf hw (lv_sub hl [0] rfl) g11
set_option maxHeartbeats 4000000 in
theorem w_X9_init_267 {p : Program} {l : Launch} {e : Env} {s : State} {m : MethodId} {args : Array Value} {below : List Frame} {meth : Method} {c : Code} {D : va_G} {B : Nat} {cy : Nat → ClassId} {A : Nat → Prop} {ad av : Nat → Nat} {Z : HS} (X : hCX p s m args meth c RX9 cX9_init 1 none D cy A ad av) (hnm : meth.name = "<init>") (hA : ∀ c, c < 41 → A (B + c)) (h99 : cy 99 = ad 9)  (x0 : Nat) (ca : Nat) (sl : Nat) (S : HS) (H : Heap) (locs : List Loc) (ls : Array Slot) (hf : fn_X9_init_267 x0 ca sl S = some Z) (hw : hWd D B cy A true hTr S s.heap H locs) (hl : lv_has ls 1 [(0, .ref (B + x0))]) (hb : ca ≤ 43 ∧ sl ≤ 20000) : W p l e ({ frames := 1, cells := 43, slots := 20000, locals := 20 } : Room) s m args below meth c H locs ca sl (MQ below (hQo D B cy A true hTr Z none) args s 43 20000 A) (F0 m 267 ls []) := by
  unfold fn_X9_init_267 at hf
  refine lv_aload_n X.1 X.2.1 dX9_init_267 rfl (lv_at hl 0 rfl) ?_
  refine lv_bipush (v := 8) X.1 X.2.1 dX9_init_268 (by decide) ?_
  obtain ⟨g1, hf⟩ := gd_ok hf
  obtain ⟨g2, hf⟩ := gd_ok hf
  obtain ⟨S3, eS3, hf⟩ := bn_ok hf
  replace eS3 := Option.some.inj eS3
  refine r_newa (κ := 21) (atype := .int) (N := 8) X hw rfl (Or.inr (Or.inl ⟨rfl, rfl⟩)) tw_23 (by decide) (by decide) (by decide) (hA _ g2) trivial g1.1 g1.2 dX9_init_270 (fun H hw => ?_)
  rw [eS3] at hw
  obtain ⟨g4, hf⟩ := gd_ok hf
  obtain ⟨S5, eS5, hf⟩ := bn_ok hf
  replace eS5 := Option.some.inj eS5
  refine r_putR (v := (some (gZ S))) X hw (κ := 10) rfl inlX9 tyX9 tyX9_ok nmX9 46 (by decide) rfl (by decide) tw_135 (Or.inr ⟨rfl, hnm, rfl⟩) g4 (by first | exact Or.inl ⟨_, rfl⟩ | exact Or.inr ⟨_, rfl⟩) trivial dX9_init_272 (fun H locs hw => ?_)
  rw [eS5] at hw
  refine lv_aload_n X.1 X.2.1 dX9_init_275 rfl (lv_at hl 0 rfl) ?_
  refine lv_bipush (v := 8) X.1 X.2.1 dX9_init_276 (by decide) ?_
  obtain ⟨g6, hf⟩ := gd_ok hf
  obtain ⟨g7, hf⟩ := gd_ok hf
  obtain ⟨S8, eS8, hf⟩ := bn_ok hf
  replace eS8 := Option.some.inj eS8
  refine r_newa (κ := 21) (atype := .int) (N := 8) X hw rfl (Or.inr (Or.inl ⟨rfl, rfl⟩)) tw_23 (by decide) (by decide) (by decide) (hA _ g7) trivial g6.1 g6.2 dX9_init_278 (fun H hw => ?_)
  rw [eS8] at hw
  obtain ⟨g9, hf⟩ := gd_ok hf
  obtain ⟨S10, eS10, hf⟩ := bn_ok hf
  replace eS10 := Option.some.inj eS10
  refine r_putR (v := (some (gZ S5))) X hw (κ := 10) rfl inlX9 tyX9 tyX9_ok nmX9 47 (by decide) rfl (by decide) tw_136 (Or.inr ⟨rfl, hnm, rfl⟩) g9 (by first | exact Or.inl ⟨_, rfl⟩ | exact Or.inr ⟨_, rfl⟩) trivial dX9_init_280 (fun H locs hw => ?_)
  rw [eS10] at hw
  refine lv_aload_n X.1 X.2.1 dX9_init_283 rfl (lv_at hl 0 rfl) ?_
  refine lv_bipush (v := 8) X.1 X.2.1 dX9_init_284 (by decide) ?_
  obtain ⟨g11, hf⟩ := gd_ok hf
  obtain ⟨g12, hf⟩ := gd_ok hf
  obtain ⟨S13, eS13, hf⟩ := bn_ok hf
  replace eS13 := Option.some.inj eS13
  refine r_newa (κ := 23) (atype := .boolean) (N := 8) X hw rfl (Or.inr (Or.inr (Or.inr ⟨rfl, rfl⟩))) tw_47 (by decide) (by decide) (by decide) (hA _ g12) trivial g11.1 g11.2 dX9_init_286 (fun H hw => ?_)
  rw [eS13] at hw
  obtain ⟨g14, hf⟩ := gd_ok hf
  obtain ⟨S15, eS15, hf⟩ := bn_ok hf
  replace eS15 := Option.some.inj eS15
  refine r_putR (v := (some (gZ S10))) X hw (κ := 10) rfl inlX9 tyX9 tyX9_ok nmX9 48 (by decide) rfl (by decide) tw_137 (Or.inr ⟨rfl, hnm, rfl⟩) g14 (by first | exact Or.inl ⟨_, rfl⟩ | exact Or.inr ⟨_, rfl⟩) trivial dX9_init_288 (fun H locs hw => ?_)
  rw [eS15] at hw
  exact w_X9_init_291 X hnm hA h99  _ _ _ _ _ _ _ hf hw (lv_sub hl [0] rfl) g11
set_option maxHeartbeats 4000000 in
theorem w_X9_init_243 {p : Program} {l : Launch} {e : Env} {s : State} {m : MethodId} {args : Array Value} {below : List Frame} {meth : Method} {c : Code} {D : va_G} {B : Nat} {cy : Nat → ClassId} {A : Nat → Prop} {ad av : Nat → Nat} {Z : HS} (X : hCX p s m args meth c RX9 cX9_init 1 none D cy A ad av) (hnm : meth.name = "<init>") (hA : ∀ c, c < 41 → A (B + c)) (h99 : cy 99 = ad 9)  (x0 : Nat) (ca : Nat) (sl : Nat) (S : HS) (H : Heap) (locs : List Loc) (ls : Array Slot) (hf : fn_X9_init_243 x0 ca sl S = some Z) (hw : hWd D B cy A true hTr S s.heap H locs) (hl : lv_has ls 1 [(0, .ref (B + x0))]) (hb : ca ≤ 43 ∧ sl ≤ 20000) : W p l e ({ frames := 1, cells := 43, slots := 20000, locals := 20 } : Room) s m args below meth c H locs ca sl (MQ below (hQo D B cy A true hTr Z none) args s 43 20000 A) (F0 m 243 ls []) := by
  unfold fn_X9_init_243 at hf
  refine lv_aload_n X.1 X.2.1 dX9_init_243 rfl (lv_at hl 0 rfl) ?_
  refine lv_bipush (v := 8) X.1 X.2.1 dX9_init_244 (by decide) ?_
  obtain ⟨g1, hf⟩ := gd_ok hf
  obtain ⟨g2, hf⟩ := gd_ok hf
  obtain ⟨S3, eS3, hf⟩ := bn_ok hf
  replace eS3 := Option.some.inj eS3
  refine r_newa (κ := 21) (atype := .int) (N := 8) X hw rfl (Or.inr (Or.inl ⟨rfl, rfl⟩)) tw_23 (by decide) (by decide) (by decide) (hA _ g2) trivial g1.1 g1.2 dX9_init_246 (fun H hw => ?_)
  rw [eS3] at hw
  obtain ⟨g4, hf⟩ := gd_ok hf
  obtain ⟨S5, eS5, hf⟩ := bn_ok hf
  replace eS5 := Option.some.inj eS5
  refine r_putR (v := (some (gZ S))) X hw (κ := 10) rfl inlX9 tyX9 tyX9_ok nmX9 43 (by decide) rfl (by decide) tw_132 (Or.inr ⟨rfl, hnm, rfl⟩) g4 (by first | exact Or.inl ⟨_, rfl⟩ | exact Or.inr ⟨_, rfl⟩) trivial dX9_init_248 (fun H locs hw => ?_)
  rw [eS5] at hw
  refine lv_aload_n X.1 X.2.1 dX9_init_251 rfl (lv_at hl 0 rfl) ?_
  refine lv_bipush (v := 8) X.1 X.2.1 dX9_init_252 (by decide) ?_
  obtain ⟨g6, hf⟩ := gd_ok hf
  obtain ⟨g7, hf⟩ := gd_ok hf
  obtain ⟨S8, eS8, hf⟩ := bn_ok hf
  replace eS8 := Option.some.inj eS8
  refine r_newa (κ := 21) (atype := .int) (N := 8) X hw rfl (Or.inr (Or.inl ⟨rfl, rfl⟩)) tw_23 (by decide) (by decide) (by decide) (hA _ g7) trivial g6.1 g6.2 dX9_init_254 (fun H hw => ?_)
  rw [eS8] at hw
  obtain ⟨g9, hf⟩ := gd_ok hf
  obtain ⟨S10, eS10, hf⟩ := bn_ok hf
  replace eS10 := Option.some.inj eS10
  refine r_putR (v := (some (gZ S5))) X hw (κ := 10) rfl inlX9 tyX9 tyX9_ok nmX9 44 (by decide) rfl (by decide) tw_133 (Or.inr ⟨rfl, hnm, rfl⟩) g9 (by first | exact Or.inl ⟨_, rfl⟩ | exact Or.inr ⟨_, rfl⟩) trivial dX9_init_256 (fun H locs hw => ?_)
  rw [eS10] at hw
  refine lv_aload_n X.1 X.2.1 dX9_init_259 rfl (lv_at hl 0 rfl) ?_
  refine lv_bipush (v := 8) X.1 X.2.1 dX9_init_260 (by decide) ?_
  obtain ⟨g11, hf⟩ := gd_ok hf
  obtain ⟨g12, hf⟩ := gd_ok hf
  obtain ⟨S13, eS13, hf⟩ := bn_ok hf
  replace eS13 := Option.some.inj eS13
  refine r_newa (κ := 21) (atype := .int) (N := 8) X hw rfl (Or.inr (Or.inl ⟨rfl, rfl⟩)) tw_23 (by decide) (by decide) (by decide) (hA _ g12) trivial g11.1 g11.2 dX9_init_262 (fun H hw => ?_)
  rw [eS13] at hw
  obtain ⟨g14, hf⟩ := gd_ok hf
  obtain ⟨S15, eS15, hf⟩ := bn_ok hf
  replace eS15 := Option.some.inj eS15
  refine r_putR (v := (some (gZ S10))) X hw (κ := 10) rfl inlX9 tyX9 tyX9_ok nmX9 45 (by decide) rfl (by decide) tw_134 (Or.inr ⟨rfl, hnm, rfl⟩) g14 (by first | exact Or.inl ⟨_, rfl⟩ | exact Or.inr ⟨_, rfl⟩) trivial dX9_init_264 (fun H locs hw => ?_)
  rw [eS15] at hw
  exact w_X9_init_267 X hnm hA h99  _ _ _ _ _ _ _ hf hw (lv_sub hl [0] rfl) g11
set_option maxHeartbeats 4000000 in
theorem w_X9_init_219 {p : Program} {l : Launch} {e : Env} {s : State} {m : MethodId} {args : Array Value} {below : List Frame} {meth : Method} {c : Code} {D : va_G} {B : Nat} {cy : Nat → ClassId} {A : Nat → Prop} {ad av : Nat → Nat} {Z : HS} (X : hCX p s m args meth c RX9 cX9_init 1 none D cy A ad av) (hnm : meth.name = "<init>") (hA : ∀ c, c < 41 → A (B + c)) (h99 : cy 99 = ad 9)  (x0 : Nat) (ca : Nat) (sl : Nat) (S : HS) (H : Heap) (locs : List Loc) (ls : Array Slot) (hf : fn_X9_init_219 x0 ca sl S = some Z) (hw : hWd D B cy A true hTr S s.heap H locs) (hl : lv_has ls 1 [(0, .ref (B + x0))]) (hb : ca ≤ 43 ∧ sl ≤ 20000) : W p l e ({ frames := 1, cells := 43, slots := 20000, locals := 20 } : Room) s m args below meth c H locs ca sl (MQ below (hQo D B cy A true hTr Z none) args s 43 20000 A) (F0 m 219 ls []) := by
  unfold fn_X9_init_219 at hf
  refine lv_aload_n X.1 X.2.1 dX9_init_219 rfl (lv_at hl 0 rfl) ?_
  refine lv_bipush (v := 8) X.1 X.2.1 dX9_init_220 (by decide) ?_
  obtain ⟨g1, hf⟩ := gd_ok hf
  obtain ⟨g2, hf⟩ := gd_ok hf
  obtain ⟨S3, eS3, hf⟩ := bn_ok hf
  replace eS3 := Option.some.inj eS3
  refine r_newa (κ := 21) (atype := .int) (N := 8) X hw rfl (Or.inr (Or.inl ⟨rfl, rfl⟩)) tw_23 (by decide) (by decide) (by decide) (hA _ g2) trivial g1.1 g1.2 dX9_init_222 (fun H hw => ?_)
  rw [eS3] at hw
  obtain ⟨g4, hf⟩ := gd_ok hf
  obtain ⟨S5, eS5, hf⟩ := bn_ok hf
  replace eS5 := Option.some.inj eS5
  refine r_putR (v := (some (gZ S))) X hw (κ := 10) rfl inlX9 tyX9 tyX9_ok nmX9 40 (by decide) rfl (by decide) tw_129 (Or.inr ⟨rfl, hnm, rfl⟩) g4 (by first | exact Or.inl ⟨_, rfl⟩ | exact Or.inr ⟨_, rfl⟩) trivial dX9_init_224 (fun H locs hw => ?_)
  rw [eS5] at hw
  refine lv_aload_n X.1 X.2.1 dX9_init_227 rfl (lv_at hl 0 rfl) ?_
  refine lv_bipush (v := 8) X.1 X.2.1 dX9_init_228 (by decide) ?_
  obtain ⟨g6, hf⟩ := gd_ok hf
  obtain ⟨g7, hf⟩ := gd_ok hf
  obtain ⟨S8, eS8, hf⟩ := bn_ok hf
  replace eS8 := Option.some.inj eS8
  refine r_newa (κ := 21) (atype := .int) (N := 8) X hw rfl (Or.inr (Or.inl ⟨rfl, rfl⟩)) tw_23 (by decide) (by decide) (by decide) (hA _ g7) trivial g6.1 g6.2 dX9_init_230 (fun H hw => ?_)
  rw [eS8] at hw
  obtain ⟨g9, hf⟩ := gd_ok hf
  obtain ⟨S10, eS10, hf⟩ := bn_ok hf
  replace eS10 := Option.some.inj eS10
  refine r_putR (v := (some (gZ S5))) X hw (κ := 10) rfl inlX9 tyX9 tyX9_ok nmX9 41 (by decide) rfl (by decide) tw_130 (Or.inr ⟨rfl, hnm, rfl⟩) g9 (by first | exact Or.inl ⟨_, rfl⟩ | exact Or.inr ⟨_, rfl⟩) trivial dX9_init_232 (fun H locs hw => ?_)
  rw [eS10] at hw
  refine lv_aload_n X.1 X.2.1 dX9_init_235 rfl (lv_at hl 0 rfl) ?_
  refine lv_bipush (v := 8) X.1 X.2.1 dX9_init_236 (by decide) ?_
  obtain ⟨g11, hf⟩ := gd_ok hf
  obtain ⟨g12, hf⟩ := gd_ok hf
  obtain ⟨S13, eS13, hf⟩ := bn_ok hf
  replace eS13 := Option.some.inj eS13
  refine r_newa (κ := 21) (atype := .int) (N := 8) X hw rfl (Or.inr (Or.inl ⟨rfl, rfl⟩)) tw_23 (by decide) (by decide) (by decide) (hA _ g12) trivial g11.1 g11.2 dX9_init_238 (fun H hw => ?_)
  rw [eS13] at hw
  obtain ⟨g14, hf⟩ := gd_ok hf
  obtain ⟨S15, eS15, hf⟩ := bn_ok hf
  replace eS15 := Option.some.inj eS15
  refine r_putR (v := (some (gZ S10))) X hw (κ := 10) rfl inlX9 tyX9 tyX9_ok nmX9 42 (by decide) rfl (by decide) tw_131 (Or.inr ⟨rfl, hnm, rfl⟩) g14 (by first | exact Or.inl ⟨_, rfl⟩ | exact Or.inr ⟨_, rfl⟩) trivial dX9_init_240 (fun H locs hw => ?_)
  rw [eS15] at hw
  exact w_X9_init_243 X hnm hA h99  _ _ _ _ _ _ _ hf hw (lv_sub hl [0] rfl) g11
set_option maxHeartbeats 4000000 in
theorem w_X9_init_194 {p : Program} {l : Launch} {e : Env} {s : State} {m : MethodId} {args : Array Value} {below : List Frame} {meth : Method} {c : Code} {D : va_G} {B : Nat} {cy : Nat → ClassId} {A : Nat → Prop} {ad av : Nat → Nat} {Z : HS} (X : hCX p s m args meth c RX9 cX9_init 1 none D cy A ad av) (hnm : meth.name = "<init>") (hA : ∀ c, c < 41 → A (B + c)) (h99 : cy 99 = ad 9)  (x0 : Nat) (ca : Nat) (sl : Nat) (S : HS) (H : Heap) (locs : List Loc) (ls : Array Slot) (hf : fn_X9_init_194 x0 ca sl S = some Z) (hw : hWd D B cy A true hTr S s.heap H locs) (hl : lv_has ls 1 [(0, .ref (B + x0))]) (hb : ca ≤ 43 ∧ sl ≤ 20000) : W p l e ({ frames := 1, cells := 43, slots := 20000, locals := 20 } : Room) s m args below meth c H locs ca sl (MQ below (hQo D B cy A true hTr Z none) args s 43 20000 A) (F0 m 194 ls []) := by
  unfold fn_X9_init_194 at hf
  refine lv_aload_n X.1 X.2.1 dX9_init_194 rfl (lv_at hl 0 rfl) ?_
  refine lv_sipush (v := 156) X.1 X.2.1 dX9_init_195 (by decide) ?_
  obtain ⟨g1, hf⟩ := gd_ok hf
  obtain ⟨g2, hf⟩ := gd_ok hf
  obtain ⟨S3, eS3, hf⟩ := bn_ok hf
  replace eS3 := Option.some.inj eS3
  refine r_newa (κ := 21) (atype := .int) (N := 156) X hw rfl (Or.inr (Or.inl ⟨rfl, rfl⟩)) tw_23 (by decide) (by decide) (by decide) (hA _ g2) trivial g1.1 g1.2 dX9_init_198 (fun H hw => ?_)
  rw [eS3] at hw
  obtain ⟨g4, hf⟩ := gd_ok hf
  obtain ⟨S5, eS5, hf⟩ := bn_ok hf
  replace eS5 := Option.some.inj eS5
  refine r_putR (v := (some (gZ S))) X hw (κ := 10) rfl inlX9 tyX9 tyX9_ok nmX9 37 (by decide) rfl (by decide) tw_126 (Or.inr ⟨rfl, hnm, rfl⟩) g4 (by first | exact Or.inl ⟨_, rfl⟩ | exact Or.inr ⟨_, rfl⟩) trivial dX9_init_200 (fun H locs hw => ?_)
  rw [eS5] at hw
  refine lv_aload_n X.1 X.2.1 dX9_init_203 rfl (lv_at hl 0 rfl) ?_
  refine lv_bipush (v := 72) X.1 X.2.1 dX9_init_204 (by decide) ?_
  obtain ⟨g6, hf⟩ := gd_ok hf
  obtain ⟨g7, hf⟩ := gd_ok hf
  obtain ⟨S8, eS8, hf⟩ := bn_ok hf
  replace eS8 := Option.some.inj eS8
  refine r_newa (κ := 21) (atype := .int) (N := 72) X hw rfl (Or.inr (Or.inl ⟨rfl, rfl⟩)) tw_23 (by decide) (by decide) (by decide) (hA _ g7) trivial g6.1 g6.2 dX9_init_206 (fun H hw => ?_)
  rw [eS8] at hw
  obtain ⟨g9, hf⟩ := gd_ok hf
  obtain ⟨S10, eS10, hf⟩ := bn_ok hf
  replace eS10 := Option.some.inj eS10
  refine r_putR (v := (some (gZ S5))) X hw (κ := 10) rfl inlX9 tyX9 tyX9_ok nmX9 38 (by decide) rfl (by decide) tw_127 (Or.inr ⟨rfl, hnm, rfl⟩) g9 (by first | exact Or.inl ⟨_, rfl⟩ | exact Or.inr ⟨_, rfl⟩) trivial dX9_init_208 (fun H locs hw => ?_)
  rw [eS10] at hw
  refine lv_aload_n X.1 X.2.1 dX9_init_211 rfl (lv_at hl 0 rfl) ?_
  refine lv_bipush (v := 8) X.1 X.2.1 dX9_init_212 (by decide) ?_
  obtain ⟨g11, hf⟩ := gd_ok hf
  obtain ⟨g12, hf⟩ := gd_ok hf
  obtain ⟨S13, eS13, hf⟩ := bn_ok hf
  replace eS13 := Option.some.inj eS13
  refine r_newa (κ := 21) (atype := .int) (N := 8) X hw rfl (Or.inr (Or.inl ⟨rfl, rfl⟩)) tw_23 (by decide) (by decide) (by decide) (hA _ g12) trivial g11.1 g11.2 dX9_init_214 (fun H hw => ?_)
  rw [eS13] at hw
  obtain ⟨g14, hf⟩ := gd_ok hf
  obtain ⟨S15, eS15, hf⟩ := bn_ok hf
  replace eS15 := Option.some.inj eS15
  refine r_putR (v := (some (gZ S10))) X hw (κ := 10) rfl inlX9 tyX9 tyX9_ok nmX9 39 (by decide) rfl (by decide) tw_128 (Or.inr ⟨rfl, hnm, rfl⟩) g14 (by first | exact Or.inl ⟨_, rfl⟩ | exact Or.inr ⟨_, rfl⟩) trivial dX9_init_216 (fun H locs hw => ?_)
  rw [eS15] at hw
  exact w_X9_init_219 X hnm hA h99  _ _ _ _ _ _ _ hf hw (lv_sub hl [0] rfl) g11
set_option maxHeartbeats 4000000 in
theorem w_X9_init_167 {p : Program} {l : Launch} {e : Env} {s : State} {m : MethodId} {args : Array Value} {below : List Frame} {meth : Method} {c : Code} {D : va_G} {B : Nat} {cy : Nat → ClassId} {A : Nat → Prop} {ad av : Nat → Nat} {Z : HS} (X : hCX p s m args meth c RX9 cX9_init 1 none D cy A ad av) (hnm : meth.name = "<init>") (hA : ∀ c, c < 41 → A (B + c)) (h99 : cy 99 = ad 9)  (x0 : Nat) (ca : Nat) (sl : Nat) (S : HS) (H : Heap) (locs : List Loc) (ls : Array Slot) (hf : fn_X9_init_167 x0 ca sl S = some Z) (hw : hWd D B cy A true hTr S s.heap H locs) (hl : lv_has ls 1 [(0, .ref (B + x0))]) (hb : ca ≤ 43 ∧ sl ≤ 20000) : W p l e ({ frames := 1, cells := 43, slots := 20000, locals := 20 } : Room) s m args below meth c H locs ca sl (MQ below (hQo D B cy A true hTr Z none) args s 43 20000 A) (F0 m 167 ls []) := by
  unfold fn_X9_init_167 at hf
  refine lv_aload_n X.1 X.2.1 dX9_init_167 rfl (lv_at hl 0 rfl) ?_
  refine lv_sipush (v := 200) X.1 X.2.1 dX9_init_168 (by decide) ?_
  obtain ⟨g1, hf⟩ := gd_ok hf
  obtain ⟨g2, hf⟩ := gd_ok hf
  obtain ⟨S3, eS3, hf⟩ := bn_ok hf
  replace eS3 := Option.some.inj eS3
  refine r_newa (κ := 21) (atype := .int) (N := 200) X hw rfl (Or.inr (Or.inl ⟨rfl, rfl⟩)) tw_23 (by decide) (by decide) (by decide) (hA _ g2) trivial g1.1 g1.2 dX9_init_171 (fun H hw => ?_)
  rw [eS3] at hw
  obtain ⟨g4, hf⟩ := gd_ok hf
  obtain ⟨S5, eS5, hf⟩ := bn_ok hf
  replace eS5 := Option.some.inj eS5
  refine r_putR (v := (some (gZ S))) X hw (κ := 10) rfl inlX9 tyX9 tyX9_ok nmX9 33 (by decide) rfl (by decide) tw_123 (Or.inr ⟨rfl, hnm, rfl⟩) g4 (by first | exact Or.inl ⟨_, rfl⟩ | exact Or.inr ⟨_, rfl⟩) trivial dX9_init_173 (fun H locs hw => ?_)
  rw [eS5] at hw
  refine lv_aload_n X.1 X.2.1 dX9_init_176 rfl (lv_at hl 0 rfl) ?_
  refine lv_sipush (v := 156) X.1 X.2.1 dX9_init_177 (by decide) ?_
  obtain ⟨g6, hf⟩ := gd_ok hf
  obtain ⟨g7, hf⟩ := gd_ok hf
  obtain ⟨S8, eS8, hf⟩ := bn_ok hf
  replace eS8 := Option.some.inj eS8
  refine r_newa (κ := 21) (atype := .int) (N := 156) X hw rfl (Or.inr (Or.inl ⟨rfl, rfl⟩)) tw_23 (by decide) (by decide) (by decide) (hA _ g7) trivial g6.1 g6.2 dX9_init_180 (fun H hw => ?_)
  rw [eS8] at hw
  obtain ⟨g9, hf⟩ := gd_ok hf
  obtain ⟨S10, eS10, hf⟩ := bn_ok hf
  replace eS10 := Option.some.inj eS10
  refine r_putR (v := (some (gZ S5))) X hw (κ := 10) rfl inlX9 tyX9 tyX9_ok nmX9 35 (by decide) rfl (by decide) tw_124 (Or.inr ⟨rfl, hnm, rfl⟩) g9 (by first | exact Or.inl ⟨_, rfl⟩ | exact Or.inr ⟨_, rfl⟩) trivial dX9_init_182 (fun H locs hw => ?_)
  rw [eS10] at hw
  refine lv_aload_n X.1 X.2.1 dX9_init_185 rfl (lv_at hl 0 rfl) ?_
  refine lv_sipush (v := 156) X.1 X.2.1 dX9_init_186 (by decide) ?_
  obtain ⟨g11, hf⟩ := gd_ok hf
  obtain ⟨g12, hf⟩ := gd_ok hf
  obtain ⟨S13, eS13, hf⟩ := bn_ok hf
  replace eS13 := Option.some.inj eS13
  refine r_newa (κ := 21) (atype := .int) (N := 156) X hw rfl (Or.inr (Or.inl ⟨rfl, rfl⟩)) tw_23 (by decide) (by decide) (by decide) (hA _ g12) trivial g11.1 g11.2 dX9_init_189 (fun H hw => ?_)
  rw [eS13] at hw
  obtain ⟨g14, hf⟩ := gd_ok hf
  obtain ⟨S15, eS15, hf⟩ := bn_ok hf
  replace eS15 := Option.some.inj eS15
  refine r_putR (v := (some (gZ S10))) X hw (κ := 10) rfl inlX9 tyX9 tyX9_ok nmX9 36 (by decide) rfl (by decide) tw_125 (Or.inr ⟨rfl, hnm, rfl⟩) g14 (by first | exact Or.inl ⟨_, rfl⟩ | exact Or.inr ⟨_, rfl⟩) trivial dX9_init_191 (fun H locs hw => ?_)
  rw [eS15] at hw
  exact w_X9_init_194 X hnm hA h99  _ _ _ _ _ _ _ hf hw (lv_sub hl [0] rfl) g11
set_option maxHeartbeats 4000000 in
theorem w_X9_init_140 {p : Program} {l : Launch} {e : Env} {s : State} {m : MethodId} {args : Array Value} {below : List Frame} {meth : Method} {c : Code} {D : va_G} {B : Nat} {cy : Nat → ClassId} {A : Nat → Prop} {ad av : Nat → Nat} {Z : HS} (X : hCX p s m args meth c RX9 cX9_init 1 none D cy A ad av) (hnm : meth.name = "<init>") (hA : ∀ c, c < 41 → A (B + c)) (h99 : cy 99 = ad 9)  (x0 : Nat) (ca : Nat) (sl : Nat) (S : HS) (H : Heap) (locs : List Loc) (ls : Array Slot) (hf : fn_X9_init_140 x0 ca sl S = some Z) (hw : hWd D B cy A true hTr S s.heap H locs) (hl : lv_has ls 1 [(0, .ref (B + x0))]) (hb : ca ≤ 43 ∧ sl ≤ 20000) : W p l e ({ frames := 1, cells := 43, slots := 20000, locals := 20 } : Room) s m args below meth c H locs ca sl (MQ below (hQo D B cy A true hTr Z none) args s 43 20000 A) (F0 m 140 ls []) := by
  unfold fn_X9_init_140 at hf
  refine lv_aload_n X.1 X.2.1 dX9_init_140 rfl (lv_at hl 0 rfl) ?_
  refine lv_sipush (v := 200) X.1 X.2.1 dX9_init_141 (by decide) ?_
  obtain ⟨g1, hf⟩ := gd_ok hf
  obtain ⟨g2, hf⟩ := gd_ok hf
  obtain ⟨S3, eS3, hf⟩ := bn_ok hf
  replace eS3 := Option.some.inj eS3
  refine r_newa (κ := 21) (atype := .int) (N := 200) X hw rfl (Or.inr (Or.inl ⟨rfl, rfl⟩)) tw_23 (by decide) (by decide) (by decide) (hA _ g2) trivial g1.1 g1.2 dX9_init_144 (fun H hw => ?_)
  rw [eS3] at hw
  obtain ⟨g4, hf⟩ := gd_ok hf
  obtain ⟨S5, eS5, hf⟩ := bn_ok hf
  replace eS5 := Option.some.inj eS5
  refine r_putR (v := (some (gZ S))) X hw (κ := 10) rfl inlX9 tyX9 tyX9_ok nmX9 30 (by decide) rfl (by decide) tw_120 (Or.inr ⟨rfl, hnm, rfl⟩) g4 (by first | exact Or.inl ⟨_, rfl⟩ | exact Or.inr ⟨_, rfl⟩) trivial dX9_init_146 (fun H locs hw => ?_)
  rw [eS5] at hw
  refine lv_aload_n X.1 X.2.1 dX9_init_149 rfl (lv_at hl 0 rfl) ?_
  refine lv_sipush (v := 200) X.1 X.2.1 dX9_init_150 (by decide) ?_
  obtain ⟨g6, hf⟩ := gd_ok hf
  obtain ⟨g7, hf⟩ := gd_ok hf
  obtain ⟨S8, eS8, hf⟩ := bn_ok hf
  replace eS8 := Option.some.inj eS8
  refine r_newa (κ := 21) (atype := .int) (N := 200) X hw rfl (Or.inr (Or.inl ⟨rfl, rfl⟩)) tw_23 (by decide) (by decide) (by decide) (hA _ g7) trivial g6.1 g6.2 dX9_init_153 (fun H hw => ?_)
  rw [eS8] at hw
  obtain ⟨g9, hf⟩ := gd_ok hf
  obtain ⟨S10, eS10, hf⟩ := bn_ok hf
  replace eS10 := Option.some.inj eS10
  refine r_putR (v := (some (gZ S5))) X hw (κ := 10) rfl inlX9 tyX9 tyX9_ok nmX9 31 (by decide) rfl (by decide) tw_121 (Or.inr ⟨rfl, hnm, rfl⟩) g9 (by first | exact Or.inl ⟨_, rfl⟩ | exact Or.inr ⟨_, rfl⟩) trivial dX9_init_155 (fun H locs hw => ?_)
  rw [eS10] at hw
  refine lv_aload_n X.1 X.2.1 dX9_init_158 rfl (lv_at hl 0 rfl) ?_
  refine lv_sipush (v := 200) X.1 X.2.1 dX9_init_159 (by decide) ?_
  obtain ⟨g11, hf⟩ := gd_ok hf
  obtain ⟨g12, hf⟩ := gd_ok hf
  obtain ⟨S13, eS13, hf⟩ := bn_ok hf
  replace eS13 := Option.some.inj eS13
  refine r_newa (κ := 21) (atype := .int) (N := 200) X hw rfl (Or.inr (Or.inl ⟨rfl, rfl⟩)) tw_23 (by decide) (by decide) (by decide) (hA _ g12) trivial g11.1 g11.2 dX9_init_162 (fun H hw => ?_)
  rw [eS13] at hw
  obtain ⟨g14, hf⟩ := gd_ok hf
  obtain ⟨S15, eS15, hf⟩ := bn_ok hf
  replace eS15 := Option.some.inj eS15
  refine r_putR (v := (some (gZ S10))) X hw (κ := 10) rfl inlX9 tyX9 tyX9_ok nmX9 32 (by decide) rfl (by decide) tw_122 (Or.inr ⟨rfl, hnm, rfl⟩) g14 (by first | exact Or.inl ⟨_, rfl⟩ | exact Or.inr ⟨_, rfl⟩) trivial dX9_init_164 (fun H locs hw => ?_)
  rw [eS15] at hw
  exact w_X9_init_167 X hnm hA h99  _ _ _ _ _ _ _ hf hw (lv_sub hl [0] rfl) g11
set_option maxHeartbeats 4000000 in
theorem w_X9_init_109 {p : Program} {l : Launch} {e : Env} {s : State} {m : MethodId} {args : Array Value} {below : List Frame} {meth : Method} {c : Code} {D : va_G} {B : Nat} {cy : Nat → ClassId} {A : Nat → Prop} {ad av : Nat → Nat} {Z : HS} (X : hCX p s m args meth c RX9 cX9_init 1 none D cy A ad av) (hnm : meth.name = "<init>") (hA : ∀ c, c < 41 → A (B + c)) (h99 : cy 99 = ad 9)  (x0 : Nat) (ca : Nat) (sl : Nat) (S : HS) (H : Heap) (locs : List Loc) (ls : Array Slot) (hf : fn_X9_init_109 x0 ca sl S = some Z) (hw : hWd D B cy A true hTr S s.heap H locs) (hl : lv_has ls 1 [(0, .ref (B + x0))]) (hb : ca ≤ 43 ∧ sl ≤ 20000) : W p l e ({ frames := 1, cells := 43, slots := 20000, locals := 20 } : Room) s m args below meth c H locs ca sl (MQ below (hQo D B cy A true hTr Z none) args s 43 20000 A) (F0 m 109 ls []) := by
  unfold fn_X9_init_109 at hf
  refine lv_aload_n X.1 X.2.1 dX9_init_109 rfl (lv_at hl 0 rfl) ?_
  refine lv_sipush (v := 481) X.1 X.2.1 dX9_init_110 (by decide) ?_
  obtain ⟨g1, hf⟩ := gd_ok hf
  obtain ⟨g2, hf⟩ := gd_ok hf
  obtain ⟨S3, eS3, hf⟩ := bn_ok hf
  replace eS3 := Option.some.inj eS3
  refine r_newa (κ := 21) (atype := .int) (N := 481) X hw rfl (Or.inr (Or.inl ⟨rfl, rfl⟩)) tw_23 (by decide) (by decide) (by decide) (hA _ g2) trivial g1.1 g1.2 dX9_init_113 (fun H hw => ?_)
  rw [eS3] at hw
  obtain ⟨g4, hf⟩ := gd_ok hf
  obtain ⟨S5, eS5, hf⟩ := bn_ok hf
  replace eS5 := Option.some.inj eS5
  refine r_putR (v := (some (gZ S))) X hw (κ := 10) rfl inlX9 tyX9 tyX9_ok nmX9 16 (by decide) rfl (by decide) tw_116 (Or.inr ⟨rfl, hnm, rfl⟩) g4 (by first | exact Or.inl ⟨_, rfl⟩ | exact Or.inr ⟨_, rfl⟩) trivial dX9_init_115 (fun H locs hw => ?_)
  rw [eS5] at hw
  refine lv_aload_n X.1 X.2.1 dX9_init_118 rfl (lv_at hl 0 rfl) ?_
  refine lv_iconst (v := (-1)) X.1 X.2.1 dX9_init_119 (by decide) ?_
  obtain ⟨g6, hf⟩ := gd_ok hf
  obtain ⟨S7, eS7, hf⟩ := bn_ok hf
  replace eS7 := Option.some.inj eS7
  refine r_putI X hw (κ := 10) rfl inlX9 tyX9 tyX9_ok nmX9 25 (by decide) rfl (by decide) tw_117 (Or.inl rfl) g6 rfl rfl trivial dX9_init_120 (fun H locs hw => ?_)
  rw [eS7] at hw
  refine lv_aload_n X.1 X.2.1 dX9_init_123 rfl (lv_at hl 0 rfl) ?_
  refine lv_bipush (v := 8) X.1 X.2.1 dX9_init_124 (by decide) ?_
  obtain ⟨g8, hf⟩ := gd_ok hf
  obtain ⟨g9, hf⟩ := gd_ok hf
  obtain ⟨S10, eS10, hf⟩ := bn_ok hf
  replace eS10 := Option.some.inj eS10
  refine r_newa (κ := 21) (atype := .int) (N := 8) X hw rfl (Or.inr (Or.inl ⟨rfl, rfl⟩)) tw_23 (by decide) (by decide) (by decide) (hA _ g9) trivial g8.1 g8.2 dX9_init_126 (fun H hw => ?_)
  rw [eS10] at hw
  obtain ⟨g11, hf⟩ := gd_ok hf
  obtain ⟨S12, eS12, hf⟩ := bn_ok hf
  replace eS12 := Option.some.inj eS12
  refine r_putR (v := (some (gZ S7))) X hw (κ := 10) rfl inlX9 tyX9 tyX9_ok nmX9 27 (by decide) rfl (by decide) tw_118 (Or.inr ⟨rfl, hnm, rfl⟩) g11 (by first | exact Or.inl ⟨_, rfl⟩ | exact Or.inr ⟨_, rfl⟩) trivial dX9_init_128 (fun H locs hw => ?_)
  rw [eS12] at hw
  refine lv_aload_n X.1 X.2.1 dX9_init_131 rfl (lv_at hl 0 rfl) ?_
  refine lv_sipush (v := 200) X.1 X.2.1 dX9_init_132 (by decide) ?_
  obtain ⟨g13, hf⟩ := gd_ok hf
  obtain ⟨g14, hf⟩ := gd_ok hf
  obtain ⟨S15, eS15, hf⟩ := bn_ok hf
  replace eS15 := Option.some.inj eS15
  refine r_newa (κ := 21) (atype := .int) (N := 200) X hw rfl (Or.inr (Or.inl ⟨rfl, rfl⟩)) tw_23 (by decide) (by decide) (by decide) (hA _ g14) trivial g13.1 g13.2 dX9_init_135 (fun H hw => ?_)
  rw [eS15] at hw
  obtain ⟨g16, hf⟩ := gd_ok hf
  obtain ⟨S17, eS17, hf⟩ := bn_ok hf
  replace eS17 := Option.some.inj eS17
  refine r_putR (v := (some (gZ S12))) X hw (κ := 10) rfl inlX9 tyX9 tyX9_ok nmX9 29 (by decide) rfl (by decide) tw_119 (Or.inr ⟨rfl, hnm, rfl⟩) g16 (by first | exact Or.inl ⟨_, rfl⟩ | exact Or.inr ⟨_, rfl⟩) trivial dX9_init_137 (fun H locs hw => ?_)
  rw [eS17] at hw
  exact w_X9_init_140 X hnm hA h99  _ _ _ _ _ _ _ hf hw (lv_sub hl [0] rfl) g13
set_option maxHeartbeats 4000000 in
theorem w_X9_init_82 {p : Program} {l : Launch} {e : Env} {s : State} {m : MethodId} {args : Array Value} {below : List Frame} {meth : Method} {c : Code} {D : va_G} {B : Nat} {cy : Nat → ClassId} {A : Nat → Prop} {ad av : Nat → Nat} {Z : HS} (X : hCX p s m args meth c RX9 cX9_init 1 none D cy A ad av) (hnm : meth.name = "<init>") (hA : ∀ c, c < 41 → A (B + c)) (h99 : cy 99 = ad 9)  (x0 : Nat) (ca : Nat) (sl : Nat) (S : HS) (H : Heap) (locs : List Loc) (ls : Array Slot) (hf : fn_X9_init_82 x0 ca sl S = some Z) (hw : hWd D B cy A true hTr S s.heap H locs) (hl : lv_has ls 1 [(0, .ref (B + x0))]) (hb : ca ≤ 43 ∧ sl ≤ 20000) : W p l e ({ frames := 1, cells := 43, slots := 20000, locals := 20 } : Room) s m args below meth c H locs ca sl (MQ below (hQo D B cy A true hTr Z none) args s 43 20000 A) (F0 m 82 ls []) := by
  unfold fn_X9_init_82 at hf
  refine lv_aload_n X.1 X.2.1 dX9_init_82 rfl (lv_at hl 0 rfl) ?_
  refine lv_sipush (v := 481) X.1 X.2.1 dX9_init_83 (by decide) ?_
  obtain ⟨g1, hf⟩ := gd_ok hf
  obtain ⟨g2, hf⟩ := gd_ok hf
  obtain ⟨S3, eS3, hf⟩ := bn_ok hf
  replace eS3 := Option.some.inj eS3
  refine r_newa (κ := 21) (atype := .int) (N := 481) X hw rfl (Or.inr (Or.inl ⟨rfl, rfl⟩)) tw_23 (by decide) (by decide) (by decide) (hA _ g2) trivial g1.1 g1.2 dX9_init_86 (fun H hw => ?_)
  rw [eS3] at hw
  obtain ⟨g4, hf⟩ := gd_ok hf
  obtain ⟨S5, eS5, hf⟩ := bn_ok hf
  replace eS5 := Option.some.inj eS5
  refine r_putR (v := (some (gZ S))) X hw (κ := 10) rfl inlX9 tyX9 tyX9_ok nmX9 13 (by decide) rfl (by decide) tw_113 (Or.inr ⟨rfl, hnm, rfl⟩) g4 (by first | exact Or.inl ⟨_, rfl⟩ | exact Or.inr ⟨_, rfl⟩) trivial dX9_init_88 (fun H locs hw => ?_)
  rw [eS5] at hw
  refine lv_aload_n X.1 X.2.1 dX9_init_91 rfl (lv_at hl 0 rfl) ?_
  refine lv_sipush (v := 481) X.1 X.2.1 dX9_init_92 (by decide) ?_
  obtain ⟨g6, hf⟩ := gd_ok hf
  obtain ⟨g7, hf⟩ := gd_ok hf
  obtain ⟨S8, eS8, hf⟩ := bn_ok hf
  replace eS8 := Option.some.inj eS8
  refine r_newa (κ := 23) (atype := .boolean) (N := 481) X hw rfl (Or.inr (Or.inr (Or.inr ⟨rfl, rfl⟩))) tw_47 (by decide) (by decide) (by decide) (hA _ g7) trivial g6.1 g6.2 dX9_init_95 (fun H hw => ?_)
  rw [eS8] at hw
  obtain ⟨g9, hf⟩ := gd_ok hf
  obtain ⟨S10, eS10, hf⟩ := bn_ok hf
  replace eS10 := Option.some.inj eS10
  refine r_putR (v := (some (gZ S5))) X hw (κ := 10) rfl inlX9 tyX9 tyX9_ok nmX9 14 (by decide) rfl (by decide) tw_114 (Or.inr ⟨rfl, hnm, rfl⟩) g9 (by first | exact Or.inl ⟨_, rfl⟩ | exact Or.inr ⟨_, rfl⟩) trivial dX9_init_97 (fun H locs hw => ?_)
  rw [eS10] at hw
  refine lv_aload_n X.1 X.2.1 dX9_init_100 rfl (lv_at hl 0 rfl) ?_
  refine lv_sipush (v := 3848) X.1 X.2.1 dX9_init_101 (by decide) ?_
  obtain ⟨g11, hf⟩ := gd_ok hf
  obtain ⟨g12, hf⟩ := gd_ok hf
  obtain ⟨S13, eS13, hf⟩ := bn_ok hf
  replace eS13 := Option.some.inj eS13
  refine r_newa (κ := 21) (atype := .int) (N := 3848) X hw rfl (Or.inr (Or.inl ⟨rfl, rfl⟩)) tw_23 (by decide) (by decide) (by decide) (hA _ g12) trivial g11.1 g11.2 dX9_init_104 (fun H hw => ?_)
  rw [eS13] at hw
  obtain ⟨g14, hf⟩ := gd_ok hf
  obtain ⟨S15, eS15, hf⟩ := bn_ok hf
  replace eS15 := Option.some.inj eS15
  refine r_putR (v := (some (gZ S10))) X hw (κ := 10) rfl inlX9 tyX9 tyX9_ok nmX9 15 (by decide) rfl (by decide) tw_115 (Or.inr ⟨rfl, hnm, rfl⟩) g14 (by first | exact Or.inl ⟨_, rfl⟩ | exact Or.inr ⟨_, rfl⟩) trivial dX9_init_106 (fun H locs hw => ?_)
  rw [eS15] at hw
  exact w_X9_init_109 X hnm hA h99  _ _ _ _ _ _ _ hf hw (lv_sub hl [0] rfl) g11
set_option maxHeartbeats 4000000 in
theorem w_X9_init_55 {p : Program} {l : Launch} {e : Env} {s : State} {m : MethodId} {args : Array Value} {below : List Frame} {meth : Method} {c : Code} {D : va_G} {B : Nat} {cy : Nat → ClassId} {A : Nat → Prop} {ad av : Nat → Nat} {Z : HS} (X : hCX p s m args meth c RX9 cX9_init 1 none D cy A ad av) (hnm : meth.name = "<init>") (hA : ∀ c, c < 41 → A (B + c)) (h99 : cy 99 = ad 9)  (x0 : Nat) (ca : Nat) (sl : Nat) (S : HS) (H : Heap) (locs : List Loc) (ls : Array Slot) (hf : fn_X9_init_55 x0 ca sl S = some Z) (hw : hWd D B cy A true hTr S s.heap H locs) (hl : lv_has ls 1 [(0, .ref (B + x0))]) (hb : ca ≤ 43 ∧ sl ≤ 20000) : W p l e ({ frames := 1, cells := 43, slots := 20000, locals := 20 } : Room) s m args below meth c H locs ca sl (MQ below (hQo D B cy A true hTr Z none) args s 43 20000 A) (F0 m 55 ls []) := by
  unfold fn_X9_init_55 at hf
  refine lv_aload_n X.1 X.2.1 dX9_init_55 rfl (lv_at hl 0 rfl) ?_
  refine lv_sipush (v := 481) X.1 X.2.1 dX9_init_56 (by decide) ?_
  obtain ⟨g1, hf⟩ := gd_ok hf
  obtain ⟨g2, hf⟩ := gd_ok hf
  obtain ⟨S3, eS3, hf⟩ := bn_ok hf
  replace eS3 := Option.some.inj eS3
  refine r_newa (κ := 21) (atype := .int) (N := 481) X hw rfl (Or.inr (Or.inl ⟨rfl, rfl⟩)) tw_23 (by decide) (by decide) (by decide) (hA _ g2) trivial g1.1 g1.2 dX9_init_59 (fun H hw => ?_)
  rw [eS3] at hw
  obtain ⟨g4, hf⟩ := gd_ok hf
  obtain ⟨S5, eS5, hf⟩ := bn_ok hf
  replace eS5 := Option.some.inj eS5
  refine r_putR (v := (some (gZ S))) X hw (κ := 10) rfl inlX9 tyX9 tyX9_ok nmX9 10 (by decide) rfl (by decide) tw_110 (Or.inr ⟨rfl, hnm, rfl⟩) g4 (by first | exact Or.inl ⟨_, rfl⟩ | exact Or.inr ⟨_, rfl⟩) trivial dX9_init_61 (fun H locs hw => ?_)
  rw [eS5] at hw
  refine lv_aload_n X.1 X.2.1 dX9_init_64 rfl (lv_at hl 0 rfl) ?_
  refine lv_sipush (v := 481) X.1 X.2.1 dX9_init_65 (by decide) ?_
  obtain ⟨g6, hf⟩ := gd_ok hf
  obtain ⟨g7, hf⟩ := gd_ok hf
  obtain ⟨S8, eS8, hf⟩ := bn_ok hf
  replace eS8 := Option.some.inj eS8
  refine r_newa (κ := 21) (atype := .int) (N := 481) X hw rfl (Or.inr (Or.inl ⟨rfl, rfl⟩)) tw_23 (by decide) (by decide) (by decide) (hA _ g7) trivial g6.1 g6.2 dX9_init_68 (fun H hw => ?_)
  rw [eS8] at hw
  obtain ⟨g9, hf⟩ := gd_ok hf
  obtain ⟨S10, eS10, hf⟩ := bn_ok hf
  replace eS10 := Option.some.inj eS10
  refine r_putR (v := (some (gZ S5))) X hw (κ := 10) rfl inlX9 tyX9 tyX9_ok nmX9 11 (by decide) rfl (by decide) tw_111 (Or.inr ⟨rfl, hnm, rfl⟩) g9 (by first | exact Or.inl ⟨_, rfl⟩ | exact Or.inr ⟨_, rfl⟩) trivial dX9_init_70 (fun H locs hw => ?_)
  rw [eS10] at hw
  refine lv_aload_n X.1 X.2.1 dX9_init_73 rfl (lv_at hl 0 rfl) ?_
  refine lv_sipush (v := 481) X.1 X.2.1 dX9_init_74 (by decide) ?_
  obtain ⟨g11, hf⟩ := gd_ok hf
  obtain ⟨g12, hf⟩ := gd_ok hf
  obtain ⟨S13, eS13, hf⟩ := bn_ok hf
  replace eS13 := Option.some.inj eS13
  refine r_newa (κ := 21) (atype := .int) (N := 481) X hw rfl (Or.inr (Or.inl ⟨rfl, rfl⟩)) tw_23 (by decide) (by decide) (by decide) (hA _ g12) trivial g11.1 g11.2 dX9_init_77 (fun H hw => ?_)
  rw [eS13] at hw
  obtain ⟨g14, hf⟩ := gd_ok hf
  obtain ⟨S15, eS15, hf⟩ := bn_ok hf
  replace eS15 := Option.some.inj eS15
  refine r_putR (v := (some (gZ S10))) X hw (κ := 10) rfl inlX9 tyX9 tyX9_ok nmX9 12 (by decide) rfl (by decide) tw_112 (Or.inr ⟨rfl, hnm, rfl⟩) g14 (by first | exact Or.inl ⟨_, rfl⟩ | exact Or.inr ⟨_, rfl⟩) trivial dX9_init_79 (fun H locs hw => ?_)
  rw [eS15] at hw
  exact w_X9_init_82 X hnm hA h99  _ _ _ _ _ _ _ hf hw (lv_sub hl [0] rfl) g11
set_option maxHeartbeats 4000000 in
theorem w_X9_init_29 {p : Program} {l : Launch} {e : Env} {s : State} {m : MethodId} {args : Array Value} {below : List Frame} {meth : Method} {c : Code} {D : va_G} {B : Nat} {cy : Nat → ClassId} {A : Nat → Prop} {ad av : Nat → Nat} {Z : HS} (X : hCX p s m args meth c RX9 cX9_init 1 none D cy A ad av) (hnm : meth.name = "<init>") (hA : ∀ c, c < 41 → A (B + c)) (h99 : cy 99 = ad 9)  (x0 : Nat) (ca : Nat) (sl : Nat) (S : HS) (H : Heap) (locs : List Loc) (ls : Array Slot) (hf : fn_X9_init_29 x0 ca sl S = some Z) (hw : hWd D B cy A true hTr S s.heap H locs) (hl : lv_has ls 1 [(0, .ref (B + x0))]) (hb : ca ≤ 43 ∧ sl ≤ 20000) : W p l e ({ frames := 1, cells := 43, slots := 20000, locals := 20 } : Room) s m args below meth c H locs ca sl (MQ below (hQo D B cy A true hTr Z none) args s 43 20000 A) (F0 m 29 ls []) := by
  unfold fn_X9_init_29 at hf
  refine lv_aload_n X.1 X.2.1 dX9_init_29 rfl (lv_at hl 0 rfl) ?_
  refine lv_bipush (v := 13) X.1 X.2.1 dX9_init_30 (by decide) ?_
  obtain ⟨g1, hf⟩ := gd_ok hf
  obtain ⟨g2, hf⟩ := gd_ok hf
  obtain ⟨S3, eS3, hf⟩ := bn_ok hf
  replace eS3 := Option.some.inj eS3
  refine r_newa (κ := 21) (atype := .int) (N := 13) X hw rfl (Or.inr (Or.inl ⟨rfl, rfl⟩)) tw_23 (by decide) (by decide) (by decide) (hA _ g2) trivial g1.1 g1.2 dX9_init_32 (fun H hw => ?_)
  rw [eS3] at hw
  obtain ⟨g4, hf⟩ := gd_ok hf
  obtain ⟨S5, eS5, hf⟩ := bn_ok hf
  replace eS5 := Option.some.inj eS5
  refine r_putR (v := (some (gZ S))) X hw (κ := 10) rfl inlX9 tyX9 tyX9_ok nmX9 6 (by decide) rfl (by decide) tw_107 (Or.inr ⟨rfl, hnm, rfl⟩) g4 (by first | exact Or.inl ⟨_, rfl⟩ | exact Or.inr ⟨_, rfl⟩) trivial dX9_init_34 (fun H locs hw => ?_)
  rw [eS5] at hw
  refine lv_aload_n X.1 X.2.1 dX9_init_37 rfl (lv_at hl 0 rfl) ?_
  refine lv_sipush (v := 481) X.1 X.2.1 dX9_init_38 (by decide) ?_
  obtain ⟨g6, hf⟩ := gd_ok hf
  obtain ⟨g7, hf⟩ := gd_ok hf
  obtain ⟨S8, eS8, hf⟩ := bn_ok hf
  replace eS8 := Option.some.inj eS8
  refine r_newa (κ := 21) (atype := .int) (N := 481) X hw rfl (Or.inr (Or.inl ⟨rfl, rfl⟩)) tw_23 (by decide) (by decide) (by decide) (hA _ g7) trivial g6.1 g6.2 dX9_init_41 (fun H hw => ?_)
  rw [eS8] at hw
  obtain ⟨g9, hf⟩ := gd_ok hf
  obtain ⟨S10, eS10, hf⟩ := bn_ok hf
  replace eS10 := Option.some.inj eS10
  refine r_putR (v := (some (gZ S5))) X hw (κ := 10) rfl inlX9 tyX9 tyX9_ok nmX9 8 (by decide) rfl (by decide) tw_108 (Or.inr ⟨rfl, hnm, rfl⟩) g9 (by first | exact Or.inl ⟨_, rfl⟩ | exact Or.inr ⟨_, rfl⟩) trivial dX9_init_43 (fun H locs hw => ?_)
  rw [eS10] at hw
  refine lv_aload_n X.1 X.2.1 dX9_init_46 rfl (lv_at hl 0 rfl) ?_
  refine lv_sipush (v := 481) X.1 X.2.1 dX9_init_47 (by decide) ?_
  obtain ⟨g11, hf⟩ := gd_ok hf
  obtain ⟨g12, hf⟩ := gd_ok hf
  obtain ⟨S13, eS13, hf⟩ := bn_ok hf
  replace eS13 := Option.some.inj eS13
  refine r_newa (κ := 23) (atype := .boolean) (N := 481) X hw rfl (Or.inr (Or.inr (Or.inr ⟨rfl, rfl⟩))) tw_47 (by decide) (by decide) (by decide) (hA _ g12) trivial g11.1 g11.2 dX9_init_50 (fun H hw => ?_)
  rw [eS13] at hw
  obtain ⟨g14, hf⟩ := gd_ok hf
  obtain ⟨S15, eS15, hf⟩ := bn_ok hf
  replace eS15 := Option.some.inj eS15
  refine r_putR (v := (some (gZ S10))) X hw (κ := 10) rfl inlX9 tyX9 tyX9_ok nmX9 9 (by decide) rfl (by decide) tw_109 (Or.inr ⟨rfl, hnm, rfl⟩) g14 (by first | exact Or.inl ⟨_, rfl⟩ | exact Or.inr ⟨_, rfl⟩) trivial dX9_init_52 (fun H locs hw => ?_)
  rw [eS15] at hw
  exact w_X9_init_55 X hnm hA h99  _ _ _ _ _ _ _ hf hw (lv_sub hl [0] rfl) g11
theorem hd_X9_init : yX9_init.cls ≠ "java/lang/invoke/MethodHandle" ∧ yX9_init.cls ≠ "java/lang/invoke/VarHandle" ∧ (parseMethodDescriptor yX9_init.desc).map (fun d => d.parameters.length) = some 0 := by decide +kernel
set_option maxHeartbeats 4000000 in
theorem c_X9_init (l : Launch) (D : va_G) (B : Nat) (cy : Nat → ClassId) (A : Nat → Prop) (ad av : Nat → Nat) (hA : ∀ c, c < 41 → A (B + c)) (h99 : cy 99 = ad 9) (x0 : Nat) {S Z : HS} (hfr : hFr S) (hG : hTr S) (hf : fn_X9_init x0 S = some Z) : hMet l yX9_init cX9_init 1 none ({ frames := 1, cells := 43, slots := 20000, locals := 20 } : Room) D B cy A ad av true hTr [.ref (B + x0)] S Z none 43 20000 := by
  refine h_entry (by decide) hfr hG ?_
  intro p e s m below meth c args X hnm hw
  have hl := lv_entry ([.ref (B + x0)]) (n := 1) (Nat.le_of_ble_eq_true rfl)
  rw [lg_entry_eq]
  generalize (lg_sl ([.ref (B + x0)]) ++ List.replicate (1 - (lg_sl ([.ref (B + x0)])).length) Slot.unset).toArray = ls at hl ⊢
  have hl : lv_has ls 1 [(0, .ref (B + x0))] := hl
  unfold fn_X9_init at hf
  refine lv_aload_n X.1 X.2.1 dX9_init_0 rfl (lv_at hl 0 rfl) ?_
  refine r_objInit X tw_103 hl.1 (by decide) (Nat.le_of_ble_eq_true rfl) dX9_init_1 ?_
  refine lv_aload_n X.1 X.2.1 dX9_init_4 rfl (lv_at hl 0 rfl) ?_
  refine lv_sipush (v := 2000) X.1 X.2.1 dX9_init_5 (by decide) ?_
  obtain ⟨g1, hf⟩ := gd_ok hf
  obtain ⟨S2, eS2, hf⟩ := bn_ok hf
  replace eS2 := Option.some.inj eS2
  refine r_newa (κ := 21) (atype := .int) (N := 2000) X hw rfl (Or.inr (Or.inl ⟨rfl, rfl⟩)) tw_23 (by decide) (by decide) (by decide) (hA _ g1) trivial (show 0 + 1 ≤ 43 ∧ 0 + 2000 ≤ 20000 from ⟨Nat.le_of_ble_eq_true rfl, Nat.le_of_ble_eq_true rfl⟩).1 (show 0 + 1 ≤ 43 ∧ 0 + 2000 ≤ 20000 from ⟨Nat.le_of_ble_eq_true rfl, Nat.le_of_ble_eq_true rfl⟩).2 dX9_init_8 (fun H hw => ?_)
  rw [eS2] at hw
  obtain ⟨g3, hf⟩ := gd_ok hf
  obtain ⟨S4, eS4, hf⟩ := bn_ok hf
  replace eS4 := Option.some.inj eS4
  refine r_putR (v := (some (gZ S))) X hw (κ := 10) rfl inlX9 tyX9 tyX9_ok nmX9 1 (by decide) rfl (by decide) tw_104 (Or.inr ⟨rfl, hnm, rfl⟩) g3 (by first | exact Or.inl ⟨_, rfl⟩ | exact Or.inr ⟨_, rfl⟩) trivial dX9_init_10 (fun H locs hw => ?_)
  rw [eS4] at hw
  refine lv_aload_n X.1 X.2.1 dX9_init_13 rfl (lv_at hl 0 rfl) ?_
  refine lv_bipush (v := 12) X.1 X.2.1 dX9_init_14 (by decide) ?_
  obtain ⟨g5, hf⟩ := gd_ok hf
  obtain ⟨S6, eS6, hf⟩ := bn_ok hf
  replace eS6 := Option.some.inj eS6
  refine r_newa (κ := 21) (atype := .int) (N := 12) X hw rfl (Or.inr (Or.inl ⟨rfl, rfl⟩)) tw_23 (by decide) (by decide) (by decide) (hA _ g5) trivial (show 1 + 1 ≤ 43 ∧ 2000 + 12 ≤ 20000 from ⟨Nat.le_of_ble_eq_true rfl, Nat.le_of_ble_eq_true rfl⟩).1 (show 1 + 1 ≤ 43 ∧ 2000 + 12 ≤ 20000 from ⟨Nat.le_of_ble_eq_true rfl, Nat.le_of_ble_eq_true rfl⟩).2 dX9_init_16 (fun H hw => ?_)
  rw [eS6] at hw
  obtain ⟨g7, hf⟩ := gd_ok hf
  obtain ⟨S8, eS8, hf⟩ := bn_ok hf
  replace eS8 := Option.some.inj eS8
  refine r_putR (v := (some (gZ S4))) X hw (κ := 10) rfl inlX9 tyX9 tyX9_ok nmX9 4 (by decide) rfl (by decide) tw_105 (Or.inr ⟨rfl, hnm, rfl⟩) g7 (by first | exact Or.inl ⟨_, rfl⟩ | exact Or.inr ⟨_, rfl⟩) trivial dX9_init_18 (fun H locs hw => ?_)
  rw [eS8] at hw
  refine lv_aload_n X.1 X.2.1 dX9_init_21 rfl (lv_at hl 0 rfl) ?_
  refine lv_bipush (v := 12) X.1 X.2.1 dX9_init_22 (by decide) ?_
  obtain ⟨g9, hf⟩ := gd_ok hf
  obtain ⟨S10, eS10, hf⟩ := bn_ok hf
  replace eS10 := Option.some.inj eS10
  refine r_newa (κ := 21) (atype := .int) (N := 12) X hw rfl (Or.inr (Or.inl ⟨rfl, rfl⟩)) tw_23 (by decide) (by decide) (by decide) (hA _ g9) trivial (show 2 + 1 ≤ 43 ∧ 2012 + 12 ≤ 20000 from ⟨Nat.le_of_ble_eq_true rfl, Nat.le_of_ble_eq_true rfl⟩).1 (show 2 + 1 ≤ 43 ∧ 2012 + 12 ≤ 20000 from ⟨Nat.le_of_ble_eq_true rfl, Nat.le_of_ble_eq_true rfl⟩).2 dX9_init_24 (fun H hw => ?_)
  rw [eS10] at hw
  obtain ⟨g11, hf⟩ := gd_ok hf
  obtain ⟨S12, eS12, hf⟩ := bn_ok hf
  replace eS12 := Option.some.inj eS12
  refine r_putR (v := (some (gZ S8))) X hw (κ := 10) rfl inlX9 tyX9 tyX9_ok nmX9 5 (by decide) rfl (by decide) tw_106 (Or.inr ⟨rfl, hnm, rfl⟩) g11 (by first | exact Or.inl ⟨_, rfl⟩ | exact Or.inr ⟨_, rfl⟩) trivial dX9_init_26 (fun H locs hw => ?_)
  rw [eS12] at hw
  exact w_X9_init_29 X hnm hA h99  _ _ _ _ _ _ _ hf hw (lv_sub hl [0] rfl) ⟨Nat.le_of_ble_eq_true rfl, Nat.le_of_ble_eq_true rfl⟩
