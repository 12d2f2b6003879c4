theorem hd_X1_renew : yX1_renew.cls = RX1 ∧ yX1_renew.cls ≠ "java/lang/invoke/MethodHandle" ∧ yX1_renew.cls ≠ "java/lang/invoke/VarHandle" ∧ (parseMethodDescriptor yX1_renew.desc).map (fun d => d.parameters.length) = some 3 := by decide +kernel
set_option maxHeartbeats 4000000 in
theorem c_X1_renew (l : Launch) (D : va_G) (B : Nat) (cy : Nat → ClassId) (A : Nat → Prop) (ad av : Nat → Nat) (x3 : Int32) {S Z : HS} (hfr : hFr S) (hG : hC S) (hf : fn_X1_renew x3 S = some Z) : hMet l yX1_renew cX1_renew 4 none ({ frames := 3, cells := 0, slots := 0, locals := 72 } : Room) D B cy A ad av true hC [.ref (B + 12), .ref (B + 7), .ref (B + 13), .int x3] S Z none 0 0 := by
  refine h_entry (by decide) hfr hG ?_
  intro p e s m below meth c args X hnm hw
  have hl := lv_entry ([.ref (B + 12), .ref (B + 7), .ref (B + 13), .int x3]) (n := 4) (Nat.le_of_ble_eq_true rfl)
  rw [lg_entry_eq]
  generalize (lg_sl ([.ref (B + 12), .ref (B + 7), .ref (B + 13), .int x3]) ++ List.replicate (4 - (lg_sl ([.ref (B + 12), .ref (B + 7), .ref (B + 13), .int x3])).length) Slot.unset).toArray = ls at hl ⊢
  have hl : lv_has ls 4 [(0, .ref (B + 12)), (1, .ref (B + 7)), (2, .ref (B + 13)), (3, .int x3)] := hl
  unfold fn_X1_renew at hf
  refine lv_aload_n X.1 X.2.1 dX1_renew_0 rfl (lv_at hl 0 rfl) ?_
  refine lv_aload_n X.1 X.2.1 dX1_renew_1 rfl (lv_at hl 1 rfl) ?_
  refine lv_aload_n X.1 X.2.1 dX1_renew_2 rfl (lv_at hl 2 rfl) ?_
  obtain ⟨r2, S1, hS1, hf⟩ := bn2_ok hf
  refine r_callV (As := [.ref (B + 13)]) (rest := [.ref (B + 12)]) (st1 := [.int r2, .ref (B + 12)]) (κ := 7) X hw (c_X6_pointsBy l D B cy A ad av  hw.2.2.2.2.1 hw.2.2.2.2.2 hS1) ⟨rfl, rfl, Nat.le_of_ble_eq_true rfl, Nat.le_of_ble_eq_true rfl⟩ rfl (by decide) (hCk hw.2.2.2.2.2 7 (by decide) rfl) tw_656 tw_657 tw_658 tw_27 tw_659 hd_X6_pointsBy rfl hl.1 rfl (Nat.le_of_ble_eq_true rfl) dX1_renew_3 ⟨Nat.le_of_ble_eq_true rfl, Nat.le_of_ble_eq_true rfl⟩ rfl (fun H locs hw => ?_)
  obtain ⟨S3, eS3, hf⟩ := bn_ok hf
  replace eS3 := Option.some.inj eS3
  refine r_putI X hw (κ := 2) rfl inlX1 tyX1 tyX1_ok nmX1 2 (by decide) rfl (by decide) tw_652 (Or.inl rfl) (hCk hw.2.2.2.2.2 12 (by decide) rfl) rfl rfl hw.2.2.2.2.2 dX1_renew_6 (fun H locs hw => ?_)
  rw [eS3] at hw
  refine lv_aload_n X.1 X.2.1 dX1_renew_9 rfl (lv_at hl 0 rfl) ?_
  refine lv_aload_n X.1 X.2.1 dX1_renew_10 rfl (lv_at hl 1 rfl) ?_
  refine lv_aload_n X.1 X.2.1 dX1_renew_11 rfl (lv_at hl 0 rfl) ?_
  refine r_getI X hw (κ := 2) rfl inlX1 2 (by decide) rfl (by decide) tw_652 (hCk hw.2.2.2.2.2 12 (by decide) rfl) dX1_renew_12 ?_
  obtain ⟨r5, S4, hS4, hf⟩ := bn2_ok hf
  refine r_callV (As := [.int (gI S3 12 2)]) (rest := [.ref (B + 12)]) (st1 := [.int r5, .ref (B + 12)]) (κ := 7) X hw (c_X6_gradeBy l D B cy A ad av (gI S3 12 2) hw.2.2.2.2.1 hw.2.2.2.2.2 hS4) ⟨rfl, rfl, Nat.le_of_ble_eq_true rfl, Nat.le_of_ble_eq_true rfl⟩ rfl (by decide) (hCk hw.2.2.2.2.2 7 (by decide) rfl) tw_672 tw_673 tw_674 tw_27 tw_675 hd_X6_gradeBy rfl hl.1 rfl (Nat.le_of_ble_eq_true rfl) dX1_renew_15 ⟨Nat.le_of_ble_eq_true rfl, Nat.le_of_ble_eq_true rfl⟩ rfl (fun H locs hw => ?_)
  obtain ⟨S6, eS6, hf⟩ := bn_ok hf
  replace eS6 := Option.some.inj eS6
  refine r_putI X hw (κ := 2) rfl inlX1 tyX1 tyX1_ok nmX1 3 (by decide) rfl (by decide) tw_653 (Or.inl rfl) (hCk hw.2.2.2.2.2 12 (by decide) rfl) rfl rfl hw.2.2.2.2.2 dX1_renew_18 (fun H locs hw => ?_)
  rw [eS6] at hw
  refine lv_aload_n X.1 X.2.1 dX1_renew_21 rfl (lv_at hl 0 rfl) ?_
  refine lv_aload_n X.1 X.2.1 dX1_renew_22 rfl (lv_at hl 1 rfl) ?_
  refine lv_iconst (v := 2) X.1 X.2.1 dX1_renew_23 (by decide) ?_
  refine lv_aload_n X.1 X.2.1 dX1_renew_24 rfl (lv_at hl 0 rfl) ?_
  refine r_getI X hw (κ := 2) rfl inlX1 3 (by decide) rfl (by decide) tw_653 (hCk hw.2.2.2.2.2 12 (by decide) rfl) dX1_renew_25 ?_
  obtain ⟨r8, S7, hS7, hf⟩ := bn2_ok hf
  refine r_callV (As := [.int 2, .int (gI S6 12 3)]) (rest := [.ref (B + 12)]) (st1 := [va_rf (Option.map (B + ·) r8), .ref (B + 12)]) (κ := 7) X hw (c_X6_lineOf l D B cy A ad av 2 (gI S6 12 3) hw.2.2.2.2.1 hw.2.2.2.2.2 hS7) ⟨rfl, rfl, Nat.le_of_ble_eq_true rfl, Nat.le_of_ble_eq_true rfl⟩ rfl (by decide) (hCk hw.2.2.2.2.2 7 (by decide) rfl) tw_676 tw_662 tw_663 tw_27 tw_664 hd_X6_lineOf rfl hl.1 rfl (Nat.le_of_ble_eq_true rfl) dX1_renew_28 ⟨Nat.le_of_ble_eq_true rfl, Nat.le_of_ble_eq_true rfl⟩ rfl (fun H locs hw => ?_)
  obtain ⟨S9, eS9, hf⟩ := bn_ok hf
  replace eS9 := Option.some.inj eS9
  refine r_putR (v := r8) X hw (κ := 2) rfl inlX1 tyX1 tyX1_ok nmX1 0 (by decide) rfl (by decide) tw_654 (Or.inl rfl) (hCk hw.2.2.2.2.2 12 (by decide) rfl) (by first | exact Or.inl ⟨_, rfl⟩ | exact Or.inr ⟨_, rfl⟩) (hC_sR hw.2.2.2.2.2 (hCk hw.2.2.2.2.2 12 (by decide) rfl) (by decide)) dX1_renew_31 (fun H locs hw => ?_)
  rw [eS9] at hw
  refine lv_aload_n X.1 X.2.1 dX1_renew_34 rfl (lv_at hl 0 rfl) ?_
  refine lv_aload_n X.1 X.2.1 dX1_renew_35 rfl (lv_at hl 1 rfl) ?_
  refine lv_iconst (v := 3) X.1 X.2.1 dX1_renew_36 (by decide) ?_
  refine lv_sipush (v := 360) X.1 X.2.1 dX1_renew_37 (by decide) ?_
  obtain ⟨r11, S10, hS10, hf⟩ := bn2_ok hf
  refine r_callV (As := [.int 3, .int 360]) (rest := [.ref (B + 12)]) (st1 := [.int r11, .ref (B + 12)]) (κ := 7) X hw (c_X6_numberOf l D B cy A ad av 3 360 hw.2.2.2.2.1 hw.2.2.2.2.2 hS10) ⟨rfl, rfl, Nat.le_of_ble_eq_true rfl, Nat.le_of_ble_eq_true rfl⟩ rfl (by decide) (hCk hw.2.2.2.2.2 7 (by decide) rfl) tw_677 tw_678 tw_679 tw_27 tw_680 hd_X6_numberOf rfl hl.1 rfl (Nat.le_of_ble_eq_true rfl) dX1_renew_40 ⟨Nat.le_of_ble_eq_true rfl, Nat.le_of_ble_eq_true rfl⟩ rfl (fun H locs hw => ?_)
  obtain ⟨S12, eS12, hf⟩ := bn_ok hf
  replace eS12 := Option.some.inj eS12
  refine r_putI X hw (κ := 2) rfl inlX1 tyX1 tyX1_ok nmX1 1 (by decide) rfl (by decide) tw_655 (Or.inl rfl) (hCk hw.2.2.2.2.2 12 (by decide) rfl) rfl rfl hw.2.2.2.2.2 dX1_renew_43 (fun H locs hw => ?_)
  rw [eS12] at hw
  refine lv_aload_n X.1 X.2.1 dX1_renew_46 rfl (lv_at hl 0 rfl) ?_
  refine lv_aload_n X.1 X.2.1 dX1_renew_47 rfl (lv_at hl 1 rfl) ?_
  refine lv_aload_n X.1 X.2.1 dX1_renew_48 rfl (lv_at hl 2 rfl) ?_
  refine lv_aload_n X.1 X.2.1 dX1_renew_49 rfl (lv_at hl 0 rfl) ?_
  refine lv_iload_n X.1 X.2.1 dX1_renew_50 rfl (lv_at hl 3 rfl) ?_
  obtain ⟨r14, S13, hS13, hf⟩ := bn2_ok hf
  refine r_callV (As := [.int x3]) (rest := [.ref (B + 13), .ref (B + 7), .ref (B + 12)]) (st1 := [.int r14, .ref (B + 13), .ref (B + 7), .ref (B + 12)]) (κ := 2) X hw (c_X1_stepAfter l D B cy A ad av x3 hw.2.2.2.2.1 hw.2.2.2.2.2 hS13) ⟨rfl, rfl, Nat.le_of_ble_eq_true rfl, Nat.le_of_ble_eq_true rfl⟩ rfl (by decide) (hCk hw.2.2.2.2.2 12 (by decide) rfl) tw_681 tw_682 tw_683 tw_79 tw_684 hd_X1_stepAfter rfl hl.1 rfl (Nat.le_of_ble_eq_true rfl) dX1_renew_51 ⟨Nat.le_of_ble_eq_true rfl, Nat.le_of_ble_eq_true rfl⟩ rfl (fun H locs hw => ?_)
  obtain ⟨S15, hS15, hf⟩ := bn_ok hf
  refine r_callV (As := [.ref (B + 7), .ref (B + 13), .int r14]) (rest := []) (st1 := []) (κ := 2) X hw (c_X1_moveStep l D B cy A ad av r14 hw.2.2.2.2.1 hw.2.2.2.2.2 hS15) ⟨rfl, rfl, Nat.le_of_ble_eq_true rfl, Nat.le_of_ble_eq_true rfl⟩ rfl (by decide) (hCk hw.2.2.2.2.2 12 (by decide) rfl) tw_687 tw_688 tw_689 tw_79 tw_690 hd_X1_moveStep rfl hl.1 rfl (Nat.le_of_ble_eq_true rfl) dX1_renew_54 ⟨Nat.le_of_ble_eq_true rfl, Nat.le_of_ble_eq_true rfl⟩ rfl (fun H locs hw => ?_)
  cases hf
  exact r_vret X hw dX1_renew_57
set_option maxHeartbeats 4000000 in
theorem w_X1_follow_24 {p : Program} {l : Launch} {e : Env} {s : State} {m : MethodId} {args : Array Value} {below : List Frame} {meth : Method} {c : Code} {D : va_G} {B : Nat} {cy : Nat → ClassId} {A : Nat → Prop} {ad av : Nat → Nat} {Z : HS} (X : hCX p s m args meth c RX1 cX1_follow 5 none D cy A ad av)   (S : HS) (H : Heap) (locs : List Loc) (ls : Array Slot) (hf : fn_X1_follow_24 S = some Z) (hw : hWd D B cy A true hC S s.heap H locs) (hl : lv_has ls 5 []) : W p l e ({ frames := 3, cells := 0, slots := 0, locals := 72 } : Room) s m args below meth c H locs 0 0 (MQ below (hQo D B cy A true hC Z none) args s 0 0 A) (F0 m 24 ls []) := by
  unfold fn_X1_follow_24 at hf
  cases hf
  exact r_vret X hw dX1_follow_24
theorem hd_X1_follow : yX1_follow.cls = RX1 ∧ yX1_follow.cls ≠ "java/lang/invoke/MethodHandle" ∧ yX1_follow.cls ≠ "java/lang/invoke/VarHandle" ∧ (parseMethodDescriptor yX1_follow.desc).map (fun d => d.parameters.length) = some 3 := by decide +kernel
set_option maxHeartbeats 4000000 in
theorem c_X1_follow (l : Launch) (D : va_G) (B : Nat) (cy : Nat → ClassId) (A : Nat → Prop) (ad av : Nat → Nat) (x3 : Int32) {S Z : HS} (hfr : hFr S) (hG : hC S) (hf : fn_X1_follow x3 S = some Z) : hMet l yX1_follow cX1_follow 5 none ({ frames := 3, cells := 0, slots := 0, locals := 72 } : Room) D B cy A ad av true hC [.ref (B + 12), .ref (B + 7), .ref (B + 13), .int x3] S Z none 0 0 := by
  refine h_entry (by decide) hfr hG ?_
  intro p e s m below meth c args X hnm hw
  have hl := lv_entry ([.ref (B + 12), .ref (B + 7), .ref (B + 13), .int x3]) (n := 5) (Nat.le_of_ble_eq_true rfl)
  rw [lg_entry_eq]
  generalize (lg_sl ([.ref (B + 12), .ref (B + 7), .ref (B + 13), .int x3]) ++ List.replicate (5 - (lg_sl ([.ref (B + 12), .ref (B + 7), .ref (B + 13), .int x3])).length) Slot.unset).toArray = ls at hl ⊢
  have hl : lv_has ls 5 [(0, .ref (B + 12)), (1, .ref (B + 7)), (2, .ref (B + 13)), (3, .int x3)] := hl
  unfold fn_X1_follow at hf
  refine lv_aload_n X.1 X.2.1 dX1_follow_0 rfl (lv_at hl 0 rfl) ?_
  refine lv_iload_n X.1 X.2.1 dX1_follow_1 rfl (lv_at hl 3 rfl) ?_
  obtain ⟨r2, S1, hS1, hf⟩ := bn2_ok hf
  refine r_callV (As := [.int x3]) (rest := []) (st1 := [.int r2]) (κ := 2) X hw (c_X1_stepAfter l D B cy A ad av x3 hw.2.2.2.2.1 hw.2.2.2.2.2 hS1) ⟨rfl, rfl, Nat.le_of_ble_eq_true rfl, Nat.le_of_ble_eq_true rfl⟩ rfl (by decide) (hCk hw.2.2.2.2.2 12 (by decide) rfl) tw_681 tw_682 tw_683 tw_79 tw_684 hd_X1_stepAfter rfl hl.1 rfl (Nat.le_of_ble_eq_true rfl) dX1_follow_2 ⟨Nat.le_of_ble_eq_true rfl, Nat.le_of_ble_eq_true rfl⟩ rfl (fun H locs hw => ?_)
  refine lv_istore (lv' := [(4, .int r2), (0, .ref (B + 12)), (1, .ref (B + 7)), (2, .ref (B + 13)), (3, .int x3)]) X.1 X.2.1 dX1_follow_5 hl (by decide) rfl (fun ls hl => ?_)
  refine lv_iload X.1 X.2.1 dX1_follow_7 (lv_at hl 0 rfl) ?_
  refine lv_aload_n X.1 X.2.1 dX1_follow_9 rfl (lv_at hl 1 rfl) ?_
  refine r_getI X hw (κ := 2) rfl inlX1 4 (by decide) rfl (by decide) tw_691 (hCk hw.2.2.2.2.2 12 (by decide) rfl) dX1_follow_10 ?_
  refine lv_icmp_eq (tgt := 24) X.1 X.2.1 dX1_follow_13 (by decide) (fun hq => ?_) (fun hq => ?_)
  · replace hf := cd_tk hq hf
    exact w_X1_follow_24 X  _ _ _ _ hf hw (lv_sub hl [] rfl)
  · replace hf := cd_fk hq hf
    refine lv_aload_n X.1 X.2.1 dX1_follow_16 rfl (lv_at hl 1 rfl) ?_
    refine lv_aload_n X.1 X.2.1 dX1_follow_17 rfl (lv_at hl 2 rfl) ?_
    refine lv_aload_n X.1 X.2.1 dX1_follow_18 rfl (lv_at hl 3 rfl) ?_
    refine lv_iload X.1 X.2.1 dX1_follow_19 (lv_at hl 0 rfl) ?_
    obtain ⟨S3, hS3, hf⟩ := bn_ok hf
    refine r_callV (As := [.ref (B + 7), .ref (B + 13), .int r2]) (rest := []) (st1 := []) (κ := 2) X hw (c_X1_moveStep l D B cy A ad av r2 hw.2.2.2.2.1 hw.2.2.2.2.2 hS3) ⟨rfl, rfl, Nat.le_of_ble_eq_true rfl, Nat.le_of_ble_eq_true rfl⟩ rfl (by decide) (hCk hw.2.2.2.2.2 12 (by decide) rfl) tw_687 tw_688 tw_689 tw_79 tw_690 hd_X1_moveStep rfl hl.1 rfl (Nat.le_of_ble_eq_true rfl) dX1_follow_21 ⟨Nat.le_of_ble_eq_true rfl, Nat.le_of_ble_eq_true rfl⟩ rfl (fun H locs hw => ?_)
    exact w_X1_follow_24 X  _ _ _ _ hf hw (lv_sub hl [] rfl)
set_option maxHeartbeats 4000000 in
theorem w_X1_daysToNextStep_57 {p : Program} {l : Launch} {e : Env} {s : State} {m : MethodId} {args : Array Value} {below : List Frame} {meth : Method} {c : Code} {D : va_G} {B : Nat} {cy : Nat → ClassId} {A : Nat → Prop} {ad av : Nat → Nat} {rv : Int32} {Z : HS} (X : hCX p s m args meth c RX1 cX1_daysToNextStep 3 (some .int) D cy A ad av)  (y0 : Int32) (S : HS) (H : Heap) (locs : List Loc) (ls : Array Slot) (hf : fn_X1_daysToNextStep_57 y0 S = some (rv, Z)) (hw : hWd D B cy A true hC S s.heap H locs) (hl : lv_has ls 3 []) : W p l e ({ frames := 0, cells := 0, slots := 0, locals := 0 } : Room) s m args below meth c H locs 0 0 (MQ below (hQo D B cy A true hC Z (some (.int rv))) args s 0 0 A) (F0 m 57 ls [.int y0]) := by
  unfold fn_X1_daysToNextStep_57 at hf
  cases hf
  exact r_iret X hw dX1_daysToNextStep_57
set_option maxHeartbeats 4000000 in
theorem w_X1_daysToNextStep_35 {p : Program} {l : Launch} {e : Env} {s : State} {m : MethodId} {args : Array Value} {below : List Frame} {meth : Method} {c : Code} {D : va_G} {B : Nat} {cy : Nat → ClassId} {A : Nat → Prop} {ad av : Nat → Nat} {rv : Int32} {Z : HS} (X : hCX p s m args meth c RX1 cX1_daysToNextStep 3 (some .int) D cy A ad av)  (x1 : Int32) (y0 : Int32) (S : HS) (H : Heap) (locs : List Loc) (ls : Array Slot) (hf : fn_X1_daysToNextStep_35 x1 y0 S = some (rv, Z)) (hw : hWd D B cy A true hC S s.heap H locs) (hl : lv_has ls 3 [(0, .ref (B + 12)), (1, .int x1)]) : W p l e ({ frames := 0, cells := 0, slots := 0, locals := 0 } : Room) s m args below meth c H locs 0 0 (MQ below (hQo D B cy A true hC Z (some (.int rv))) args s 0 0 A) (F0 m 35 ls [.int y0]) := by
  unfold fn_X1_daysToNextStep_35 at hf
  refine lv_istore_n (lv' := [(2, .int y0), (0, .ref (B + 12)), (1, .int x1)]) X.1 X.2.1 dX1_daysToNextStep_35 rfl hl (by decide) rfl (fun ls hl => ?_)
  refine lv_iload_n X.1 X.2.1 dX1_daysToNextStep_36 rfl (lv_at hl 0 rfl) ?_
  refine lv_if_eq (tgt := 54) X.1 X.2.1 dX1_daysToNextStep_37 (by decide) (fun hq => ?_) (fun hq => ?_)
  · replace hf := cd_tk hq hf
    refine lv_sipush (v := 1200) X.1 X.2.1 dX1_daysToNextStep_54 (by decide) ?_
    exact w_X1_daysToNextStep_57 X  _ _ _ _ _ hf hw (lv_sub hl [] rfl)
  · replace hf := cd_fk hq hf
    refine lv_aload_n X.1 X.2.1 dX1_daysToNextStep_40 rfl (lv_at hl 1 rfl) ?_
    refine r_getI X hw (κ := 2) rfl inlX1 1 (by decide) rfl (by decide) tw_655 (hCk hw.2.2.2.2.2 12 (by decide) rfl) dX1_daysToNextStep_41 ?_
    refine lv_iload_n X.1 X.2.1 dX1_daysToNextStep_44 rfl (lv_at hl 2 rfl) ?_
    refine lv_aload_n X.1 X.2.1 dX1_daysToNextStep_45 rfl (lv_at hl 1 rfl) ?_
    refine r_getI X hw (κ := 2) rfl inlX1 1 (by decide) rfl (by decide) tw_655 (hCk hw.2.2.2.2.2 12 (by decide) rfl) dX1_daysToNextStep_46 ?_
    obtain ⟨hq, hf⟩ := gd_ok hf
    refine lv_irem X.1 X.2.1 dX1_daysToNextStep_49 hq ?_
    refine lv_isub X.1 X.2.1 dX1_daysToNextStep_50 ?_
    refine lv_goto (tgt := 57) X.1 X.2.1 dX1_daysToNextStep_51 (by decide) ?_
    exact w_X1_daysToNextStep_57 X  _ _ _ _ _ hf hw (lv_sub hl [] rfl)
set_option maxHeartbeats 4000000 in
theorem w_X1_daysToNextStep_34 {p : Program} {l : Launch} {e : Env} {s : State} {m : MethodId} {args : Array Value} {below : List Frame} {meth : Method} {c : Code} {D : va_G} {B : Nat} {cy : Nat → ClassId} {A : Nat → Prop} {ad av : Nat → Nat} {rv : Int32} {Z : HS} (X : hCX p s m args meth c RX1 cX1_daysToNextStep 3 (some .int) D cy A ad av)  (x1 : Int32) (S : HS) (H : Heap) (locs : List Loc) (ls : Array Slot) (hf : fn_X1_daysToNextStep_34 x1 S = some (rv, Z)) (hw : hWd D B cy A true hC S s.heap H locs) (hl : lv_has ls 3 [(0, .ref (B + 12)), (1, .int x1)]) : W p l e ({ frames := 0, cells := 0, slots := 0, locals := 0 } : Room) s m args below meth c H locs 0 0 (MQ below (hQo D B cy A true hC Z (some (.int rv))) args s 0 0 A) (F0 m 34 ls []) := by
  unfold fn_X1_daysToNextStep_34 at hf
  refine lv_iconst (v := 0) X.1 X.2.1 dX1_daysToNextStep_34 (by decide) ?_
  exact w_X1_daysToNextStep_35 X  _ _ _ _ _ _ hf hw (lv_sub hl [0, 1] rfl)
theorem hd_X1_daysToNextStep : yX1_daysToNextStep.cls = RX1 ∧ yX1_daysToNextStep.cls ≠ "java/lang/invoke/MethodHandle" ∧ yX1_daysToNextStep.cls ≠ "java/lang/invoke/VarHandle" ∧ (parseMethodDescriptor yX1_daysToNextStep.desc).map (fun d => d.parameters.length) = some 1 := by decide +kernel
set_option maxHeartbeats 4000000 in
theorem c_X1_daysToNextStep (l : Launch) (D : va_G) (B : Nat) (cy : Nat → ClassId) (A : Nat → Prop) (ad av : Nat → Nat) (x1 : Int32) {S Z : HS} {rv : Int32} (hfr : hFr S) (hG : hC S) (hf : fn_X1_daysToNextStep x1 S = some (rv, Z)) : hMet l yX1_daysToNextStep cX1_daysToNextStep 3 (some .int) ({ frames := 0, cells := 0, slots := 0, locals := 0 } : Room) D B cy A ad av true hC [.ref (B + 12), .int x1] S Z (some (.int rv)) 0 0 := by
  refine h_entry (by decide) hfr hG ?_
  intro p e s m below meth c args X hnm hw
  have hl := lv_entry ([.ref (B + 12), .int x1]) (n := 3) (Nat.le_of_ble_eq_true rfl)
  rw [lg_entry_eq]
  generalize (lg_sl ([.ref (B + 12), .int x1]) ++ List.replicate (3 - (lg_sl ([.ref (B + 12), .int x1])).length) Slot.unset).toArray = ls at hl ⊢
  have hl : lv_has ls 3 [(0, .ref (B + 12)), (1, .int x1)] := hl
  unfold fn_X1_daysToNextStep at hf
  refine lv_aload_n X.1 X.2.1 dX1_daysToNextStep_0 rfl (lv_at hl 0 rfl) ?_
  refine r_getR X hw (κ := 2) rfl inlX1 0 (by decide) rfl (by decide) tw_654 (hCk hw.2.2.2.2.2 12 (by decide) rfl) dX1_daysToNextStep_1 ?_
  refine r_ifnull (tgt := 34) X.1 X.2.1 dX1_daysToNextStep_4 (by decide) (fun hq => ?_) (fun c1 hq => ?_)
  · replace hf := cs_nk hq hf
    exact w_X1_daysToNextStep_34 X  _ _ _ _ _ hf hw (lv_sub hl [0, 1] rfl)
  · replace hf := cs_sk hq hf
    refine lv_aload_n X.1 X.2.1 dX1_daysToNextStep_7 rfl (lv_at hl 0 rfl) ?_
    refine r_getI X hw (κ := 2) rfl inlX1 1 (by decide) rfl (by decide) tw_655 (hCk hw.2.2.2.2.2 12 (by decide) rfl) dX1_daysToNextStep_8 ?_
    refine lv_if_le (tgt := 34) X.1 X.2.1 dX1_daysToNextStep_11 (by decide) (fun hq => ?_) (fun hq => ?_)
    · replace hf := cd_tk hq hf
      exact w_X1_daysToNextStep_34 X  _ _ _ _ _ hf hw (lv_sub hl [0, 1] rfl)
    · replace hf := cd_fk hq hf
      refine lv_aload_n X.1 X.2.1 dX1_daysToNextStep_14 rfl (lv_at hl 0 rfl) ?_
      refine r_getI X hw (κ := 2) rfl inlX1 4 (by decide) rfl (by decide) tw_691 (hCk hw.2.2.2.2.2 12 (by decide) rfl) dX1_daysToNextStep_15 ?_
      refine lv_aload_n X.1 X.2.1 dX1_daysToNextStep_18 rfl (lv_at hl 0 rfl) ?_
      refine r_getR X hw (κ := 2) rfl inlX1 0 (by decide) rfl (by decide) tw_654 (hCk hw.2.2.2.2.2 12 (by decide) rfl) dX1_daysToNextStep_19 ?_
      obtain ⟨c2, ec2, hf⟩ := bn_ok hf
      rw [ec2]
      obtain ⟨g3, hf⟩ := gd_ok hf
      refine r_getI X hw (κ := 3) rfl inlX2 3 (by decide) rfl (by decide) tw_685 g3 dX1_daysToNextStep_22 ?_
      refine lv_iconst (v := 1) X.1 X.2.1 dX1_daysToNextStep_25 (by decide) ?_
      refine lv_isub X.1 X.2.1 dX1_daysToNextStep_26 ?_
      refine lv_icmp_ge (tgt := 34) X.1 X.2.1 dX1_daysToNextStep_27 (by decide) (fun hq => ?_) (fun hq => ?_)
      · replace hf := cd_tk hq hf
        exact w_X1_daysToNextStep_34 X  _ _ _ _ _ hf hw (lv_sub hl [0, 1] rfl)
      · replace hf := cd_fk hq hf
        refine lv_iconst (v := 1) X.1 X.2.1 dX1_daysToNextStep_30 (by decide) ?_
        refine lv_goto (tgt := 35) X.1 X.2.1 dX1_daysToNextStep_31 (by decide) ?_
        exact w_X1_daysToNextStep_35 X  _ _ _ _ _ _ hf hw (lv_sub hl [0, 1] rfl)
set_option maxHeartbeats 4000000 in
theorem w_X7_isHeld_16 {p : Program} {l : Launch} {e : Env} {s : State} {m : MethodId} {args : Array Value} {below : List Frame} {meth : Method} {c : Code} {D : va_G} {B : Nat} {cy : Nat → ClassId} {A : Nat → Prop} {ad av : Nat → Nat} {rv : Int32} {Z : HS} (X : hCX p s m args meth c RX7 cX7_isHeld 1 (some .boolean) D cy A ad av)  (y0 : Int32) (S : HS) (H : Heap) (locs : List Loc) (ls : Array Slot) (hf : fn_X7_isHeld_16 y0 S = some (rv, Z)) (hw : hWd D B cy A true hC S s.heap H locs) (hl : lv_has ls 1 []) : W p l e ({ frames := 0, cells := 0, slots := 0, locals := 0 } : Room) s m args below meth c H locs 0 0 (MQ below (hQo D B cy A true hC Z (some (.int rv))) args s 0 0 A) (F0 m 16 ls [.int y0]) := by
  unfold fn_X7_isHeld_16 at hf
  obtain ⟨g1, hf⟩ := gd_ok hf
  cases hf
  exact r_zret X hw g1 dX7_isHeld_16
theorem hd_X7_isHeld : yX7_isHeld.cls = RX7 ∧ yX7_isHeld.cls ≠ "java/lang/invoke/MethodHandle" ∧ yX7_isHeld.cls ≠ "java/lang/invoke/VarHandle" ∧ (parseMethodDescriptor yX7_isHeld.desc).map (fun d => d.parameters.length) = some 0 := by decide +kernel
set_option maxHeartbeats 4000000 in
theorem c_X7_isHeld (l : Launch) (D : va_G) (B : Nat) (cy : Nat → ClassId) (A : Nat → Prop) (ad av : Nat → Nat)  {S Z : HS} {rv : Int32} (hfr : hFr S) (hG : hC S) (hf : fn_X7_isHeld S = some (rv, Z)) : hMet l yX7_isHeld cX7_isHeld 1 (some .boolean) ({ frames := 0, cells := 0, slots := 0, locals := 0 } : Room) D B cy A ad av true hC [.ref (B + 11)] S Z (some (.int rv)) 0 0 := by
  refine h_entry (by decide) hfr hG ?_
  intro p e s m below meth c args X hnm hw
  have hl := lv_entry ([.ref (B + 11)]) (n := 1) (Nat.le_of_ble_eq_true rfl)
  rw [lg_entry_eq]
  generalize (lg_sl ([.ref (B + 11)]) ++ List.replicate (1 - (lg_sl ([.ref (B + 11)])).length) Slot.unset).toArray = ls at hl ⊢
  have hl : lv_has ls 1 [(0, .ref (B + 11))] := hl
  unfold fn_X7_isHeld at hf
  refine lv_aload_n X.1 X.2.1 dX7_isHeld_0 rfl (lv_at hl 0 rfl) ?_
  refine r_getF X hw (κ := 8) rfl inlX7 5 (by decide) rfl (by decide) tw_81 (hCk hw.2.2.2.2.2 11 (by decide) rfl) (hCr (c := 11) (k := 5) (d := 13) hw.2.2.2.2.2 (by decide)) dX7_isHeld_1 ?_
  refine lv_bipush (v := 6) X.1 X.2.1 dX7_isHeld_4 (by decide) ?_
  obtain ⟨g1, hf⟩ := gd_ok hf
  refine r_iald X hw (hCk hw.2.2.2.2.2 13 (by decide) rfl) (hCn hw.2.2.2.2.2 13 (by decide) rfl) g1 dX7_isHeld_6 ?_
  refine lv_iconst (v := 1) X.1 X.2.1 dX7_isHeld_7 (by decide) ?_
  refine lv_icmp_ne (tgt := 15) X.1 X.2.1 dX7_isHeld_8 (by decide) (fun hq => ?_) (fun hq => ?_)
  · replace hf := cd_fk hq hf
    refine lv_iconst (v := 0) X.1 X.2.1 dX7_isHeld_15 (by decide) ?_
    exact w_X7_isHeld_16 X  _ _ _ _ _ hf hw (lv_sub hl [] rfl)
  · replace hf := cd_tk hq hf
    refine lv_iconst (v := 1) X.1 X.2.1 dX7_isHeld_11 (by decide) ?_
    refine lv_goto (tgt := 16) X.1 X.2.1 dX7_isHeld_12 (by decide) ?_
    exact w_X7_isHeld_16 X  _ _ _ _ _ hf hw (lv_sub hl [] rfl)
set_option maxHeartbeats 4000000 in
theorem w_X7_give_86 {p : Program} {l : Launch} {e : Env} {s : State} {m : MethodId} {args : Array Value} {below : List Frame} {meth : Method} {c : Code} {D : va_G} {B : Nat} {cy : Nat → ClassId} {A : Nat → Prop} {ad av : Nat → Nat} {Z : HS} (X : hCX p s m args meth c RX7 cX7_give 1 none D cy A ad av)   (S : HS) (H : Heap) (locs : List Loc) (ls : Array Slot) (hf : fn_X7_give_86 S = some Z) (hw : hWd D B cy A true hC S s.heap H locs) (hl : lv_has ls 1 []) : W p l e ({ frames := 1, cells := 0, slots := 0, locals := 20 } : Room) s m args below meth c H locs 0 0 (MQ below (hQo D B cy A true hC Z none) args s 0 0 A) (F0 m 86 ls []) := by
  unfold fn_X7_give_86 at hf
  cases hf
  exact r_vret X hw dX7_give_86
set_option maxHeartbeats 4000000 in
theorem w_X7_give_30 {p : Program} {l : Launch} {e : Env} {s : State} {m : MethodId} {args : Array Value} {below : List Frame} {meth : Method} {c : Code} {D : va_G} {B : Nat} {cy : Nat → ClassId} {A : Nat → Prop} {ad av : Nat → Nat} {Z : HS} (X : hCX p s m args meth c RX7 cX7_give 1 none D cy A ad av)   (S : HS) (H : Heap) (locs : List Loc) (ls : Array Slot) (hf : fn_X7_give_30 S = some Z) (hw : hWd D B cy A true hC S s.heap H locs) (hl : lv_has ls 1 [(0, .ref (B + 11))]) : W p l e ({ frames := 1, cells := 0, slots := 0, locals := 20 } : Room) s m args below meth c H locs 0 0 (MQ below (hQo D B cy A true hC Z none) args s 0 0 A) (F0 m 30 ls []) := by
  unfold fn_X7_give_30 at hf
  refine lv_aload_n X.1 X.2.1 dX7_give_30 rfl (lv_at hl 0 rfl) ?_
  obtain ⟨r2, S1, hS1, hf⟩ := bn2_ok hf
  refine r_callV (As := []) (rest := []) (st1 := [.int r2]) (κ := 8) X hw (c_X7_isHeld l D B cy A ad av  hw.2.2.2.2.1 hw.2.2.2.2.2 hS1) ⟨rfl, rfl, Nat.le_of_ble_eq_true rfl, Nat.le_of_ble_eq_true rfl⟩ rfl (by decide) (hCk hw.2.2.2.2.2 11 (by decide) rfl) tw_712 tw_713 tw_714 tw_31 tw_715 hd_X7_isHeld rfl hl.1 rfl (Nat.le_of_ble_eq_true rfl) dX7_give_31 ⟨Nat.le_of_ble_eq_true rfl, Nat.le_of_ble_eq_true rfl⟩ rfl (fun H locs hw => ?_)
  refine lv_if_ne (tgt := 45) X.1 X.2.1 dX7_give_34 (by decide) (fun hq => ?_) (fun hq => ?_)
  · replace hf := cd_fk hq hf
    refine lv_aload_n X.1 X.2.1 dX7_give_45 rfl (lv_at hl 0 rfl) ?_
    refine r_getF X hw (κ := 8) rfl inlX7 4 (by decide) rfl (by decide) tw_80 (hCk hw.2.2.2.2.2 11 (by decide) rfl) (hCr (c := 11) (k := 4) (d := 12) hw.2.2.2.2.2 (by decide)) dX7_give_46 ?_
    refine r_getI X hw (κ := 2) rfl inlX1 6 (by decide) rfl (by decide) tw_711 (hCk hw.2.2.2.2.2 12 (by decide) rfl) dX7_give_49 ?_
    refine lv_aload_n X.1 X.2.1 dX7_give_52 rfl (lv_at hl 0 rfl) ?_
    refine r_getI X hw (κ := 8) rfl inlX7 16 (by decide) rfl (by decide) tw_599 (hCk hw.2.2.2.2.2 11 (by decide) rfl) dX7_give_53 ?_
    refine lv_icmp_lt (tgt := 78) X.1 X.2.1 dX7_give_56 (by decide) (fun hq => ?_) (fun hq => ?_)
    · replace hf := cd_tk hq hf
      refine lv_aload_n X.1 X.2.1 dX7_give_78 rfl (lv_at hl 0 rfl) ?_
      refine lv_aload_n X.1 X.2.1 dX7_give_79 rfl (lv_at hl 0 rfl) ?_
      refine r_getI X hw (κ := 8) rfl inlX7 16 (by decide) rfl (by decide) tw_599 (hCk hw.2.2.2.2.2 11 (by decide) rfl) dX7_give_80 ?_
      obtain ⟨S3, eS3, hf⟩ := bn_ok hf
      replace eS3 := Option.some.inj eS3
      refine r_putI X hw (κ := 8) rfl inlX7 tyX7 tyX7_ok nmX7 17 (by decide) rfl (by decide) tw_600 (Or.inl rfl) (hCk hw.2.2.2.2.2 11 (by decide) rfl) rfl rfl hw.2.2.2.2.2 dX7_give_83 (fun H locs hw => ?_)
      rw [eS3] at hw
      exact w_X7_give_86 X  _ _ _ _ hf hw (lv_sub hl [] rfl)
    · replace hf := cd_fk hq hf
      refine lv_aload_n X.1 X.2.1 dX7_give_59 rfl (lv_at hl 0 rfl) ?_
      refine lv_iconst (v := 0) X.1 X.2.1 dX7_give_60 (by decide) ?_
      obtain ⟨S4, eS4, hf⟩ := bn_ok hf
      replace eS4 := Option.some.inj eS4
      refine r_putI X hw (κ := 8) rfl inlX7 tyX7 tyX7_ok nmX7 16 (by decide) rfl (by decide) tw_599 (Or.inl rfl) (hCk hw.2.2.2.2.2 11 (by decide) rfl) rfl rfl hw.2.2.2.2.2 dX7_give_61 (fun H locs hw => ?_)
      rw [eS4] at hw
      refine lv_aload_n X.1 X.2.1 dX7_give_64 rfl (lv_at hl 0 rfl) ?_
      refine lv_aload_n X.1 X.2.1 dX7_give_65 rfl (lv_at hl 0 rfl) ?_
      refine r_getF X hw (κ := 8) rfl inlX7 4 (by decide) rfl (by decide) tw_80 (hCk hw.2.2.2.2.2 11 (by decide) rfl) (hCr (c := 11) (k := 4) (d := 12) hw.2.2.2.2.2 (by decide)) dX7_give_66 ?_
      refine r_getI X hw (κ := 2) rfl inlX1 6 (by decide) rfl (by decide) tw_711 (hCk hw.2.2.2.2.2 12 (by decide) rfl) dX7_give_69 ?_
      obtain ⟨S5, eS5, hf⟩ := bn_ok hf
      replace eS5 := Option.some.inj eS5
      refine r_putI X hw (κ := 8) rfl inlX7 tyX7 tyX7_ok nmX7 17 (by decide) rfl (by decide) tw_600 (Or.inl rfl) (hCk hw.2.2.2.2.2 11 (by decide) rfl) rfl rfl hw.2.2.2.2.2 dX7_give_72 (fun H locs hw => ?_)
      rw [eS5] at hw
      refine lv_goto (tgt := 86) X.1 X.2.1 dX7_give_75 (by decide) ?_
      exact w_X7_give_86 X  _ _ _ _ hf hw (lv_sub hl [] rfl)
  · replace hf := cd_tk hq hf
    refine lv_aload_n X.1 X.2.1 dX7_give_37 rfl (lv_at hl 0 rfl) ?_
    refine lv_iconst (v := 0) X.1 X.2.1 dX7_give_38 (by decide) ?_
    obtain ⟨S6, eS6, hf⟩ := bn_ok hf
    replace eS6 := Option.some.inj eS6
    refine r_putI X hw (κ := 8) rfl inlX7 tyX7 tyX7_ok nmX7 17 (by decide) rfl (by decide) tw_600 (Or.inl rfl) (hCk hw.2.2.2.2.2 11 (by decide) rfl) rfl rfl hw.2.2.2.2.2 dX7_give_39 (fun H locs hw => ?_)
    rw [eS6] at hw
    refine lv_goto (tgt := 86) X.1 X.2.1 dX7_give_42 (by decide) ?_
    exact w_X7_give_86 X  _ _ _ _ hf hw (lv_sub hl [] rfl)
set_option maxHeartbeats 4000000 in
theorem w_X7_give_27 {p : Program} {l : Launch} {e : Env} {s : State} {m : MethodId} {args : Array Value} {below : List Frame} {meth : Method} {c : Code} {D : va_G} {B : Nat} {cy : Nat → ClassId} {A : Nat → Prop} {ad av : Nat → Nat} {Z : HS} (X : hCX p s m args meth c RX7 cX7_give 1 none D cy A ad av)  (y0 : Int32) (S : HS) (H : Heap) (locs : List Loc) (ls : Array Slot) (hf : fn_X7_give_27 y0 S = some Z) (hw : hWd D B cy A true hC S s.heap H locs) (hl : lv_has ls 1 [(0, .ref (B + 11))]) : W p l e ({ frames := 1, cells := 0, slots := 0, locals := 20 } : Room) s m args below meth c H locs 0 0 (MQ below (hQo D B cy A true hC Z none) args s 0 0 A) (F0 m 27 ls [.int y0, .ref (B + 11)]) := by
  unfold fn_X7_give_27 at hf
  obtain ⟨S1, eS1, hf⟩ := bn_ok hf
  replace eS1 := Option.some.inj eS1
  refine r_putI X hw (κ := 8) rfl inlX7 tyX7 tyX7_ok nmX7 16 (by decide) rfl (by decide) tw_599 (Or.inl rfl) (hCk hw.2.2.2.2.2 11 (by decide) rfl) rfl rfl hw.2.2.2.2.2 dX7_give_27 (fun H locs hw => ?_)
  rw [eS1] at hw
  exact w_X7_give_30 X  _ _ _ _ hf hw (lv_sub hl [0] rfl)
theorem hd_X7_give : yX7_give.cls = RX7 ∧ yX7_give.cls ≠ "java/lang/invoke/MethodHandle" ∧ yX7_give.cls ≠ "java/lang/invoke/VarHandle" ∧ (parseMethodDescriptor yX7_give.desc).map (fun d => d.parameters.length) = some 0 := by decide +kernel
set_option maxHeartbeats 4000000 in
theorem c_X7_give (l : Launch) (D : va_G) (B : Nat) (cy : Nat → ClassId) (A : Nat → Prop) (ad av : Nat → Nat)  {S Z : HS} (hfr : hFr S) (hG : hC S) (hf : fn_X7_give S = some Z) : hMet l yX7_give cX7_give 1 none ({ frames := 1, cells := 0, slots := 0, locals := 20 } : Room) D B cy A ad av true hC [.ref (B + 11)] S Z none 0 0 := by
  refine h_entry (by decide) hfr hG ?_
  intro p e s m below meth c args X hnm hw
  have hl := lv_entry ([.ref (B + 11)]) (n := 1) (Nat.le_of_ble_eq_true rfl)
  rw [lg_entry_eq]
  generalize (lg_sl ([.ref (B + 11)]) ++ List.replicate (1 - (lg_sl ([.ref (B + 11)])).length) Slot.unset).toArray = ls at hl ⊢
  have hl : lv_has ls 1 [(0, .ref (B + 11))] := hl
  unfold fn_X7_give at hf
  refine lv_aload_n X.1 X.2.1 dX7_give_0 rfl (lv_at hl 0 rfl) ?_
  refine r_getI X hw (κ := 8) rfl inlX7 13 (by decide) rfl (by decide) tw_637 (hCk hw.2.2.2.2.2 11 (by decide) rfl) dX7_give_1 ?_
  refine lv_if_eq (tgt := 30) X.1 X.2.1 dX7_give_4 (by decide) (fun hq => ?_) (fun hq => ?_)
  · replace hf := cd_tk hq hf
    exact w_X7_give_30 X  _ _ _ _ hf hw (lv_sub hl [0] rfl)
  · replace hf := cd_fk hq hf
    refine lv_aload_n X.1 X.2.1 dX7_give_7 rfl (lv_at hl 0 rfl) ?_
    refine lv_aload_n X.1 X.2.1 dX7_give_8 rfl (lv_at hl 0 rfl) ?_
    refine r_getF X hw (κ := 8) rfl inlX7 5 (by decide) rfl (by decide) tw_81 (hCk hw.2.2.2.2.2 11 (by decide) rfl) (hCr (c := 11) (k := 5) (d := 13) hw.2.2.2.2.2 (by decide)) dX7_give_9 ?_
    refine lv_bipush (v := 8) X.1 X.2.1 dX7_give_12 (by decide) ?_
    obtain ⟨g1, hf⟩ := gd_ok hf
    refine r_iald X hw (hCk hw.2.2.2.2.2 13 (by decide) rfl) (hCn hw.2.2.2.2.2 13 (by decide) rfl) g1 dX7_give_14 ?_
    refine lv_iconst (v := 1) X.1 X.2.1 dX7_give_15 (by decide) ?_
    refine lv_icmp_ne (tgt := 26) X.1 X.2.1 dX7_give_16 (by decide) (fun hq => ?_) (fun hq => ?_)
    · replace hf := cd_fk hq hf
      refine lv_iconst (v := 0) X.1 X.2.1 dX7_give_26 (by decide) ?_
      exact w_X7_give_27 X  _ _ _ _ _ hf hw (lv_sub hl [0] rfl)
    · replace hf := cd_tk hq hf
      refine lv_aload_n X.1 X.2.1 dX7_give_19 rfl (lv_at hl 0 rfl) ?_
      refine r_getI X hw (κ := 8) rfl inlX7 17 (by decide) rfl (by decide) tw_600 (hCk hw.2.2.2.2.2 11 (by decide) rfl) dX7_give_20 ?_
      refine lv_goto (tgt := 27) X.1 X.2.1 dX7_give_23 (by decide) ?_
      exact w_X7_give_27 X  _ _ _ _ _ hf hw (lv_sub hl [0] rfl)
set_option maxHeartbeats 4000000 in
theorem w_X7_takeNote_113 {p : Program} {l : Launch} {e : Env} {s : State} {m : MethodId} {args : Array Value} {below : List Frame} {meth : Method} {c : Code} {D : va_G} {B : Nat} {cy : Nat → ClassId} {A : Nat → Prop} {ad av : Nat → Nat} {Z : HS} (X : hCX p s m args meth c RX7 cX7_takeNote 2 none D cy A ad av)   (S : HS) (H : Heap) (locs : List Loc) (ls : Array Slot) (hf : fn_X7_takeNote_113 S = some Z) (hw : hWd D B cy A true hC S s.heap H locs) (hl : lv_has ls 2 []) : W p l e ({ frames := 0, cells := 0, slots := 0, locals := 0 } : Room) s m args below meth c H locs 0 0 (MQ below (hQo D B cy A true hC Z none) args s 0 0 A) (F0 m 113 ls []) := by
  unfold fn_X7_takeNote_113 at hf
  cases hf
  exact r_vret X hw dX7_takeNote_113
set_option maxHeartbeats 4000000 in
theorem w_X7_takeNote_99 {p : Program} {l : Launch} {e : Env} {s : State} {m : MethodId} {args : Array Value} {below : List Frame} {meth : Method} {c : Code} {D : va_G} {B : Nat} {cy : Nat → ClassId} {A : Nat → Prop} {ad av : Nat → Nat} {Z : HS} (X : hCX p s m args meth c RX7 cX7_takeNote 2 none D cy A ad av)  (x1 : Nat) (S : HS) (H : Heap) (locs : List Loc) (ls : Array Slot) (hf : fn_X7_takeNote_99 x1 S = some Z) (hw : hWd D B cy A true hC S s.heap H locs) (hl : lv_has ls 2 [(0, .ref (B + 11)), (1, .ref (B + x1))]) : W p l e ({ frames := 0, cells := 0, slots := 0, locals := 0 } : Room) s m args below meth c H locs 0 0 (MQ below (hQo D B cy A true hC Z none) args s 0 0 A) (F0 m 99 ls []) := by
  unfold fn_X7_takeNote_99 at hf
  refine lv_aload_n X.1 X.2.1 dX7_takeNote_99 rfl (lv_at hl 1 rfl) ?_
  obtain ⟨g1, hf⟩ := gd_ok hf
  refine r_getI X hw (κ := 4) rfl inlX3 1 (by decide) rfl (by decide) tw_645 g1 dX7_takeNote_100 ?_
  refine lv_bipush (v := 8) X.1 X.2.1 dX7_takeNote_103 (by decide) ?_
  refine lv_icmp_ne (tgt := 113) X.1 X.2.1 dX7_takeNote_105 (by decide) (fun hq => ?_) (fun hq => ?_)
  · replace hf := cd_fk hq hf
    exact w_X7_takeNote_113 X  _ _ _ _ hf hw (lv_sub hl [] rfl)
  · replace hf := cd_tk hq hf
    refine lv_aload_n X.1 X.2.1 dX7_takeNote_108 rfl (lv_at hl 0 rfl) ?_
    refine lv_iconst (v := 1) X.1 X.2.1 dX7_takeNote_109 (by decide) ?_
    obtain ⟨S2, eS2, hf⟩ := bn_ok hf
    replace eS2 := Option.some.inj eS2
    refine r_putI X hw (κ := 8) rfl inlX7 tyX7 tyX7_ok nmX7 13 (by decide) rfl (by decide) tw_637 (Or.inl rfl) (hCk hw.2.2.2.2.2 11 (by decide) rfl) (zb_n (by decide)) (zb_f (by decide)) hw.2.2.2.2.2 dX7_takeNote_110 (fun H locs hw => ?_)
    rw [eS2] at hw
    exact w_X7_takeNote_113 X  _ _ _ _ hf hw (lv_sub hl [] rfl)
set_option maxHeartbeats 4000000 in
theorem w_X7_takeNote_71 {p : Program} {l : Launch} {e : Env} {s : State} {m : MethodId} {args : Array Value} {below : List Frame} {meth : Method} {c : Code} {D : va_G} {B : Nat} {cy : Nat → ClassId} {A : Nat → Prop} {ad av : Nat → Nat} {Z : HS} (X : hCX p s m args meth c RX7 cX7_takeNote 2 none D cy A ad av)   (S : HS) (H : Heap) (locs : List Loc) (ls : Array Slot) (hf : fn_X7_takeNote_71 S = some Z) (hw : hWd D B cy A true hC S s.heap H locs) (hl : lv_has ls 2 []) : W p l e ({ frames := 0, cells := 0, slots := 0, locals := 0 } : Room) s m args below meth c H locs 0 0 (MQ below (hQo D B cy A true hC Z none) args s 0 0 A) (F0 m 71 ls []) := by
  unfold fn_X7_takeNote_71 at hf
  cases hf
  exact r_vret X hw dX7_takeNote_71
set_option maxHeartbeats 4000000 in
theorem w_X7_takeNote_41 {p : Program} {l : Launch} {e : Env} {s : State} {m : MethodId} {args : Array Value} {below : List Frame} {meth : Method} {c : Code} {D : va_G} {B : Nat} {cy : Nat → ClassId} {A : Nat → Prop} {ad av : Nat → Nat} {Z : HS} (X : hCX p s m args meth c RX7 cX7_takeNote 2 none D cy A ad av)  (x1 : Nat) (S : HS) (H : Heap) (locs : List Loc) (ls : Array Slot) (hf : fn_X7_takeNote_41 x1 S = some Z) (hw : hWd D B cy A true hC S s.heap H locs) (hl : lv_has ls 2 [(0, .ref (B + 11)), (1, .ref (B + x1))]) : W p l e ({ frames := 0, cells := 0, slots := 0, locals := 0 } : Room) s m args below meth c H locs 0 0 (MQ below (hQo D B cy A true hC Z none) args s 0 0 A) (F0 m 41 ls []) := by
  unfold fn_X7_takeNote_41 at hf
  refine lv_aload_n X.1 X.2.1 dX7_takeNote_41 rfl (lv_at hl 1 rfl) ?_
  obtain ⟨g1, hf⟩ := gd_ok hf
  refine r_getI X hw (κ := 4) rfl inlX3 0 (by decide) rfl (by decide) tw_646 g1 dX7_takeNote_42 ?_
  refine lv_aload_n X.1 X.2.1 dX7_takeNote_45 rfl (lv_at hl 0 rfl) ?_
  refine r_getI X hw (κ := 8) rfl inlX7 7 (by decide) rfl (by decide) tw_592 (hCk hw.2.2.2.2.2 11 (by decide) rfl) dX7_takeNote_46 ?_
  refine lv_icmp_ne (tgt := 71) X.1 X.2.1 dX7_takeNote_49 (by decide) (fun hq => ?_) (fun hq => ?_)
  · replace hf := cd_fk hq hf
    exact w_X7_takeNote_71 X  _ _ _ _ hf hw (lv_sub hl [] rfl)
  · replace hf := cd_tk hq hf
    refine lv_aload_n X.1 X.2.1 dX7_takeNote_52 rfl (lv_at hl 1 rfl) ?_
    obtain ⟨g2, hf⟩ := gd_ok hf
    refine r_getI X hw (κ := 4) rfl inlX3 1 (by decide) rfl (by decide) tw_645 g2 dX7_takeNote_53 ?_
    refine lv_if_lt (tgt := 71) X.1 X.2.1 dX7_takeNote_56 (by decide) (fun hq => ?_) (fun hq => ?_)
    · replace hf := cd_tk hq hf
      exact w_X7_takeNote_71 X  _ _ _ _ hf hw (lv_sub hl [] rfl)
    · replace hf := cd_fk hq hf
      refine lv_aload_n X.1 X.2.1 dX7_takeNote_59 rfl (lv_at hl 1 rfl) ?_
      obtain ⟨g3, hf⟩ := gd_ok hf
      refine r_getI X hw (κ := 4) rfl inlX3 1 (by decide) rfl (by decide) tw_645 g3 dX7_takeNote_60 ?_
      refine lv_aload_n X.1 X.2.1 dX7_takeNote_63 rfl (lv_at hl 0 rfl) ?_
      refine r_getF X hw (κ := 8) rfl inlX7 5 (by decide) rfl (by decide) tw_81 (hCk hw.2.2.2.2.2 11 (by decide) rfl) (hCr (c := 11) (k := 5) (d := 13) hw.2.2.2.2.2 (by decide)) dX7_takeNote_64 ?_
      refine r_alen (κ := 21) X hw (hCk hw.2.2.2.2.2 13 (by decide) rfl) (by decide) (hCn hw.2.2.2.2.2 13 (by decide) rfl) dX7_takeNote_67 ?_
      refine lv_icmp_lt (tgt := 72) X.1 X.2.1 dX7_takeNote_68 (by decide) (fun hq => ?_) (fun hq => ?_)
      · replace hf := cd_tk hq hf
        refine lv_aload_n X.1 X.2.1 dX7_takeNote_72 rfl (lv_at hl 0 rfl) ?_
        refine r_getF X hw (κ := 8) rfl inlX7 5 (by decide) rfl (by decide) tw_81 (hCk hw.2.2.2.2.2 11 (by decide) rfl) (hCr (c := 11) (k := 5) (d := 13) hw.2.2.2.2.2 (by decide)) dX7_takeNote_73 ?_
        refine lv_aload_n X.1 X.2.1 dX7_takeNote_76 rfl (lv_at hl 1 rfl) ?_
        obtain ⟨g4, hf⟩ := gd_ok hf
        refine r_getI X hw (κ := 4) rfl inlX3 1 (by decide) rfl (by decide) tw_645 g4 dX7_takeNote_77 ?_
        refine lv_aload_n X.1 X.2.1 dX7_takeNote_80 rfl (lv_at hl 1 rfl) ?_
        obtain ⟨g5, hf⟩ := gd_ok hf
        refine r_getI X hw (κ := 4) rfl inlX3 4 (by decide) rfl (by decide) tw_647 g5 dX7_takeNote_81 ?_
        obtain ⟨g6, hf⟩ := gd_ok hf
        obtain ⟨S7, eS7, hf⟩ := bn_ok hf
        replace eS7 := Option.some.inj eS7
        refine r_iast X hw (hCk hw.2.2.2.2.2 13 (by decide) rfl) (hCn hw.2.2.2.2.2 13 (by decide) rfl) g6 hw.2.2.2.2.2 dX7_takeNote_84 (fun H locs hw => ?_)
        rw [eS7] at hw
        refine lv_aload_n X.1 X.2.1 dX7_takeNote_85 rfl (lv_at hl 1 rfl) ?_
        obtain ⟨g8, hf⟩ := gd_ok hf
        refine r_getI X hw (κ := 4) rfl inlX3 1 (by decide) rfl (by decide) tw_645 g8 dX7_takeNote_86 ?_
        refine lv_bipush (v := 6) X.1 X.2.1 dX7_takeNote_89 (by decide) ?_
        refine lv_icmp_ge (tgt := 99) X.1 X.2.1 dX7_takeNote_91 (by decide) (fun hq => ?_) (fun hq => ?_)
        · replace hf := cd_tk hq hf
          exact w_X7_takeNote_99 X  _ _ _ _ _ hf hw (lv_sub hl [0, 1] rfl)
        · replace hf := cd_fk hq hf
          refine lv_aload_n X.1 X.2.1 dX7_takeNote_94 rfl (lv_at hl 0 rfl) ?_
          refine lv_iconst (v := 1) X.1 X.2.1 dX7_takeNote_95 (by decide) ?_
          obtain ⟨S9, eS9, hf⟩ := bn_ok hf
          replace eS9 := Option.some.inj eS9
          refine r_putI X hw (κ := 8) rfl inlX7 tyX7 tyX7_ok nmX7 12 (by decide) rfl (by decide) tw_601 (Or.inl rfl) (hCk hw.2.2.2.2.2 11 (by decide) rfl) (zb_n (by decide)) (zb_f (by decide)) hw.2.2.2.2.2 dX7_takeNote_96 (fun H locs hw => ?_)
          rw [eS9] at hw
          exact w_X7_takeNote_99 X  _ _ _ _ _ hf hw (lv_sub hl [0, 1] rfl)
      · replace hf := cd_fk hq hf
        exact w_X7_takeNote_71 X  _ _ _ _ hf hw (lv_sub hl [] rfl)
theorem hd_X7_takeNote : yX7_takeNote.cls = RX7 ∧ yX7_takeNote.cls ≠ "java/lang/invoke/MethodHandle" ∧ yX7_takeNote.cls ≠ "java/lang/invoke/VarHandle" ∧ (parseMethodDescriptor yX7_takeNote.desc).map (fun d => d.parameters.length) = some 1 := by decide +kernel
set_option maxHeartbeats 4000000 in
theorem c_X7_takeNote (l : Launch) (D : va_G) (B : Nat) (cy : Nat → ClassId) (A : Nat → Prop) (ad av : Nat → Nat) (x1 : Nat) {S Z : HS} (hfr : hFr S) (hG : hC S) (hf : fn_X7_takeNote x1 S = some Z) : hMet l yX7_takeNote cX7_takeNote 2 none ({ frames := 0, cells := 0, slots := 0, locals := 0 } : Room) D B cy A ad av true hC [.ref (B + 11), .ref (B + x1)] S Z none 0 0 := by
  refine h_entry (by decide) hfr hG ?_
  intro p e s m below meth c args X hnm hw
  have hl := lv_entry ([.ref (B + 11), .ref (B + x1)]) (n := 2) (Nat.le_of_ble_eq_true rfl)
  rw [lg_entry_eq]
  generalize (lg_sl ([.ref (B + 11), .ref (B + x1)]) ++ List.replicate (2 - (lg_sl ([.ref (B + 11), .ref (B + x1)])).length) Slot.unset).toArray = ls at hl ⊢
  have hl : lv_has ls 2 [(0, .ref (B + 11)), (1, .ref (B + x1))] := hl
  unfold fn_X7_takeNote at hf
  refine lv_aload_n X.1 X.2.1 dX7_takeNote_0 rfl (lv_at hl 1 rfl) ?_
  obtain ⟨g1, hf⟩ := gd_ok hf
  refine r_getI X hw (κ := 4) rfl inlX3 1 (by decide) rfl (by decide) tw_645 g1 dX7_takeNote_1 ?_
  refine lv_bipush (v := 6) X.1 X.2.1 dX7_takeNote_4 (by decide) ?_
  refine lv_icmp_ne (tgt := 41) X.1 X.2.1 dX7_takeNote_6 (by decide) (fun hq => ?_) (fun hq => ?_)
  · replace hf := cd_fk hq hf
    exact w_X7_takeNote_41 X  _ _ _ _ _ hf hw (lv_sub hl [0, 1] rfl)
  · replace hf := cd_tk hq hf
    refine lv_aload_n X.1 X.2.1 dX7_takeNote_9 rfl (lv_at hl 1 rfl) ?_
    obtain ⟨g2, hf⟩ := gd_ok hf
    refine r_getI X hw (κ := 4) rfl inlX3 0 (by decide) rfl (by decide) tw_646 g2 dX7_takeNote_10 ?_
    refine lv_if_lt (tgt := 41) X.1 X.2.1 dX7_takeNote_13 (by decide) (fun hq => ?_) (fun hq => ?_)
    · replace hf := cd_tk hq hf
      exact w_X7_takeNote_41 X  _ _ _ _ _ hf hw (lv_sub hl [0, 1] rfl)
    · replace hf := cd_fk hq hf
      refine lv_aload_n X.1 X.2.1 dX7_takeNote_16 rfl (lv_at hl 1 rfl) ?_
      obtain ⟨g3, hf⟩ := gd_ok hf
      refine r_getI X hw (κ := 4) rfl inlX3 0 (by decide) rfl (by decide) tw_646 g3 dX7_takeNote_17 ?_
      refine lv_aload_n X.1 X.2.1 dX7_takeNote_20 rfl (lv_at hl 0 rfl) ?_
      refine r_getF X hw (κ := 8) rfl inlX7 6 (by decide) rfl (by decide) tw_82 (hCk hw.2.2.2.2.2 11 (by decide) rfl) (hCr (c := 11) (k := 6) (d := 14) hw.2.2.2.2.2 (by decide)) dX7_takeNote_21 ?_
      refine r_alen (κ := 21) X hw (hCk hw.2.2.2.2.2 14 (by decide) rfl) (by decide) (hCn hw.2.2.2.2.2 14 (by decide) rfl) dX7_takeNote_24 ?_
      refine lv_icmp_ge (tgt := 41) X.1 X.2.1 dX7_takeNote_25 (by decide) (fun hq => ?_) (fun hq => ?_)
      · replace hf := cd_tk hq hf
        exact w_X7_takeNote_41 X  _ _ _ _ _ hf hw (lv_sub hl [0, 1] rfl)
      · replace hf := cd_fk hq hf
        refine lv_aload_n X.1 X.2.1 dX7_takeNote_28 rfl (lv_at hl 0 rfl) ?_
        refine r_getF X hw (κ := 8) rfl inlX7 6 (by decide) rfl (by decide) tw_82 (hCk hw.2.2.2.2.2 11 (by decide) rfl) (hCr (c := 11) (k := 6) (d := 14) hw.2.2.2.2.2 (by decide)) dX7_takeNote_29 ?_
        refine lv_aload_n X.1 X.2.1 dX7_takeNote_32 rfl (lv_at hl 1 rfl) ?_
        obtain ⟨g4, hf⟩ := gd_ok hf
        refine r_getI X hw (κ := 4) rfl inlX3 0 (by decide) rfl (by decide) tw_646 g4 dX7_takeNote_33 ?_
        refine lv_aload_n X.1 X.2.1 dX7_takeNote_36 rfl (lv_at hl 1 rfl) ?_
        obtain ⟨g5, hf⟩ := gd_ok hf
        refine r_getI X hw (κ := 4) rfl inlX3 4 (by decide) rfl (by decide) tw_647 g5 dX7_takeNote_37 ?_
        obtain ⟨g6, hf⟩ := gd_ok hf
        obtain ⟨S7, eS7, hf⟩ := bn_ok hf
        replace eS7 := Option.some.inj eS7
        refine r_iast X hw (hCk hw.2.2.2.2.2 14 (by decide) rfl) (hCn hw.2.2.2.2.2 14 (by decide) rfl) g6 hw.2.2.2.2.2 dX7_takeNote_40 (fun H locs hw => ?_)
        rw [eS7] at hw
        exact w_X7_takeNote_41 X  _ _ _ _ _ hf hw (lv_sub hl [0, 1] rfl)
set_option maxHeartbeats 4000000 in
theorem w_X7_takeNotes_61 {p : Program} {l : Launch} {e : Env} {s : State} {m : MethodId} {args : Array Value} {below : List Frame} {meth : Method} {c : Code} {D : va_G} {B : Nat} {cy : Nat → ClassId} {A : Nat → Prop} {ad av : Nat → Nat} {Z : HS} (X : hCX p s m args meth c RX7 cX7_takeNotes 3 none D cy A ad av) (k10 : Int32 → HS → Option HS) (hk10 : ∀ (x1 : Int32) (S : HS) (H : Heap) (locs : List Loc) (ls : Array Slot), k10 x1 S = some Z → hWd D B cy A true hC S s.heap H locs → lv_has ls 3 [(0, .ref (B + 11)), (1, .int x1)] → W p l e ({ frames := 3, cells := 0, slots := 0, locals := 64 } : Room) s m args below meth c H locs 0 0 (MQ below (hQo D B cy A true hC Z none) args s 0 0 A) (F0 m 10 ls [])) (x1 : Int32) (S : HS) (H : Heap) (locs : List Loc) (ls : Array Slot) (hf : fn_X7_takeNotes_61 k10 x1 S = some Z) (hw : hWd D B cy A true hC S s.heap H locs) (hl : lv_has ls 3 [(0, .ref (B + 11)), (1, .int x1)]) : W p l e ({ frames := 3, cells := 0, slots := 0, locals := 64 } : Room) s m args below meth c H locs 0 0 (MQ below (hQo D B cy A true hC Z none) args s 0 0 A) (F0 m 61 ls []) := by
  unfold fn_X7_takeNotes_61 at hf
  refine lv_aload_n X.1 X.2.1 dX7_takeNotes_61 rfl (lv_at hl 0 rfl) ?_
  refine lv_dup X.1 X.2.1 dX7_takeNotes_62 rfl ?_
  refine r_getI X hw (κ := 8) rfl inlX7 11 (by decide) rfl (by decide) tw_596 (hCk hw.2.2.2.2.2 11 (by decide) rfl) dX7_takeNotes_63 ?_
  refine lv_iconst (v := 1) X.1 X.2.1 dX7_takeNotes_66 (by decide) ?_
  refine lv_iadd X.1 X.2.1 dX7_takeNotes_67 ?_
  obtain ⟨S1, eS1, hf⟩ := bn_ok hf
  replace eS1 := Option.some.inj eS1
  refine r_putI X hw (κ := 8) rfl inlX7 tyX7 tyX7_ok nmX7 11 (by decide) rfl (by decide) tw_596 (Or.inl rfl) (hCk hw.2.2.2.2.2 11 (by decide) rfl) rfl rfl hw.2.2.2.2.2 dX7_takeNotes_68 (fun H locs hw => ?_)
  rw [eS1] at hw
  obtain ⟨v2, ev2, hf⟩ := bn_ok hf
  replace ev2 := Option.some.inj ev2
  refine lv_iinc (v := v2) (lv' := [(1, .int v2), (0, .ref (B + 11))]) X.1 X.2.1 dX7_takeNotes_71 hl (k := 1) rfl ev2 (by decide) rfl (fun ls hl => ?_)
  refine lv_goto (tgt := 10) X.1 X.2.1 dX7_takeNotes_74 (by decide) ?_
  exact hk10 _ _ _ _ _ hf hw (lv_sub hl [1, 0] rfl)
set_option maxHeartbeats 4000000 in
theorem w_X7_takeNotes_10 {p : Program} {l : Launch} {e : Env} {s : State} {m : MethodId} {args : Array Value} {below : List Frame} {meth : Method} {c : Code} {D : va_G} {B : Nat} {cy : Nat → ClassId} {A : Nat → Prop} {ad av : Nat → Nat} {Z : HS} (X : hCX p s m args meth c RX7 cX7_takeNotes 3 none D cy A ad av)  : ∀ (n : Nat) (x1 : Int32) (S : HS) (H : Heap) (locs : List Loc) (ls : Array Slot), fn_X7_takeNotes_10 n x1 S = some Z → hWd D B cy A true hC S s.heap H locs → lv_has ls 3 [(0, .ref (B + 11)), (1, .int x1)] → W p l e ({ frames := 3, cells := 0, slots := 0, locals := 64 } : Room) s m args below meth c H locs 0 0 (MQ below (hQo D B cy A true hC Z none) args s 0 0 A) (F0 m 10 ls []) := by
  intro n
  induction n with
  | zero =>
    intro x1 S H locs ls hf
    cases hf
  | succ n ih =>
    intro x1 S H locs ls hf hw hl
    rw [fn_X7_takeNotes_10] at hf
    refine lv_iload_n X.1 X.2.1 dX7_takeNotes_10 rfl (lv_at hl 1 rfl) ?_
    refine lv_aload_n X.1 X.2.1 dX7_takeNotes_11 rfl (lv_at hl 0 rfl) ?_
    refine r_getF X hw (κ := 8) rfl inlX7 1 (by decide) rfl (by decide) tw_84 (hCk hw.2.2.2.2.2 11 (by decide) rfl) (hCr (c := 11) (k := 1) (d := 5) hw.2.2.2.2.2 (by decide)) dX7_takeNotes_12 ?_
    obtain ⟨r2, S1, hS1, hf⟩ := bn2_ok hf
    refine r_callV (As := []) (rest := [.int x1]) (st1 := [.int r2, .int x1]) (κ := 0) X hw (c_Jl_size l D B cy A ad av _ _ 5 hw.2.2.2.2.1 hw.2.2.2.2.2 hS1) ⟨rfl, rfl, Nat.le_of_ble_eq_true rfl, Nat.le_of_ble_eq_true rfl⟩ rfl (by decide) (hCk hw.2.2.2.2.2 5 (by decide) rfl) tw_621 tw_175 tw_176 tw_20 tw_177 hd_Jl_size rfl hl.1 rfl (Nat.le_of_ble_eq_true rfl) dX7_takeNotes_15 ⟨Nat.le_of_ble_eq_true rfl, Nat.le_of_ble_eq_true rfl⟩ rfl (fun H locs hw => ?_)
    refine lv_icmp_ge (tgt := 77) X.1 X.2.1 dX7_takeNotes_18 (by decide) (fun hq => ?_) (fun hq => ?_)
    · replace hf := cd_tk hq hf
      cases hf
      exact r_vret X hw dX7_takeNotes_77
    · replace hf := cd_fk hq hf
      refine lv_aload_n X.1 X.2.1 dX7_takeNotes_21 rfl (lv_at hl 0 rfl) ?_
      refine r_getF X hw (κ := 8) rfl inlX7 1 (by decide) rfl (by decide) tw_84 (hCk hw.2.2.2.2.2 11 (by decide) rfl) (hCr (c := 11) (k := 1) (d := 5) hw.2.2.2.2.2 (by decide)) dX7_takeNotes_22 ?_
      refine lv_iload_n X.1 X.2.1 dX7_takeNotes_25 rfl (lv_at hl 1 rfl) ?_
      obtain ⟨r4, S3, hS3, hf⟩ := bn2_ok hf
      refine r_callV (As := [.int x1]) (rest := []) (st1 := [va_rf (Option.map (B + ·) r4)]) (κ := 0) X hw (c_Jl_get l D B cy A ad av _ _ 5 x1 hw.2.2.2.2.1 hw.2.2.2.2.2 hS3) ⟨rfl, rfl, Nat.le_of_ble_eq_true rfl, Nat.le_of_ble_eq_true rfl⟩ rfl (by decide) (hCk hw.2.2.2.2.2 5 (by decide) rfl) tw_622 tw_420 tw_421 tw_20 tw_422 hd_Jl_get rfl hl.1 rfl (Nat.le_of_ble_eq_true rfl) dX7_takeNotes_26 ⟨Nat.le_of_ble_eq_true rfl, Nat.le_of_ble_eq_true rfl⟩ rfl (fun H locs hw => ?_)
      obtain ⟨c5, ec5, hf⟩ := bn_ok hf
      rw [ec5]
      obtain ⟨g6, hf⟩ := gd_ok hf
      refine r_cast X hw (κ := 4) rfl (by decide) tw_638 g6 dX7_takeNotes_29 ?_
      refine lv_astore_n (lv' := [(2, .ref (B + c5)), (0, .ref (B + 11)), (1, .int x1)]) X.1 X.2.1 dX7_takeNotes_32 rfl hl (by decide) rfl (fun ls hl => ?_)
      refine lv_aload_n X.1 X.2.1 dX7_takeNotes_33 rfl (lv_at hl 0 rfl) ?_
      obtain ⟨g7, hf⟩ := gd_ok hf
      refine r_getI X hw (κ := 4) rfl inlX3 2 (by decide) rfl (by decide) tw_639 g7 dX7_takeNotes_34 ?_
      refine lv_aload_n X.1 X.2.1 dX7_takeNotes_37 rfl (lv_at hl 1 rfl) ?_
      refine r_getI X hw (κ := 8) rfl inlX7 9 (by decide) rfl (by decide) tw_594 (hCk hw.2.2.2.2.2 11 (by decide) rfl) dX7_takeNotes_38 ?_
      refine lv_icmp_le (tgt := 45) X.1 X.2.1 dX7_takeNotes_41 (by decide) (fun hq => ?_) (fun hq => ?_)
      · replace hf := cd_tk hq hf
        refine lv_aload_n X.1 X.2.1 dX7_takeNotes_45 rfl (lv_at hl 0 rfl) ?_
        obtain ⟨g8, hf⟩ := gd_ok hf
        refine r_getI X hw (κ := 4) rfl inlX3 3 (by decide) rfl (by decide) tw_640 g8 dX7_takeNotes_46 ?_
        refine lv_aload_n X.1 X.2.1 dX7_takeNotes_49 rfl (lv_at hl 1 rfl) ?_
        refine r_getI X hw (κ := 8) rfl inlX7 8 (by decide) rfl (by decide) tw_593 (hCk hw.2.2.2.2.2 11 (by decide) rfl) dX7_takeNotes_50 ?_
        refine lv_icmp_gt (tgt := 61) X.1 X.2.1 dX7_takeNotes_53 (by decide) (fun hq => ?_) (fun hq => ?_)
        · replace hf := cd_tk hq hf
          exact w_X7_takeNotes_61 X (fn_X7_takeNotes_10 n) ih _ _ _ _ _ hf hw (lv_sub hl [1, 2] rfl)
        · replace hf := cd_fk hq hf
          refine lv_aload_n X.1 X.2.1 dX7_takeNotes_56 rfl (lv_at hl 1 rfl) ?_
          refine lv_aload_n X.1 X.2.1 dX7_takeNotes_57 rfl (lv_at hl 0 rfl) ?_
          obtain ⟨S9, hS9, hf⟩ := bn_ok hf
          refine r_callV (As := [.ref (B + c5)]) (rest := []) (st1 := []) (κ := 8) X hw (c_X7_takeNote l D B cy A ad av c5 hw.2.2.2.2.1 hw.2.2.2.2.2 hS9) ⟨rfl, rfl, Nat.le_of_ble_eq_true rfl, Nat.le_of_ble_eq_true rfl⟩ rfl (by decide) (hCk hw.2.2.2.2.2 11 (by decide) rfl) tw_641 tw_642 tw_643 tw_31 tw_644 hd_X7_takeNote rfl hl.1 rfl (Nat.le_of_ble_eq_true rfl) dX7_takeNotes_58 ⟨Nat.le_of_ble_eq_true rfl, Nat.le_of_ble_eq_true rfl⟩ rfl (fun H locs hw => ?_)
          exact w_X7_takeNotes_61 X (fn_X7_takeNotes_10 n) ih _ _ _ _ _ hf hw (lv_sub hl [1, 2] rfl)
      · replace hf := cd_fk hq hf
        cases hf
        exact r_vret X hw dX7_takeNotes_44
theorem hd_X7_takeNotes : yX7_takeNotes.cls = RX7 ∧ yX7_takeNotes.cls ≠ "java/lang/invoke/MethodHandle" ∧ yX7_takeNotes.cls ≠ "java/lang/invoke/VarHandle" ∧ (parseMethodDescriptor yX7_takeNotes.desc).map (fun d => d.parameters.length) = some 0 := by decide +kernel
set_option maxHeartbeats 4000000 in
theorem c_X7_takeNotes (l : Launch) (D : va_G) (B : Nat) (cy : Nat → ClassId) (A : Nat → Prop) (ad av : Nat → Nat)  {S Z : HS} (hfr : hFr S) (hG : hC S) (hf : fn_X7_takeNotes S = some Z) : hMet l yX7_takeNotes cX7_takeNotes 3 none ({ frames := 3, cells := 0, slots := 0, locals := 64 } : Room) D B cy A ad av true hC [.ref (B + 11)] S Z none 0 0 := by
  refine h_entry (by decide) hfr hG ?_
  intro p e s m below meth c args X hnm hw
  have hl := lv_entry ([.ref (B + 11)]) (n := 3) (Nat.le_of_ble_eq_true rfl)
  rw [lg_entry_eq]
  generalize (lg_sl ([.ref (B + 11)]) ++ List.replicate (3 - (lg_sl ([.ref (B + 11)])).length) Slot.unset).toArray = ls at hl ⊢
  have hl : lv_has ls 3 [(0, .ref (B + 11))] := hl
  unfold fn_X7_takeNotes at hf
  refine lv_aload_n X.1 X.2.1 dX7_takeNotes_0 rfl (lv_at hl 0 rfl) ?_
  refine lv_iconst (v := 0) X.1 X.2.1 dX7_takeNotes_1 (by decide) ?_
  obtain ⟨S1, eS1, hf⟩ := bn_ok hf
  replace eS1 := Option.some.inj eS1
  refine r_putI X hw (κ := 8) rfl inlX7 tyX7 tyX7_ok nmX7 13 (by decide) rfl (by decide) tw_637 (Or.inl rfl) (hCk hw.2.2.2.2.2 11 (by decide) rfl) (zb_n (by decide)) (zb_f (by decide)) hw.2.2.2.2.2 dX7_takeNotes_2 (fun H locs hw => ?_)
  rw [eS1] at hw
  refine lv_aload_n X.1 X.2.1 dX7_takeNotes_5 rfl (lv_at hl 0 rfl) ?_
  refine r_getI X hw (κ := 8) rfl inlX7 11 (by decide) rfl (by decide) tw_596 (hCk hw.2.2.2.2.2 11 (by decide) rfl) dX7_takeNotes_6 ?_
  obtain ⟨v2, ev2, hf⟩ := bn_ok hf
  replace ev2 := Option.some.inj ev2
  refine lv_ren ev2 ?_
  refine lv_istore_n (lv' := [(1, .int v2), (0, .ref (B + 11))]) X.1 X.2.1 dX7_takeNotes_9 rfl hl (by decide) rfl (fun ls hl => ?_)
  exact w_X7_takeNotes_10 X  _ _ _ _ _ _ hf hw (lv_sub hl [1, 0] rfl)
set_option maxHeartbeats 4000000 in
theorem w_X7_takeAgreements_64 {p : Program} {l : Launch} {e : Env} {s : State} {m : MethodId} {args : Array Value} {below : List Frame} {meth : Method} {c : Code} {D : va_G} {B : Nat} {cy : Nat → ClassId} {A : Nat → Prop} {ad av : Nat → Nat} {Z : HS} (X : hCX p s m args meth c RX7 cX7_takeAgreements 3 none D cy A ad av) (k5 : Int32 → HS → Option HS) (hk5 : ∀ (x1 : Int32) (S : HS) (H : Heap) (locs : List Loc) (ls : Array Slot), k5 x1 S = some Z → hWd D B cy A true hC S s.heap H locs → lv_has ls 3 [(0, .ref (B + 11)), (1, .int x1)] → W p l e ({ frames := 4, cells := 0, slots := 0, locals := 88 } : Room) s m args below meth c H locs 0 0 (MQ below (hQo D B cy A true hC Z none) args s 0 0 A) (F0 m 5 ls [])) (x1 : Int32) (S : HS) (H : Heap) (locs : List Loc) (ls : Array Slot) (hf : fn_X7_takeAgreements_64 k5 x1 S = some Z) (hw : hWd D B cy A true hC S s.heap H locs) (hl : lv_has ls 3 [(0, .ref (B + 11)), (1, .int x1)]) : W p l e ({ frames := 4, cells := 0, slots := 0, locals := 88 } : Room) s m args below meth c H locs 0 0 (MQ below (hQo D B cy A true hC Z none) args s 0 0 A) (F0 m 64 ls []) := by
  unfold fn_X7_takeAgreements_64 at hf
  refine lv_aload_n X.1 X.2.1 dX7_takeAgreements_64 rfl (lv_at hl 0 rfl) ?_
  refine lv_dup X.1 X.2.1 dX7_takeAgreements_65 rfl ?_
  refine r_getI X hw (κ := 8) rfl inlX7 10 (by decide) rfl (by decide) tw_595 (hCk hw.2.2.2.2.2 11 (by decide) rfl) dX7_takeAgreements_66 ?_
  refine lv_iconst (v := 1) X.1 X.2.1 dX7_takeAgreements_69 (by decide) ?_
  refine lv_iadd X.1 X.2.1 dX7_takeAgreements_70 ?_
  obtain ⟨S1, eS1, hf⟩ := bn_ok hf
  replace eS1 := Option.some.inj eS1
  refine r_putI X hw (κ := 8) rfl inlX7 tyX7 tyX7_ok nmX7 10 (by decide) rfl (by decide) tw_595 (Or.inl rfl) (hCk hw.2.2.2.2.2 11 (by decide) rfl) rfl rfl hw.2.2.2.2.2 dX7_takeAgreements_71 (fun H locs hw => ?_)
  rw [eS1] at hw
  obtain ⟨v2, ev2, hf⟩ := bn_ok hf
  replace ev2 := Option.some.inj ev2
  refine lv_iinc (v := v2) (lv' := [(1, .int v2), (0, .ref (B + 11))]) X.1 X.2.1 dX7_takeAgreements_74 hl (k := 1) rfl ev2 (by decide) rfl (fun ls hl => ?_)
  refine lv_goto (tgt := 5) X.1 X.2.1 dX7_takeAgreements_77 (by decide) ?_
  exact hk5 _ _ _ _ _ hf hw (lv_sub hl [1, 0] rfl)
set_option maxHeartbeats 4000000 in
theorem w_X7_takeAgreements_5 {p : Program} {l : Launch} {e : Env} {s : State} {m : MethodId} {args : Array Value} {below : List Frame} {meth : Method} {c : Code} {D : va_G} {B : Nat} {cy : Nat → ClassId} {A : Nat → Prop} {ad av : Nat → Nat} {Z : HS} (X : hCX p s m args meth c RX7 cX7_takeAgreements 3 none D cy A ad av)  : ∀ (n : Nat) (x1 : Int32) (S : HS) (H : Heap) (locs : List Loc) (ls : Array Slot), fn_X7_takeAgreements_5 n x1 S = some Z → hWd D B cy A true hC S s.heap H locs → lv_has ls 3 [(0, .ref (B + 11)), (1, .int x1)] → W p l e ({ frames := 4, cells := 0, slots := 0, locals := 88 } : Room) s m args below meth c H locs 0 0 (MQ below (hQo D B cy A true hC Z none) args s 0 0 A) (F0 m 5 ls []) := by
  intro n
  induction n with
  | zero =>
    intro x1 S H locs ls hf
    cases hf
  | succ n ih =>
    intro x1 S H locs ls hf hw hl
    rw [fn_X7_takeAgreements_5] at hf
    refine lv_iload_n X.1 X.2.1 dX7_takeAgreements_5 rfl (lv_at hl 1 rfl) ?_
    refine lv_aload_n X.1 X.2.1 dX7_takeAgreements_6 rfl (lv_at hl 0 rfl) ?_
    refine r_getF X hw (κ := 8) rfl inlX7 0 (by decide) rfl (by decide) tw_83 (hCk hw.2.2.2.2.2 11 (by decide) rfl) (hCr (c := 11) (k := 0) (d := 4) hw.2.2.2.2.2 (by decide)) dX7_takeAgreements_7 ?_
    obtain ⟨r2, S1, hS1, hf⟩ := bn2_ok hf
    refine r_callV (As := []) (rest := [.int x1]) (st1 := [.int r2, .int x1]) (κ := 0) X hw (c_Jl_size l D B cy A ad av _ _ 4 hw.2.2.2.2.1 hw.2.2.2.2.2 hS1) ⟨rfl, rfl, Nat.le_of_ble_eq_true rfl, Nat.le_of_ble_eq_true rfl⟩ rfl (by decide) (hCk hw.2.2.2.2.2 4 (by decide) rfl) tw_621 tw_175 tw_176 tw_20 tw_177 hd_Jl_size rfl hl.1 rfl (Nat.le_of_ble_eq_true rfl) dX7_takeAgreements_10 ⟨Nat.le_of_ble_eq_true rfl, Nat.le_of_ble_eq_true rfl⟩ rfl (fun H locs hw => ?_)
    refine lv_icmp_ge (tgt := 80) X.1 X.2.1 dX7_takeAgreements_13 (by decide) (fun hq => ?_) (fun hq => ?_)
    · replace hf := cd_tk hq hf
      cases hf
      exact r_vret X hw dX7_takeAgreements_80
    · replace hf := cd_fk hq hf
      refine lv_aload_n X.1 X.2.1 dX7_takeAgreements_16 rfl (lv_at hl 0 rfl) ?_
      refine r_getF X hw (κ := 8) rfl inlX7 0 (by decide) rfl (by decide) tw_83 (hCk hw.2.2.2.2.2 11 (by decide) rfl) (hCr (c := 11) (k := 0) (d := 4) hw.2.2.2.2.2 (by decide)) dX7_takeAgreements_17 ?_
      refine lv_iload_n X.1 X.2.1 dX7_takeAgreements_20 rfl (lv_at hl 1 rfl) ?_
      obtain ⟨r4, S3, hS3, hf⟩ := bn2_ok hf
      refine r_callV (As := [.int x1]) (rest := []) (st1 := [va_rf (Option.map (B + ·) r4)]) (κ := 0) X hw (c_Jl_get l D B cy A ad av _ _ 4 x1 hw.2.2.2.2.1 hw.2.2.2.2.2 hS3) ⟨rfl, rfl, Nat.le_of_ble_eq_true rfl, Nat.le_of_ble_eq_true rfl⟩ rfl (by decide) (hCk hw.2.2.2.2.2 4 (by decide) rfl) tw_622 tw_420 tw_421 tw_20 tw_422 hd_Jl_get rfl hl.1 rfl (Nat.le_of_ble_eq_true rfl) dX7_takeAgreements_21 ⟨Nat.le_of_ble_eq_true rfl, Nat.le_of_ble_eq_true rfl⟩ rfl (fun H locs hw => ?_)
      obtain ⟨c5, ec5, hf⟩ := bn_ok hf
      rw [ec5]
      obtain ⟨g6, hf⟩ := gd_ok hf
      refine r_cast X hw (κ := 1) rfl (by decide) tw_618 g6 dX7_takeAgreements_24 ?_
      refine lv_astore_n (lv' := [(2, .ref (B + c5)), (0, .ref (B + 11)), (1, .int x1)]) X.1 X.2.1 dX7_takeAgreements_27 rfl hl (by decide) rfl (fun ls hl => ?_)
      refine lv_aload_n X.1 X.2.1 dX7_takeAgreements_28 rfl (lv_at hl 0 rfl) ?_
      obtain ⟨g7, hf⟩ := gd_ok hf
      refine r_getI X hw (κ := 1) rfl inlX0 1 (by decide) rfl (by decide) tw_619 g7 dX7_takeAgreements_29 ?_
      refine lv_aload_n X.1 X.2.1 dX7_takeAgreements_32 rfl (lv_at hl 1 rfl) ?_
      refine r_getI X hw (κ := 8) rfl inlX7 9 (by decide) rfl (by decide) tw_594 (hCk hw.2.2.2.2.2 11 (by decide) rfl) dX7_takeAgreements_33 ?_
      refine lv_icmp_le (tgt := 40) X.1 X.2.1 dX7_takeAgreements_36 (by decide) (fun hq => ?_) (fun hq => ?_)
      · replace hf := cd_tk hq hf
        refine lv_aload_n X.1 X.2.1 dX7_takeAgreements_40 rfl (lv_at hl 0 rfl) ?_
        obtain ⟨g8, hf⟩ := gd_ok hf
        refine r_getI X hw (κ := 1) rfl inlX0 2 (by decide) rfl (by decide) tw_620 g8 dX7_takeAgreements_41 ?_
        refine lv_aload_n X.1 X.2.1 dX7_takeAgreements_44 rfl (lv_at hl 1 rfl) ?_
        refine r_getI X hw (κ := 8) rfl inlX7 8 (by decide) rfl (by decide) tw_593 (hCk hw.2.2.2.2.2 11 (by decide) rfl) dX7_takeAgreements_45 ?_
        refine lv_icmp_gt (tgt := 64) X.1 X.2.1 dX7_takeAgreements_48 (by decide) (fun hq => ?_) (fun hq => ?_)
        · replace hf := cd_tk hq hf
          exact w_X7_takeAgreements_64 X (fn_X7_takeAgreements_5 n) ih _ _ _ _ _ hf hw (lv_sub hl [1, 2] rfl)
        · replace hf := cd_fk hq hf
          refine lv_aload_n X.1 X.2.1 dX7_takeAgreements_51 rfl (lv_at hl 1 rfl) ?_
          refine r_getF X hw (κ := 8) rfl inlX7 3 (by decide) rfl (by decide) tw_86 (hCk hw.2.2.2.2.2 11 (by decide) rfl) (hCr (c := 11) (k := 3) (d := 7) hw.2.2.2.2.2 (by decide)) dX7_takeAgreements_52 ?_
          refine lv_aload_n X.1 X.2.1 dX7_takeAgreements_55 rfl (lv_at hl 0 rfl) ?_
          obtain ⟨S9, hS9, hf⟩ := bn_ok hf
          refine r_callV (As := [.ref (B + c5)]) (rest := []) (st1 := []) (κ := 7) X hw (c_X6_take l D B cy A ad av c5 hw.2.2.2.2.1 hw.2.2.2.2.2 hS9) ⟨rfl, rfl, Nat.le_of_ble_eq_true rfl, Nat.le_of_ble_eq_true rfl⟩ rfl (by decide) (hCk hw.2.2.2.2.2 7 (by decide) rfl) tw_623 tw_624 tw_625 tw_27 tw_626 hd_X6_take rfl hl.1 rfl (Nat.le_of_ble_eq_true rfl) dX7_takeAgreements_56 ⟨Nat.le_of_ble_eq_true rfl, Nat.le_of_ble_eq_true rfl⟩ rfl (fun H locs hw => ?_)
          refine lv_aload_n X.1 X.2.1 dX7_takeAgreements_59 rfl (lv_at hl 1 rfl) ?_
          refine lv_iconst (v := 1) X.1 X.2.1 dX7_takeAgreements_60 (by decide) ?_
          obtain ⟨S10, eS10, hf⟩ := bn_ok hf
          replace eS10 := Option.some.inj eS10
          refine r_putI X hw (κ := 8) rfl inlX7 tyX7 tyX7_ok nmX7 12 (by decide) rfl (by decide) tw_601 (Or.inl rfl) (hCk hw.2.2.2.2.2 11 (by decide) rfl) (zb_n (by decide)) (zb_f (by decide)) hw.2.2.2.2.2 dX7_takeAgreements_61 (fun H locs hw => ?_)
          rw [eS10] at hw
          exact w_X7_takeAgreements_64 X (fn_X7_takeAgreements_5 n) ih _ _ _ _ _ hf hw (lv_sub hl [1, 2] rfl)
      · replace hf := cd_fk hq hf
        cases hf
        exact r_vret X hw dX7_takeAgreements_39
theorem hd_X7_takeAgreements : yX7_takeAgreements.cls = RX7 ∧ yX7_takeAgreements.cls ≠ "java/lang/invoke/MethodHandle" ∧ yX7_takeAgreements.cls ≠ "java/lang/invoke/VarHandle" ∧ (parseMethodDescriptor yX7_takeAgreements.desc).map (fun d => d.parameters.length) = some 0 := by decide +kernel
set_option maxHeartbeats 4000000 in
theorem c_X7_takeAgreements (l : Launch) (D : va_G) (B : Nat) (cy : Nat → ClassId) (A : Nat → Prop) (ad av : Nat → Nat)  {S Z : HS} (hfr : hFr S) (hG : hC S) (hf : fn_X7_takeAgreements S = some Z) : hMet l yX7_takeAgreements cX7_takeAgreements 3 none ({ frames := 4, cells := 0, slots := 0, locals := 88 } : Room) D B cy A ad av true hC [.ref (B + 11)] S Z none 0 0 := by
  refine h_entry (by decide) hfr hG ?_
  intro p e s m below meth c args X hnm hw
  have hl := lv_entry ([.ref (B + 11)]) (n := 3) (Nat.le_of_ble_eq_true rfl)
  rw [lg_entry_eq]
  generalize (lg_sl ([.ref (B + 11)]) ++ List.replicate (3 - (lg_sl ([.ref (B + 11)])).length) Slot.unset).toArray = ls at hl ⊢
  have hl : lv_has ls 3 [(0, .ref (B + 11))] := hl
  unfold fn_X7_takeAgreements at hf
  refine lv_aload_n X.1 X.2.1 dX7_takeAgreements_0 rfl (lv_at hl 0 rfl) ?_
  refine r_getI X hw (κ := 8) rfl inlX7 10 (by decide) rfl (by decide) tw_595 (hCk hw.2.2.2.2.2 11 (by decide) rfl) dX7_takeAgreements_1 ?_
  obtain ⟨v1, ev1, hf⟩ := bn_ok hf
  replace ev1 := Option.some.inj ev1
  refine lv_ren ev1 ?_
  refine lv_istore_n (lv' := [(1, .int v1), (0, .ref (B + 11))]) X.1 X.2.1 dX7_takeAgreements_4 rfl hl (by decide) rfl (fun ls hl => ?_)
  exact w_X7_takeAgreements_5 X  _ _ _ _ _ _ hf hw (lv_sub hl [1, 0] rfl)
set_option maxHeartbeats 4000000 in
theorem w_X7_openDay_56 {p : Program} {l : Launch} {e : Env} {s : State} {m : MethodId} {args : Array Value} {below : List Frame} {meth : Method} {c : Code} {D : va_G} {B : Nat} {cy : Nat → ClassId} {A : Nat → Prop} {ad av : Nat → Nat} {Z : HS} (X : hCX p s m args meth c RX7 cX7_openDay 1 none D cy A ad av)   (S : HS) (H : Heap) (locs : List Loc) (ls : Array Slot) (hf : fn_X7_openDay_56 S = some Z) (hw : hWd D B cy A true hC S s.heap H locs) (hl : lv_has ls 1 [(0, .ref (B + 11))]) : W p l e ({ frames := 5, cells := 0, slots := 0, locals := 110 } : Room) s m args below meth c H locs 0 0 (MQ below (hQo D B cy A true hC Z none) args s 0 0 A) (F0 m 56 ls []) := by
  unfold fn_X7_openDay_56 at hf
  refine lv_aload_n X.1 X.2.1 dX7_openDay_56 rfl (lv_at hl 0 rfl) ?_
  refine lv_iconst (v := 0) X.1 X.2.1 dX7_openDay_57 (by decide) ?_
  obtain ⟨S1, eS1, hf⟩ := bn_ok hf
  replace eS1 := Option.some.inj eS1
  refine r_putI X hw (κ := 8) rfl inlX7 tyX7 tyX7_ok nmX7 12 (by decide) rfl (by decide) tw_601 (Or.inl rfl) (hCk hw.2.2.2.2.2 11 (by decide) rfl) (zb_n (by decide)) (zb_f (by decide)) hw.2.2.2.2.2 dX7_openDay_58 (fun H locs hw => ?_)
  rw [eS1] at hw
  refine lv_aload_n X.1 X.2.1 dX7_openDay_61 rfl (lv_at hl 0 rfl) ?_
  obtain ⟨S2, hS2, hf⟩ := bn_ok hf
  refine r_callV (As := []) (rest := []) (st1 := []) (κ := 8) X hw (c_X7_give l D B cy A ad av  hw.2.2.2.2.1 hw.2.2.2.2.2 hS2) ⟨rfl, rfl, Nat.le_of_ble_eq_true rfl, Nat.le_of_ble_eq_true rfl⟩ rfl (by decide) (hCk hw.2.2.2.2.2 11 (by decide) rfl) tw_707 tw_708 tw_709 tw_31 tw_710 hd_X7_give rfl hl.1 rfl (Nat.le_of_ble_eq_true rfl) dX7_openDay_62 ⟨Nat.le_of_ble_eq_true rfl, Nat.le_of_ble_eq_true rfl⟩ rfl (fun H locs hw => ?_)
  cases hf
  exact r_vret X hw dX7_openDay_65
theorem hd_X7_openDay : yX7_openDay.cls = RX7 ∧ yX7_openDay.cls ≠ "java/lang/invoke/MethodHandle" ∧ yX7_openDay.cls ≠ "java/lang/invoke/VarHandle" ∧ (parseMethodDescriptor yX7_openDay.desc).map (fun d => d.parameters.length) = some 0 := by decide +kernel
set_option maxHeartbeats 4000000 in
theorem c_X7_openDay (l : Launch) (D : va_G) (B : Nat) (cy : Nat → ClassId) (A : Nat → Prop) (ad av : Nat → Nat)  {S Z : HS} (hfr : hFr S) (hG : hC S) (hf : fn_X7_openDay S = some Z) : hMet l yX7_openDay cX7_openDay 1 none ({ frames := 5, cells := 0, slots := 0, locals := 110 } : Room) D B cy A ad av true hC [.ref (B + 11)] S Z none 0 0 := by
  refine h_entry (by decide) hfr hG ?_
  intro p e s m below meth c args X hnm hw
  have hl := lv_entry ([.ref (B + 11)]) (n := 1) (Nat.le_of_ble_eq_true rfl)
  rw [lg_entry_eq]
  generalize (lg_sl ([.ref (B + 11)]) ++ List.replicate (1 - (lg_sl ([.ref (B + 11)])).length) Slot.unset).toArray = ls at hl ⊢
  have hl : lv_has ls 1 [(0, .ref (B + 11))] := hl
  unfold fn_X7_openDay at hf
  refine lv_aload_n X.1 X.2.1 dX7_openDay_0 rfl (lv_at hl 0 rfl) ?_
  obtain ⟨S1, hS1, hf⟩ := bn_ok hf
  refine r_callV (As := []) (rest := []) (st1 := []) (κ := 8) X hw (c_X7_takeAgreements l D B cy A ad av  hw.2.2.2.2.1 hw.2.2.2.2.2 hS1) ⟨rfl, rfl, Nat.le_of_ble_eq_true rfl, Nat.le_of_ble_eq_true rfl⟩ rfl (by decide) (hCk hw.2.2.2.2.2 11 (by decide) rfl) tw_614 tw_615 tw_616 tw_31 tw_617 hd_X7_takeAgreements rfl hl.1 rfl (Nat.le_of_ble_eq_true rfl) dX7_openDay_1 ⟨Nat.le_of_ble_eq_true rfl, Nat.le_of_ble_eq_true rfl⟩ rfl (fun H locs hw => ?_)
  refine lv_aload_n X.1 X.2.1 dX7_openDay_4 rfl (lv_at hl 0 rfl) ?_
  obtain ⟨S2, hS2, hf⟩ := bn_ok hf
  refine r_callV (As := []) (rest := []) (st1 := []) (κ := 8) X hw (c_X7_takeNotes l D B cy A ad av  hw.2.2.2.2.1 hw.2.2.2.2.2 hS2) ⟨rfl, rfl, Nat.le_of_ble_eq_true rfl, Nat.le_of_ble_eq_true rfl⟩ rfl (by decide) (hCk hw.2.2.2.2.2 11 (by decide) rfl) tw_633 tw_634 tw_635 tw_31 tw_636 hd_X7_takeNotes rfl hl.1 rfl (Nat.le_of_ble_eq_true rfl) dX7_openDay_5 ⟨Nat.le_of_ble_eq_true rfl, Nat.le_of_ble_eq_true rfl⟩ rfl (fun H locs hw => ?_)
  refine lv_aload_n X.1 X.2.1 dX7_openDay_8 rfl (lv_at hl 0 rfl) ?_
  refine r_getI X hw (κ := 8) rfl inlX7 12 (by decide) rfl (by decide) tw_601 (hCk hw.2.2.2.2.2 11 (by decide) rfl) dX7_openDay_9 ?_
  refine lv_if_eq (tgt := 37) X.1 X.2.1 dX7_openDay_12 (by decide) (fun hq => ?_) (fun hq => ?_)
  · replace hf := cd_tk hq hf
    refine lv_aload_n X.1 X.2.1 dX7_openDay_37 rfl (lv_at hl 0 rfl) ?_
    refine r_getF X hw (κ := 8) rfl inlX7 4 (by decide) rfl (by decide) tw_80 (hCk hw.2.2.2.2.2 11 (by decide) rfl) (hCr (c := 11) (k := 4) (d := 12) hw.2.2.2.2.2 (by decide)) dX7_openDay_38 ?_
    refine lv_aload_n X.1 X.2.1 dX7_openDay_41 rfl (lv_at hl 0 rfl) ?_
    refine r_getF X hw (κ := 8) rfl inlX7 3 (by decide) rfl (by decide) tw_86 (hCk hw.2.2.2.2.2 11 (by decide) rfl) (hCr (c := 11) (k := 3) (d := 7) hw.2.2.2.2.2 (by decide)) dX7_openDay_42 ?_
    refine lv_aload_n X.1 X.2.1 dX7_openDay_45 rfl (lv_at hl 0 rfl) ?_
    refine r_getF X hw (κ := 8) rfl inlX7 5 (by decide) rfl (by decide) tw_81 (hCk hw.2.2.2.2.2 11 (by decide) rfl) (hCr (c := 11) (k := 5) (d := 13) hw.2.2.2.2.2 (by decide)) dX7_openDay_46 ?_
    refine lv_aload_n X.1 X.2.1 dX7_openDay_49 rfl (lv_at hl 0 rfl) ?_
    refine r_getI X hw (κ := 8) rfl inlX7 14 (by decide) rfl (by decide) tw_597 (hCk hw.2.2.2.2.2 11 (by decide) rfl) dX7_openDay_50 ?_
    obtain ⟨S3, hS3, hf⟩ := bn_ok hf
    refine r_callV (As := [.ref (B + 7), .ref (B + 13), .int (gI S2 11 14)]) (rest := []) (st1 := []) (κ := 2) X hw (c_X1_follow l D B cy A ad av (gI S2 11 14) hw.2.2.2.2.1 hw.2.2.2.2.2 hS3) ⟨rfl, rfl, Nat.le_of_ble_eq_true rfl, Nat.le_of_ble_eq_true rfl⟩ rfl (by decide) (hCk hw.2.2.2.2.2 12 (by decide) rfl) tw_703 tw_704 tw_705 tw_79 tw_706 hd_X1_follow rfl hl.1 rfl (Nat.le_of_ble_eq_true rfl) dX7_openDay_53 ⟨Nat.le_of_ble_eq_true rfl, Nat.le_of_ble_eq_true rfl⟩ rfl (fun H locs hw => ?_)
    exact w_X7_openDay_56 X  _ _ _ _ hf hw (lv_sub hl [0] rfl)
  · replace hf := cd_fk hq hf
    refine lv_aload_n X.1 X.2.1 dX7_openDay_15 rfl (lv_at hl 0 rfl) ?_
    refine r_getF X hw (κ := 8) rfl inlX7 4 (by decide) rfl (by decide) tw_80 (hCk hw.2.2.2.2.2 11 (by decide) rfl) (hCr (c := 11) (k := 4) (d := 12) hw.2.2.2.2.2 (by decide)) dX7_openDay_16 ?_
    refine lv_aload_n X.1 X.2.1 dX7_openDay_19 rfl (lv_at hl 0 rfl) ?_
    refine r_getF X hw (κ := 8) rfl inlX7 3 (by decide) rfl (by decide) tw_86 (hCk hw.2.2.2.2.2 11 (by decide) rfl) (hCr (c := 11) (k := 3) (d := 7) hw.2.2.2.2.2 (by decide)) dX7_openDay_20 ?_
    refine lv_aload_n X.1 X.2.1 dX7_openDay_23 rfl (lv_at hl 0 rfl) ?_
    refine r_getF X hw (κ := 8) rfl inlX7 5 (by decide) rfl (by decide) tw_81 (hCk hw.2.2.2.2.2 11 (by decide) rfl) (hCr (c := 11) (k := 5) (d := 13) hw.2.2.2.2.2 (by decide)) dX7_openDay_24 ?_
    refine lv_aload_n X.1 X.2.1 dX7_openDay_27 rfl (lv_at hl 0 rfl) ?_
    refine r_getI X hw (κ := 8) rfl inlX7 14 (by decide) rfl (by decide) tw_597 (hCk hw.2.2.2.2.2 11 (by decide) rfl) dX7_openDay_28 ?_
    obtain ⟨S4, hS4, hf⟩ := bn_ok hf
    refine r_callV (As := [.ref (B + 7), .ref (B + 13), .int (gI S2 11 14)]) (rest := []) (st1 := []) (κ := 2) X hw (c_X1_renew l D B cy A ad av (gI S2 11 14) hw.2.2.2.2.1 hw.2.2.2.2.2 hS4) ⟨rfl, rfl, Nat.le_of_ble_eq_true rfl, Nat.le_of_ble_eq_true rfl⟩ rfl (by decide) (hCk hw.2.2.2.2.2 12 (by decide) rfl) tw_648 tw_649 tw_650 tw_79 tw_651 hd_X1_renew rfl hl.1 rfl (Nat.le_of_ble_eq_true rfl) dX7_openDay_31 ⟨Nat.le_of_ble_eq_true rfl, Nat.le_of_ble_eq_true rfl⟩ rfl (fun H locs hw => ?_)
    refine lv_goto (tgt := 56) X.1 X.2.1 dX7_openDay_34 (by decide) ?_
    exact w_X7_openDay_56 X  _ _ _ _ hf hw (lv_sub hl [0] rfl)
set_option maxHeartbeats 4000000 in
theorem w_X7_isServing_79 {p : Program} {l : Launch} {e : Env} {s : State} {m : MethodId} {args : Array Value} {below : List Frame} {meth : Method} {c : Code} {D : va_G} {B : Nat} {cy : Nat → ClassId} {A : Nat → Prop} {ad av : Nat → Nat} {rv : Int32} {Z : HS} (X : hCX p s m args meth c RX7 cX7_isServing 3 (some .boolean) D cy A ad av)   (S : HS) (H : Heap) (locs : List Loc) (ls : Array Slot) (hf : fn_X7_isServing_79 S = some (rv, Z)) (hw : hWd D B cy A true hC S s.heap H locs) (hl : lv_has ls 3 []) : W p l e ({ frames := 0, cells := 0, slots := 0, locals := 0 } : Room) s m args below meth c H locs 0 0 (MQ below (hQo D B cy A true hC Z (some (.int rv))) args s 0 0 A) (F0 m 79 ls []) := by
  unfold fn_X7_isServing_79 at hf
  refine lv_iconst (v := 0) X.1 X.2.1 dX7_isServing_79 (by decide) ?_
  cases hf
  exact r_zret X hw (by decide) dX7_isServing_80
set_option maxHeartbeats 4000000 in
theorem w_X7_isServing_73 {p : Program} {l : Launch} {e : Env} {s : State} {m : MethodId} {args : Array Value} {below : List Frame} {meth : Method} {c : Code} {D : va_G} {B : Nat} {cy : Nat → ClassId} {A : Nat → Prop} {ad av : Nat → Nat} {rv : Int32} {Z : HS} (X : hCX p s m args meth c RX7 cX7_isServing 3 (some .boolean) D cy A ad av) (k33 : Int32 → Int32 → HS → Option (Int32 × HS)) (hk33 : ∀ (x1 : Int32) (x2 : Int32) (S : HS) (H : Heap) (locs : List Loc) (ls : Array Slot), k33 x1 x2 S = some (rv, Z) → hWd D B cy A true hC S s.heap H locs → lv_has ls 3 [(0, .ref (B + 11)), (1, .int x1), (2, .int x2)] → W p l e ({ frames := 0, cells := 0, slots := 0, locals := 0 } : Room) s m args below meth c H locs 0 0 (MQ below (hQo D B cy A true hC Z (some (.int rv))) args s 0 0 A) (F0 m 33 ls [])) (x1 : Int32) (x2 : Int32) (S : HS) (H : Heap) (locs : List Loc) (ls : Array Slot) (hf : fn_X7_isServing_73 k33 x1 x2 S = some (rv, Z)) (hw : hWd D B cy A true hC S s.heap H locs) (hl : lv_has ls 3 [(0, .ref (B + 11)), (1, .int x1), (2, .int x2)]) : W p l e ({ frames := 0, cells := 0, slots := 0, locals := 0 } : Room) s m args below meth c H locs 0 0 (MQ below (hQo D B cy A true hC Z (some (.int rv))) args s 0 0 A) (F0 m 73 ls []) := by
  unfold fn_X7_isServing_73 at hf
  obtain ⟨v1, ev1, hf⟩ := bn_ok hf
  replace ev1 := Option.some.inj ev1
  refine lv_iinc (v := v1) (lv' := [(2, .int v1), (0, .ref (B + 11)), (1, .int x1)]) X.1 X.2.1 dX7_isServing_73 hl (k := 2) rfl ev1 (by decide) rfl (fun ls hl => ?_)
  refine lv_goto (tgt := 33) X.1 X.2.1 dX7_isServing_76 (by decide) ?_
  exact hk33 _ _ _ _ _ _ hf hw (lv_sub hl [1, 2, 0] rfl)
set_option maxHeartbeats 4000000 in
theorem w_X7_isServing_33 {p : Program} {l : Launch} {e : Env} {s : State} {m : MethodId} {args : Array Value} {below : List Frame} {meth : Method} {c : Code} {D : va_G} {B : Nat} {cy : Nat → ClassId} {A : Nat → Prop} {ad av : Nat → Nat} {rv : Int32} {Z : HS} (X : hCX p s m args meth c RX7 cX7_isServing 3 (some .boolean) D cy A ad av)  : ∀ (n : Nat) (x1 : Int32) (x2 : Int32) (S : HS) (H : Heap) (locs : List Loc) (ls : Array Slot), fn_X7_isServing_33 n x1 x2 S = some (rv, Z) → hWd D B cy A true hC S s.heap H locs → lv_has ls 3 [(0, .ref (B + 11)), (1, .int x1), (2, .int x2)] → W p l e ({ frames := 0, cells := 0, slots := 0, locals := 0 } : Room) s m args below meth c H locs 0 0 (MQ below (hQo D B cy A true hC Z (some (.int rv))) args s 0 0 A) (F0 m 33 ls []) := by
  intro n
  induction n with
  | zero =>
    intro x1 x2 S H locs ls hf
    cases hf
  | succ n ih =>
    intro x1 x2 S H locs ls hf hw hl
    rw [fn_X7_isServing_33] at hf
    refine lv_iload_n X.1 X.2.1 dX7_isServing_33 rfl (lv_at hl 2 rfl) ?_
    refine lv_aload_n X.1 X.2.1 dX7_isServing_34 rfl (lv_at hl 0 rfl) ?_
    refine r_getF X hw (κ := 8) rfl inlX7 6 (by decide) rfl (by decide) tw_82 (hCk hw.2.2.2.2.2 11 (by decide) rfl) (hCr (c := 11) (k := 6) (d := 14) hw.2.2.2.2.2 (by decide)) dX7_isServing_35 ?_
    refine r_alen (κ := 21) X hw (hCk hw.2.2.2.2.2 14 (by decide) rfl) (by decide) (hCn hw.2.2.2.2.2 14 (by decide) rfl) dX7_isServing_38 ?_
    refine lv_icmp_ge (tgt := 79) X.1 X.2.1 dX7_isServing_39 (by decide) (fun hq => ?_) (fun hq => ?_)
    · replace hf := cd_tk hq hf
      exact w_X7_isServing_79 X  _ _ _ _ hf hw (lv_sub hl [] rfl)
    · replace hf := cd_fk hq hf
      refine lv_iload_n X.1 X.2.1 dX7_isServing_42 rfl (lv_at hl 2 rfl) ?_
      refine lv_aload_n X.1 X.2.1 dX7_isServing_43 rfl (lv_at hl 0 rfl) ?_
      refine r_getF X hw (κ := 8) rfl inlX7 2 (by decide) rfl (by decide) tw_85 (hCk hw.2.2.2.2.2 11 (by decide) rfl) (hCr (c := 11) (k := 2) (d := 6) hw.2.2.2.2.2 (by decide)) dX7_isServing_44 ?_
      refine r_alen (κ := 21) X hw (hCk hw.2.2.2.2.2 6 (by decide) rfl) (by decide) (hCn hw.2.2.2.2.2 6 (by decide) rfl) dX7_isServing_47 ?_
      refine lv_icmp_ge (tgt := 79) X.1 X.2.1 dX7_isServing_48 (by decide) (fun hq => ?_) (fun hq => ?_)
      · replace hf := cd_tk hq hf
        exact w_X7_isServing_79 X  _ _ _ _ hf hw (lv_sub hl [] rfl)
      · replace hf := cd_fk hq hf
        refine lv_aload_n X.1 X.2.1 dX7_isServing_51 rfl (lv_at hl 0 rfl) ?_
        refine r_getF X hw (κ := 8) rfl inlX7 6 (by decide) rfl (by decide) tw_82 (hCk hw.2.2.2.2.2 11 (by decide) rfl) (hCr (c := 11) (k := 6) (d := 14) hw.2.2.2.2.2 (by decide)) dX7_isServing_52 ?_
        refine lv_iload_n X.1 X.2.1 dX7_isServing_55 rfl (lv_at hl 2 rfl) ?_
        obtain ⟨g1, hf⟩ := gd_ok hf
        refine r_iald X hw (hCk hw.2.2.2.2.2 14 (by decide) rfl) (hCn hw.2.2.2.2.2 14 (by decide) rfl) g1 dX7_isServing_56 ?_
        refine lv_iconst (v := 1) X.1 X.2.1 dX7_isServing_57 (by decide) ?_
        refine lv_icmp_ne (tgt := 73) X.1 X.2.1 dX7_isServing_58 (by decide) (fun hq => ?_) (fun hq => ?_)
        · replace hf := cd_fk hq hf
          exact w_X7_isServing_73 X (fn_X7_isServing_33 n) ih _ _ _ _ _ _ hf hw (lv_sub hl [0, 1, 2] rfl)
        · replace hf := cd_tk hq hf
          refine lv_aload_n X.1 X.2.1 dX7_isServing_61 rfl (lv_at hl 0 rfl) ?_
          refine r_getF X hw (κ := 8) rfl inlX7 2 (by decide) rfl (by decide) tw_85 (hCk hw.2.2.2.2.2 11 (by decide) rfl) (hCr (c := 11) (k := 2) (d := 6) hw.2.2.2.2.2 (by decide)) dX7_isServing_62 ?_
          refine lv_iload_n X.1 X.2.1 dX7_isServing_65 rfl (lv_at hl 2 rfl) ?_
          obtain ⟨g2, hf⟩ := gd_ok hf
          refine r_iald X hw (hCk hw.2.2.2.2.2 6 (by decide) rfl) (hCn hw.2.2.2.2.2 6 (by decide) rfl) g2 dX7_isServing_66 ?_
          refine lv_iload_n X.1 X.2.1 dX7_isServing_67 rfl (lv_at hl 1 rfl) ?_
          refine lv_icmp_ne (tgt := 73) X.1 X.2.1 dX7_isServing_68 (by decide) (fun hq => ?_) (fun hq => ?_)
          · replace hf := cd_fk hq hf
            exact w_X7_isServing_73 X (fn_X7_isServing_33 n) ih _ _ _ _ _ _ hf hw (lv_sub hl [0, 1, 2] rfl)
          · replace hf := cd_tk hq hf
            refine lv_iconst (v := 1) X.1 X.2.1 dX7_isServing_71 (by decide) ?_
            cases hf
            exact r_zret X hw (by decide) dX7_isServing_72
set_option maxHeartbeats 4000000 in
theorem w_X7_isServing_19 {p : Program} {l : Launch} {e : Env} {s : State} {m : MethodId} {args : Array Value} {below : List Frame} {meth : Method} {c : Code} {D : va_G} {B : Nat} {cy : Nat → ClassId} {A : Nat → Prop} {ad av : Nat → Nat} {rv : Int32} {Z : HS} (X : hCX p s m args meth c RX7 cX7_isServing 3 (some .boolean) D cy A ad av)   (S : HS) (H : Heap) (locs : List Loc) (ls : Array Slot) (hf : fn_X7_isServing_19 S = some (rv, Z)) (hw : hWd D B cy A true hC S s.heap H locs) (hl : lv_has ls 3 []) : W p l e ({ frames := 0, cells := 0, slots := 0, locals := 0 } : Room) s m args below meth c H locs 0 0 (MQ below (hQo D B cy A true hC Z (some (.int rv))) args s 0 0 A) (F0 m 19 ls []) := by
  unfold fn_X7_isServing_19 at hf
  refine lv_iconst (v := 0) X.1 X.2.1 dX7_isServing_19 (by decide) ?_
  cases hf
  exact r_zret X hw (by decide) dX7_isServing_20
theorem hd_X7_isServing : yX7_isServing.cls = RX7 ∧ yX7_isServing.cls ≠ "java/lang/invoke/MethodHandle" ∧ yX7_isServing.cls ≠ "java/lang/invoke/VarHandle" ∧ (parseMethodDescriptor yX7_isServing.desc).map (fun d => d.parameters.length) = some 0 := by decide +kernel
set_option maxHeartbeats 4000000 in
theorem c_X7_isServing (l : Launch) (D : va_G) (B : Nat) (cy : Nat → ClassId) (A : Nat → Prop) (ad av : Nat → Nat)  {S Z : HS} {rv : Int32} (hfr : hFr S) (hG : hC S) (hf : fn_X7_isServing S = some (rv, Z)) : hMet l yX7_isServing cX7_isServing 3 (some .boolean) ({ frames := 0, cells := 0, slots := 0, locals := 0 } : Room) D B cy A ad av true hC [.ref (B + 11)] S Z (some (.int rv)) 0 0 := by
  refine h_entry (by decide) hfr hG ?_
  intro p e s m below meth c args X hnm hw
  have hl := lv_entry ([.ref (B + 11)]) (n := 3) (Nat.le_of_ble_eq_true rfl)
  rw [lg_entry_eq]
  generalize (lg_sl ([.ref (B + 11)]) ++ List.replicate (3 - (lg_sl ([.ref (B + 11)])).length) Slot.unset).toArray = ls at hl ⊢
  have hl : lv_has ls 3 [(0, .ref (B + 11))] := hl
  unfold fn_X7_isServing at hf
  refine lv_aload_n X.1 X.2.1 dX7_isServing_0 rfl (lv_at hl 0 rfl) ?_
  refine r_getI X hw (κ := 8) rfl inlX7 7 (by decide) rfl (by decide) tw_592 (hCk hw.2.2.2.2.2 11 (by decide) rfl) dX7_isServing_1 ?_
  refine lv_if_lt (tgt := 19) X.1 X.2.1 dX7_isServing_4 (by decide) (fun hq => ?_) (fun hq => ?_)
  · replace hf := cd_tk hq hf
    exact w_X7_isServing_19 X  _ _ _ _ hf hw (lv_sub hl [] rfl)
  · replace hf := cd_fk hq hf
    refine lv_aload_n X.1 X.2.1 dX7_isServing_7 rfl (lv_at hl 0 rfl) ?_
    refine r_getI X hw (κ := 8) rfl inlX7 7 (by decide) rfl (by decide) tw_592 (hCk hw.2.2.2.2.2 11 (by decide) rfl) dX7_isServing_8 ?_
    refine lv_aload_n X.1 X.2.1 dX7_isServing_11 rfl (lv_at hl 0 rfl) ?_
    refine r_getF X hw (κ := 8) rfl inlX7 2 (by decide) rfl (by decide) tw_85 (hCk hw.2.2.2.2.2 11 (by decide) rfl) (hCr (c := 11) (k := 2) (d := 6) hw.2.2.2.2.2 (by decide)) dX7_isServing_12 ?_
    refine r_alen (κ := 21) X hw (hCk hw.2.2.2.2.2 6 (by decide) rfl) (by decide) (hCn hw.2.2.2.2.2 6 (by decide) rfl) dX7_isServing_15 ?_
    refine lv_icmp_lt (tgt := 21) X.1 X.2.1 dX7_isServing_16 (by decide) (fun hq => ?_) (fun hq => ?_)
    · replace hf := cd_tk hq hf
      refine lv_aload_n X.1 X.2.1 dX7_isServing_21 rfl (lv_at hl 0 rfl) ?_
      refine r_getF X hw (κ := 8) rfl inlX7 2 (by decide) rfl (by decide) tw_85 (hCk hw.2.2.2.2.2 11 (by decide) rfl) (hCr (c := 11) (k := 2) (d := 6) hw.2.2.2.2.2 (by decide)) dX7_isServing_22 ?_
      refine lv_aload_n X.1 X.2.1 dX7_isServing_25 rfl (lv_at hl 0 rfl) ?_
      refine r_getI X hw (κ := 8) rfl inlX7 7 (by decide) rfl (by decide) tw_592 (hCk hw.2.2.2.2.2 11 (by decide) rfl) dX7_isServing_26 ?_
      obtain ⟨g1, hf⟩ := gd_ok hf
      refine r_iald X hw (hCk hw.2.2.2.2.2 6 (by decide) rfl) (hCn hw.2.2.2.2.2 6 (by decide) rfl) g1 dX7_isServing_29 ?_
      obtain ⟨v2, ev2, hf⟩ := bn_ok hf
      replace ev2 := Option.some.inj ev2
      refine lv_ren ev2 ?_
      refine lv_istore_n (lv' := [(1, .int v2), (0, .ref (B + 11))]) X.1 X.2.1 dX7_isServing_30 rfl hl (by decide) rfl (fun ls hl => ?_)
      refine lv_iconst (v := 0) X.1 X.2.1 dX7_isServing_31 (by decide) ?_
      refine lv_istore_n (lv' := [(2, .int 0), (1, .int v2), (0, .ref (B + 11))]) X.1 X.2.1 dX7_isServing_32 rfl hl (by decide) rfl (fun ls hl => ?_)
      exact w_X7_isServing_33 X  _ _ _ _ _ _ _ hf hw (lv_sub hl [2, 1, 0] rfl)
    · replace hf := cd_fk hq hf
      exact w_X7_isServing_19 X  _ _ _ _ hf hw (lv_sub hl [] rfl)
set_option maxHeartbeats 4000000 in
theorem w_X7_passDays_64 {p : Program} {l : Launch} {e : Env} {s : State} {m : MethodId} {args : Array Value} {below : List Frame} {meth : Method} {c : Code} {D : va_G} {B : Nat} {cy : Nat → ClassId} {A : Nat → Prop} {ad av : Nat → Nat} {Z : HS} (X : hCX p s m args meth c RX7 cX7_passDays 2 none D cy A ad av)   (S : HS) (H : Heap) (locs : List Loc) (ls : Array Slot) (hf : fn_X7_passDays_64 S = some Z) (hw : hWd D B cy A true hC S s.heap H locs) (hl : lv_has ls 2 []) : W p l e ({ frames := 2, cells := 0, slots := 0, locals := 47 } : Room) s m args below meth c H locs 0 0 (MQ below (hQo D B cy A true hC Z none) args s 0 0 A) (F0 m 64 ls []) := by
  unfold fn_X7_passDays_64 at hf
  cases hf
  exact r_vret X hw dX7_passDays_64
theorem hd_X7_passDays : yX7_passDays.cls = RX7 ∧ yX7_passDays.cls ≠ "java/lang/invoke/MethodHandle" ∧ yX7_passDays.cls ≠ "java/lang/invoke/VarHandle" ∧ (parseMethodDescriptor yX7_passDays.desc).map (fun d => d.parameters.length) = some 1 := by decide +kernel
set_option maxHeartbeats 4000000 in
theorem c_X7_passDays (l : Launch) (D : va_G) (B : Nat) (cy : Nat → ClassId) (A : Nat → Prop) (ad av : Nat → Nat) (x1 : Int32) {S Z : HS} (hfr : hFr S) (hG : hC S) (hf : fn_X7_passDays x1 S = some Z) : hMet l yX7_passDays cX7_passDays 2 none ({ frames := 2, cells := 0, slots := 0, locals := 47 } : Room) D B cy A ad av true hC [.ref (B + 11), .int x1] S Z none 0 0 := by
  refine h_entry (by decide) hfr hG ?_
  intro p e s m below meth c args X hnm hw
  have hl := lv_entry ([.ref (B + 11), .int x1]) (n := 2) (Nat.le_of_ble_eq_true rfl)
  rw [lg_entry_eq]
  generalize (lg_sl ([.ref (B + 11), .int x1]) ++ List.replicate (2 - (lg_sl ([.ref (B + 11), .int x1])).length) Slot.unset).toArray = ls at hl ⊢
  have hl : lv_has ls 2 [(0, .ref (B + 11)), (1, .int x1)] := hl
  unfold fn_X7_passDays at hf
  refine lv_aload_n X.1 X.2.1 dX7_passDays_0 rfl (lv_at hl 0 rfl) ?_
  refine lv_dup X.1 X.2.1 dX7_passDays_1 rfl ?_
  refine r_getI X hw (κ := 8) rfl inlX7 9 (by decide) rfl (by decide) tw_594 (hCk hw.2.2.2.2.2 11 (by decide) rfl) dX7_passDays_2 ?_
  refine lv_iload_n X.1 X.2.1 dX7_passDays_5 rfl (lv_at hl 1 rfl) ?_
  refine lv_iadd X.1 X.2.1 dX7_passDays_6 ?_
  obtain ⟨S1, eS1, hf⟩ := bn_ok hf
  replace eS1 := Option.some.inj eS1
  refine r_putI X hw (κ := 8) rfl inlX7 tyX7 tyX7_ok nmX7 9 (by decide) rfl (by decide) tw_594 (Or.inl rfl) (hCk hw.2.2.2.2.2 11 (by decide) rfl) rfl rfl hw.2.2.2.2.2 dX7_passDays_7 (fun H locs hw => ?_)
  rw [eS1] at hw
  refine lv_aload_n X.1 X.2.1 dX7_passDays_10 rfl (lv_at hl 0 rfl) ?_
  obtain ⟨r3, S2, hS2, hf⟩ := bn2_ok hf
  refine r_callV (As := []) (rest := []) (st1 := [.int r3]) (κ := 8) X hw (c_X7_isServing l D B cy A ad av  hw.2.2.2.2.1 hw.2.2.2.2.2 hS2) ⟨rfl, rfl, Nat.le_of_ble_eq_true rfl, Nat.le_of_ble_eq_true rfl⟩ rfl (by decide) (hCk hw.2.2.2.2.2 11 (by decide) rfl) tw_734 tw_735 tw_736 tw_31 tw_737 hd_X7_isServing rfl hl.1 rfl (Nat.le_of_ble_eq_true rfl) dX7_passDays_11 ⟨Nat.le_of_ble_eq_true rfl, Nat.le_of_ble_eq_true rfl⟩ rfl (fun H locs hw => ?_)
  refine lv_if_eq (tgt := 33) X.1 X.2.1 dX7_passDays_14 (by decide) (fun hq => ?_) (fun hq => ?_)
  · replace hf := cd_tk hq hf
    refine lv_aload_n X.1 X.2.1 dX7_passDays_33 rfl (lv_at hl 0 rfl) ?_
    refine lv_dup X.1 X.2.1 dX7_passDays_34 rfl ?_
    refine r_getI X hw (κ := 8) rfl inlX7 15 (by decide) rfl (by decide) tw_598 (hCk hw.2.2.2.2.2 11 (by decide) rfl) dX7_passDays_35 ?_
    refine lv_iload_n X.1 X.2.1 dX7_passDays_38 rfl (lv_at hl 1 rfl) ?_
    refine lv_iadd X.1 X.2.1 dX7_passDays_39 ?_
    obtain ⟨S4, eS4, hf⟩ := bn_ok hf
    replace eS4 := Option.some.inj eS4
    refine r_putI X hw (κ := 8) rfl inlX7 tyX7 tyX7_ok nmX7 15 (by decide) rfl (by decide) tw_598 (Or.inl rfl) (hCk hw.2.2.2.2.2 11 (by decide) rfl) rfl rfl hw.2.2.2.2.2 dX7_passDays_40 (fun H locs hw => ?_)
    rw [eS4] at hw
    refine lv_aload_n X.1 X.2.1 dX7_passDays_43 rfl (lv_at hl 0 rfl) ?_
    refine r_getI X hw (κ := 8) rfl inlX7 15 (by decide) rfl (by decide) tw_598 (hCk hw.2.2.2.2.2 11 (by decide) rfl) dX7_passDays_44 ?_
    refine lv_aload_n X.1 X.2.1 dX7_passDays_47 rfl (lv_at hl 0 rfl) ?_
    refine r_getF X hw (κ := 8) rfl inlX7 3 (by decide) rfl (by decide) tw_86 (hCk hw.2.2.2.2.2 11 (by decide) rfl) (hCr (c := 11) (k := 3) (d := 7) hw.2.2.2.2.2 (by decide)) dX7_passDays_48 ?_
    refine lv_iconst (v := 4) X.1 X.2.1 dX7_passDays_51 (by decide) ?_
    refine lv_iconst (v := 0) X.1 X.2.1 dX7_passDays_52 (by decide) ?_
    obtain ⟨r6, S5, hS5, hf⟩ := bn2_ok hf
    refine r_callV (As := [.int 4, .int 0]) (rest := [.int (gI S4 11 15)]) (st1 := [.int r6, .int (gI S4 11 15)]) (κ := 7) X hw (c_X6_numberOf l D B cy A ad av 4 0 hw.2.2.2.2.1 hw.2.2.2.2.2 hS5) ⟨rfl, rfl, Nat.le_of_ble_eq_true rfl, Nat.le_of_ble_eq_true rfl⟩ rfl (by decide) (hCk hw.2.2.2.2.2 7 (by decide) rfl) tw_738 tw_678 tw_679 tw_27 tw_680 hd_X6_numberOf rfl hl.1 rfl (Nat.le_of_ble_eq_true rfl) dX7_passDays_53 ⟨Nat.le_of_ble_eq_true rfl, Nat.le_of_ble_eq_true rfl⟩ rfl (fun H locs hw => ?_)
    refine lv_icmp_le (tgt := 64) X.1 X.2.1 dX7_passDays_56 (by decide) (fun hq => ?_) (fun hq => ?_)
    · replace hf := cd_tk hq hf
      exact w_X7_passDays_64 X  _ _ _ _ hf hw (lv_sub hl [] rfl)
    · replace hf := cd_fk hq hf
      refine lv_aload_n X.1 X.2.1 dX7_passDays_59 rfl (lv_at hl 0 rfl) ?_
      refine lv_iconst (v := 0) X.1 X.2.1 dX7_passDays_60 (by decide) ?_
      obtain ⟨S7, eS7, hf⟩ := bn_ok hf
      replace eS7 := Option.some.inj eS7
      refine r_putI X hw (κ := 8) rfl inlX7 tyX7 tyX7_ok nmX7 14 (by decide) rfl (by decide) tw_597 (Or.inl rfl) (hCk hw.2.2.2.2.2 11 (by decide) rfl) rfl rfl hw.2.2.2.2.2 dX7_passDays_61 (fun H locs hw => ?_)
      rw [eS7] at hw
      exact w_X7_passDays_64 X  _ _ _ _ hf hw (lv_sub hl [] rfl)
  · replace hf := cd_fk hq hf
    refine lv_aload_n X.1 X.2.1 dX7_passDays_17 rfl (lv_at hl 0 rfl) ?_
    refine lv_dup X.1 X.2.1 dX7_passDays_18 rfl ?_
    refine r_getI X hw (κ := 8) rfl inlX7 14 (by decide) rfl (by decide) tw_597 (hCk hw.2.2.2.2.2 11 (by decide) rfl) dX7_passDays_19 ?_
    refine lv_iload_n X.1 X.2.1 dX7_passDays_22 rfl (lv_at hl 1 rfl) ?_
    refine lv_iadd X.1 X.2.1 dX7_passDays_23 ?_
    obtain ⟨S8, eS8, hf⟩ := bn_ok hf
    replace eS8 := Option.some.inj eS8
    refine r_putI X hw (κ := 8) rfl inlX7 tyX7 tyX7_ok nmX7 14 (by decide) rfl (by decide) tw_597 (Or.inl rfl) (hCk hw.2.2.2.2.2 11 (by decide) rfl) rfl rfl hw.2.2.2.2.2 dX7_passDays_24 (fun H locs hw => ?_)
    rw [eS8] at hw
    refine lv_aload_n X.1 X.2.1 dX7_passDays_27 rfl (lv_at hl 0 rfl) ?_
    refine lv_iconst (v := 0) X.1 X.2.1 dX7_passDays_28 (by decide) ?_
    obtain ⟨S9, eS9, hf⟩ := bn_ok hf
    replace eS9 := Option.some.inj eS9
    refine r_putI X hw (κ := 8) rfl inlX7 tyX7 tyX7_ok nmX7 15 (by decide) rfl (by decide) tw_598 (Or.inl rfl) (hCk hw.2.2.2.2.2 11 (by decide) rfl) rfl rfl hw.2.2.2.2.2 dX7_passDays_29 (fun H locs hw => ?_)
    rw [eS9] at hw
    cases hf
    exact r_vret X hw dX7_passDays_32
set_option maxHeartbeats 4000000 in
theorem w_X7_daysAlike_84 {p : Program} {l : Launch} {e : Env} {s : State} {m : MethodId} {args : Array Value} {below : List Frame} {meth : Method} {c : Code} {D : va_G} {B : Nat} {cy : Nat → ClassId} {A : Nat → Prop} {ad av : Nat → Nat} {rv : Int32} {Z : HS} (X : hCX p s m args meth c RX7 cX7_daysAlike 3 (some .int) D cy A ad av)  (x2 : Int32) (S : HS) (H : Heap) (locs : List Loc) (ls : Array Slot) (hf : fn_X7_daysAlike_84 x2 S = some (rv, Z)) (hw : hWd D B cy A true hC S s.heap H locs) (hl : lv_has ls 3 [(0, .ref (B + 11)), (2, .int x2)]) : W p l e ({ frames := 3, cells := 0, slots := 0, locals := 64 } : Room) s m args below meth c H locs 0 0 (MQ below (hQo D B cy A true hC Z (some (.int rv))) args s 0 0 A) (F0 m 84 ls []) := by
  unfold fn_X7_daysAlike_84 at hf
  refine lv_iconst (v := 1) X.1 X.2.1 dX7_daysAlike_84 (by decide) ?_
  refine lv_iload_n X.1 X.2.1 dX7_daysAlike_85 rfl (lv_at hl 1 rfl) ?_
  refine lv_aload_n X.1 X.2.1 dX7_daysAlike_86 rfl (lv_at hl 0 rfl) ?_
  refine r_getF X hw (κ := 8) rfl inlX7 4 (by decide) rfl (by decide) tw_80 (hCk hw.2.2.2.2.2 11 (by decide) rfl) (hCr (c := 11) (k := 4) (d := 12) hw.2.2.2.2.2 (by decide)) dX7_daysAlike_87 ?_
  refine lv_aload_n X.1 X.2.1 dX7_daysAlike_90 rfl (lv_at hl 0 rfl) ?_
  refine r_getI X hw (κ := 8) rfl inlX7 14 (by decide) rfl (by decide) tw_597 (hCk hw.2.2.2.2.2 11 (by decide) rfl) dX7_daysAlike_91 ?_
  obtain ⟨r2, S1, hS1, hf⟩ := bn2_ok hf
  refine r_callV (As := [.int (gI S 11 14)]) (rest := [.int x2, .int 1]) (st1 := [.int r2, .int x2, .int 1]) (κ := 2) X hw (c_X1_daysToNextStep l D B cy A ad av (gI S 11 14) hw.2.2.2.2.1 hw.2.2.2.2.2 hS1) ⟨rfl, rfl, Nat.le_of_ble_eq_true rfl, Nat.le_of_ble_eq_true rfl⟩ rfl (by decide) (hCk hw.2.2.2.2.2 12 (by decide) rfl) tw_726 tw_727 tw_728 tw_79 tw_729 hd_X1_daysToNextStep rfl hl.1 rfl (Nat.le_of_ble_eq_true rfl) dX7_daysAlike_94 ⟨Nat.le_of_ble_eq_true rfl, Nat.le_of_ble_eq_true rfl⟩ rfl (fun H locs hw => ?_)
  refine r_mmin X hl.1 tw_724 (by decide) (Nat.le_of_ble_eq_true rfl) (by decide) (by decide) dX7_daysAlike_97 ?_
  refine r_mmax X hl.1 tw_725 (by decide) (Nat.le_of_ble_eq_true rfl) (by decide) (by decide) dX7_daysAlike_100 ?_
  cases hf
  exact r_iret X hw dX7_daysAlike_103
set_option maxHeartbeats 4000000 in
theorem w_X7_daysAlike_43 {p : Program} {l : Launch} {e : Env} {s : State} {m : MethodId} {args : Array Value} {below : List Frame} {meth : Method} {c : Code} {D : va_G} {B : Nat} {cy : Nat → ClassId} {A : Nat → Prop} {ad av : Nat → Nat} {rv : Int32} {Z : HS} (X : hCX p s m args meth c RX7 cX7_daysAlike 3 (some .int) D cy A ad av)  (x2 : Int32) (S : HS) (H : Heap) (locs : List Loc) (ls : Array Slot) (hf : fn_X7_daysAlike_43 x2 S = some (rv, Z)) (hw : hWd D B cy A true hC S s.heap H locs) (hl : lv_has ls 3 [(0, .ref (B + 11)), (2, .int x2)]) : W p l e ({ frames := 3, cells := 0, slots := 0, locals := 64 } : Room) s m args below meth c H locs 0 0 (MQ below (hQo D B cy A true hC Z (some (.int rv))) args s 0 0 A) (F0 m 43 ls []) := by
  unfold fn_X7_daysAlike_43 at hf
  refine lv_aload_n X.1 X.2.1 dX7_daysAlike_43 rfl (lv_at hl 0 rfl) ?_
  refine r_getI X hw (κ := 8) rfl inlX7 11 (by decide) rfl (by decide) tw_596 (hCk hw.2.2.2.2.2 11 (by decide) rfl) dX7_daysAlike_44 ?_
  refine lv_aload_n X.1 X.2.1 dX7_daysAlike_47 rfl (lv_at hl 0 rfl) ?_
  refine r_getF X hw (κ := 8) rfl inlX7 1 (by decide) rfl (by decide) tw_84 (hCk hw.2.2.2.2.2 11 (by decide) rfl) (hCr (c := 11) (k := 1) (d := 5) hw.2.2.2.2.2 (by decide)) dX7_daysAlike_48 ?_
  obtain ⟨r2, S1, hS1, hf⟩ := bn2_ok hf
  refine r_callV (As := []) (rest := [.int (gI S 11 11)]) (st1 := [.int r2, .int (gI S 11 11)]) (κ := 0) X hw (c_Jl_size l D B cy A ad av _ _ 5 hw.2.2.2.2.1 hw.2.2.2.2.2 hS1) ⟨rfl, rfl, Nat.le_of_ble_eq_true rfl, Nat.le_of_ble_eq_true rfl⟩ rfl (by decide) (hCk hw.2.2.2.2.2 5 (by decide) rfl) tw_621 tw_175 tw_176 tw_20 tw_177 hd_Jl_size rfl hl.1 rfl (Nat.le_of_ble_eq_true rfl) dX7_daysAlike_51 ⟨Nat.le_of_ble_eq_true rfl, Nat.le_of_ble_eq_true rfl⟩ rfl (fun H locs hw => ?_)
  refine lv_icmp_ge (tgt := 84) X.1 X.2.1 dX7_daysAlike_54 (by decide) (fun hq => ?_) (fun hq => ?_)
  · replace hf := cd_tk hq hf
    exact w_X7_daysAlike_84 X  _ _ _ _ _ hf hw (lv_sub hl [0, 1] rfl)
  · replace hf := cd_fk hq hf
    refine lv_iload_n X.1 X.2.1 dX7_daysAlike_57 rfl (lv_at hl 1 rfl) ?_
    refine lv_aload_n X.1 X.2.1 dX7_daysAlike_58 rfl (lv_at hl 0 rfl) ?_
    refine r_getF X hw (κ := 8) rfl inlX7 1 (by decide) rfl (by decide) tw_84 (hCk hw.2.2.2.2.2 11 (by decide) rfl) (hCr (c := 11) (k := 1) (d := 5) hw.2.2.2.2.2 (by decide)) dX7_daysAlike_59 ?_
    refine lv_aload_n X.1 X.2.1 dX7_daysAlike_62 rfl (lv_at hl 0 rfl) ?_
    refine r_getI X hw (κ := 8) rfl inlX7 11 (by decide) rfl (by decide) tw_596 (hCk hw.2.2.2.2.2 11 (by decide) rfl) dX7_daysAlike_63 ?_
    obtain ⟨r4, S3, hS3, hf⟩ := bn2_ok hf
    refine r_callV (As := [.int (gI S1 11 11)]) (rest := [.int x2]) (st1 := [va_rf (Option.map (B + ·) r4), .int x2]) (κ := 0) X hw (c_Jl_get l D B cy A ad av _ _ 5 (gI S1 11 11) hw.2.2.2.2.1 hw.2.2.2.2.2 hS3) ⟨rfl, rfl, Nat.le_of_ble_eq_true rfl, Nat.le_of_ble_eq_true rfl⟩ rfl (by decide) (hCk hw.2.2.2.2.2 5 (by decide) rfl) tw_622 tw_420 tw_421 tw_20 tw_422 hd_Jl_get rfl hl.1 rfl (Nat.le_of_ble_eq_true rfl) dX7_daysAlike_66 ⟨Nat.le_of_ble_eq_true rfl, Nat.le_of_ble_eq_true rfl⟩ rfl (fun H locs hw => ?_)
    obtain ⟨c5, ec5, hf⟩ := bn_ok hf
    rw [ec5]
    obtain ⟨g6, hf⟩ := gd_ok hf
    refine r_cast X hw (κ := 4) rfl (by decide) tw_638 g6 dX7_daysAlike_69 ?_
    obtain ⟨g7, hf⟩ := gd_ok hf
    refine r_getI X hw (κ := 4) rfl inlX3 2 (by decide) rfl (by decide) tw_639 g7 dX7_daysAlike_72 ?_
    refine lv_aload_n X.1 X.2.1 dX7_daysAlike_75 rfl (lv_at hl 0 rfl) ?_
    refine r_getI X hw (κ := 8) rfl inlX7 9 (by decide) rfl (by decide) tw_594 (hCk hw.2.2.2.2.2 11 (by decide) rfl) dX7_daysAlike_76 ?_
    refine lv_isub X.1 X.2.1 dX7_daysAlike_79 ?_
    refine r_mmin X hl.1 tw_724 (by decide) (Nat.le_of_ble_eq_true rfl) (by decide) (by decide) dX7_daysAlike_80 ?_
    obtain ⟨v8, ev8, hf⟩ := bn_ok hf
    replace ev8 := Option.some.inj ev8
    refine lv_ren ev8 ?_
    refine lv_istore_n (lv' := [(2, .int v8), (0, .ref (B + 11))]) X.1 X.2.1 dX7_daysAlike_83 rfl hl (by decide) rfl (fun ls hl => ?_)
    exact w_X7_daysAlike_84 X  _ _ _ _ _ hf hw (lv_sub hl [1, 0] rfl)
theorem hd_X7_daysAlike : yX7_daysAlike.cls = RX7 ∧ yX7_daysAlike.cls ≠ "java/lang/invoke/MethodHandle" ∧ yX7_daysAlike.cls ≠ "java/lang/invoke/VarHandle" ∧ (parseMethodDescriptor yX7_daysAlike.desc).map (fun d => d.parameters.length) = some 1 := by decide +kernel
set_option maxHeartbeats 4000000 in
theorem c_X7_daysAlike (l : Launch) (D : va_G) (B : Nat) (cy : Nat → ClassId) (A : Nat → Prop) (ad av : Nat → Nat) (x1 : Int32) {S Z : HS} {rv : Int32} (hfr : hFr S) (hG : hC S) (hf : fn_X7_daysAlike x1 S = some (rv, Z)) : hMet l yX7_daysAlike cX7_daysAlike 3 (some .int) ({ frames := 3, cells := 0, slots := 0, locals := 64 } : Room) D B cy A ad av true hC [.ref (B + 11), .int x1] S Z (some (.int rv)) 0 0 := by
  refine h_entry (by decide) hfr hG ?_
  intro p e s m below meth c args X hnm hw
  have hl := lv_entry ([.ref (B + 11), .int x1]) (n := 3) (Nat.le_of_ble_eq_true rfl)
  rw [lg_entry_eq]
  generalize (lg_sl ([.ref (B + 11), .int x1]) ++ List.replicate (3 - (lg_sl ([.ref (B + 11), .int x1])).length) Slot.unset).toArray = ls at hl ⊢
  have hl : lv_has ls 3 [(0, .ref (B + 11)), (1, .int x1)] := hl
  unfold fn_X7_daysAlike at hf
  refine lv_iload_n X.1 X.2.1 dX7_daysAlike_0 rfl (lv_at hl 1 rfl) ?_
  refine lv_istore_n (lv' := [(2, .int x1), (0, .ref (B + 11)), (1, .int x1)]) X.1 X.2.1 dX7_daysAlike_1 rfl hl (by decide) rfl (fun ls hl => ?_)
  refine lv_aload_n X.1 X.2.1 dX7_daysAlike_2 rfl (lv_at hl 1 rfl) ?_
  refine r_getI X hw (κ := 8) rfl inlX7 10 (by decide) rfl (by decide) tw_595 (hCk hw.2.2.2.2.2 11 (by decide) rfl) dX7_daysAlike_3 ?_
  refine lv_aload_n X.1 X.2.1 dX7_daysAlike_6 rfl (lv_at hl 1 rfl) ?_
  refine r_getF X hw (κ := 8) rfl inlX7 0 (by decide) rfl (by decide) tw_83 (hCk hw.2.2.2.2.2 11 (by decide) rfl) (hCr (c := 11) (k := 0) (d := 4) hw.2.2.2.2.2 (by decide)) dX7_daysAlike_7 ?_
  obtain ⟨r2, S1, hS1, hf⟩ := bn2_ok hf
  refine r_callV (As := []) (rest := [.int (gI S 11 10)]) (st1 := [.int r2, .int (gI S 11 10)]) (κ := 0) X hw (c_Jl_size l D B cy A ad av _ _ 4 hw.2.2.2.2.1 hw.2.2.2.2.2 hS1) ⟨rfl, rfl, Nat.le_of_ble_eq_true rfl, Nat.le_of_ble_eq_true rfl⟩ rfl (by decide) (hCk hw.2.2.2.2.2 4 (by decide) rfl) tw_621 tw_175 tw_176 tw_20 tw_177 hd_Jl_size rfl hl.1 rfl (Nat.le_of_ble_eq_true rfl) dX7_daysAlike_10 ⟨Nat.le_of_ble_eq_true rfl, Nat.le_of_ble_eq_true rfl⟩ rfl (fun H locs hw => ?_)
  refine lv_icmp_ge (tgt := 43) X.1 X.2.1 dX7_daysAlike_13 (by decide) (fun hq => ?_) (fun hq => ?_)
  · replace hf := cd_tk hq hf
    exact w_X7_daysAlike_43 X  _ _ _ _ _ hf hw (lv_sub hl [1, 0] rfl)
  · replace hf := cd_fk hq hf
    refine lv_iload_n X.1 X.2.1 dX7_daysAlike_16 rfl (lv_at hl 0 rfl) ?_
    refine lv_aload_n X.1 X.2.1 dX7_daysAlike_17 rfl (lv_at hl 1 rfl) ?_
    refine r_getF X hw (κ := 8) rfl inlX7 0 (by decide) rfl (by decide) tw_83 (hCk hw.2.2.2.2.2 11 (by decide) rfl) (hCr (c := 11) (k := 0) (d := 4) hw.2.2.2.2.2 (by decide)) dX7_daysAlike_18 ?_
    refine lv_aload_n X.1 X.2.1 dX7_daysAlike_21 rfl (lv_at hl 1 rfl) ?_
    refine r_getI X hw (κ := 8) rfl inlX7 10 (by decide) rfl (by decide) tw_595 (hCk hw.2.2.2.2.2 11 (by decide) rfl) dX7_daysAlike_22 ?_
    obtain ⟨r4, S3, hS3, hf⟩ := bn2_ok hf
    refine r_callV (As := [.int (gI S1 11 10)]) (rest := [.int x1]) (st1 := [va_rf (Option.map (B + ·) r4), .int x1]) (κ := 0) X hw (c_Jl_get l D B cy A ad av _ _ 4 (gI S1 11 10) hw.2.2.2.2.1 hw.2.2.2.2.2 hS3) ⟨rfl, rfl, Nat.le_of_ble_eq_true rfl, Nat.le_of_ble_eq_true rfl⟩ rfl (by decide) (hCk hw.2.2.2.2.2 4 (by decide) rfl) tw_622 tw_420 tw_421 tw_20 tw_422 hd_Jl_get rfl hl.1 rfl (Nat.le_of_ble_eq_true rfl) dX7_daysAlike_25 ⟨Nat.le_of_ble_eq_true rfl, Nat.le_of_ble_eq_true rfl⟩ rfl (fun H locs hw => ?_)
    obtain ⟨c5, ec5, hf⟩ := bn_ok hf
    rw [ec5]
    obtain ⟨g6, hf⟩ := gd_ok hf
    refine r_cast X hw (κ := 1) rfl (by decide) tw_618 g6 dX7_daysAlike_28 ?_
    obtain ⟨g7, hf⟩ := gd_ok hf
    refine r_getI X hw (κ := 1) rfl inlX0 1 (by decide) rfl (by decide) tw_619 g7 dX7_daysAlike_31 ?_
    refine lv_aload_n X.1 X.2.1 dX7_daysAlike_34 rfl (lv_at hl 1 rfl) ?_
    refine r_getI X hw (κ := 8) rfl inlX7 9 (by decide) rfl (by decide) tw_594 (hCk hw.2.2.2.2.2 11 (by decide) rfl) dX7_daysAlike_35 ?_
    refine lv_isub X.1 X.2.1 dX7_daysAlike_38 ?_
    refine r_mmin X hl.1 tw_724 (by decide) (Nat.le_of_ble_eq_true rfl) (by decide) (by decide) dX7_daysAlike_39 ?_
    obtain ⟨v8, ev8, hf⟩ := bn_ok hf
    replace ev8 := Option.some.inj ev8
    refine lv_ren ev8 ?_
    refine lv_istore_n (lv' := [(2, .int v8), (0, .ref (B + 11)), (1, .int x1)]) X.1 X.2.1 dX7_daysAlike_42 rfl hl (by decide) rfl (fun ls hl => ?_)
    exact w_X7_daysAlike_43 X  _ _ _ _ _ hf hw (lv_sub hl [1, 0] rfl)
set_option maxHeartbeats 4000000 in
theorem w_X7_payOfDay_45 {p : Program} {l : Launch} {e : Env} {s : State} {m : MethodId} {args : Array Value} {below : List Frame} {meth : Method} {c : Code} {D : va_G} {B : Nat} {cy : Nat → ClassId} {A : Nat → Prop} {ad av : Nat → Nat} {rv : Int64} {Z : HS} (X : hCX p s m args meth c RX7 cX7_payOfDay 3 (some .long) D cy A ad av)  (y0 : Int64) (S : HS) (H : Heap) (locs : List Loc) (ls : Array Slot) (hf : fn_X7_payOfDay_45 y0 S = some (rv, Z)) (hw : hWd D B cy A true hC S s.heap H locs) (hl : lv_has ls 3 []) : W p l e ({ frames := 0, cells := 0, slots := 0, locals := 0 } : Room) s m args below meth c H locs 0 0 (MQ below (hQo D B cy A true hC Z (some (.long rv))) args s 0 0 A) (F0 m 45 ls [.long y0]) := by
  unfold fn_X7_payOfDay_45 at hf
  cases hf
  exact r_lret X hw dX7_payOfDay_45
theorem hd_X7_payOfDay : yX7_payOfDay.cls = RX7 ∧ yX7_payOfDay.cls ≠ "java/lang/invoke/MethodHandle" ∧ yX7_payOfDay.cls ≠ "java/lang/invoke/VarHandle" ∧ (parseMethodDescriptor yX7_payOfDay.desc).map (fun d => d.parameters.length) = some 0 := by decide +kernel
set_option maxHeartbeats 4000000 in
theorem c_X7_payOfDay (l : Launch) (D : va_G) (B : Nat) (cy : Nat → ClassId) (A : Nat → Prop) (ad av : Nat → Nat)  {S Z : HS} {rv : Int64} (hfr : hFr S) (hG : hC S) (hf : fn_X7_payOfDay S = some (rv, Z)) : hMet l yX7_payOfDay cX7_payOfDay 3 (some .long) ({ frames := 0, cells := 0, slots := 0, locals := 0 } : Room) D B cy A ad av true hC [.ref (B + 11)] S Z (some (.long rv)) 0 0 := by
  refine h_entry (by decide) hfr hG ?_
  intro p e s m below meth c args X hnm hw
  have hl := lv_entry ([.ref (B + 11)]) (n := 3) (Nat.le_of_ble_eq_true rfl)
  rw [lg_entry_eq]
  generalize (lg_sl ([.ref (B + 11)]) ++ List.replicate (3 - (lg_sl ([.ref (B + 11)])).length) Slot.unset).toArray = ls at hl ⊢
  have hl : lv_has ls 3 [(0, .ref (B + 11))] := hl
  unfold fn_X7_payOfDay at hf
  refine lv_aload_n X.1 X.2.1 dX7_payOfDay_0 rfl (lv_at hl 0 rfl) ?_
  refine r_getF X hw (κ := 8) rfl inlX7 5 (by decide) rfl (by decide) tw_81 (hCk hw.2.2.2.2.2 11 (by decide) rfl) (hCr (c := 11) (k := 5) (d := 13) hw.2.2.2.2.2 (by decide)) dX7_payOfDay_1 ?_
  refine lv_bipush (v := 7) X.1 X.2.1 dX7_payOfDay_4 (by decide) ?_
  obtain ⟨g1, hf⟩ := gd_ok hf
  refine r_iald X hw (hCk hw.2.2.2.2.2 13 (by decide) rfl) (hCn hw.2.2.2.2.2 13 (by decide) rfl) g1 dX7_payOfDay_6 ?_
  refine lv_bipush (v := 10) X.1 X.2.1 dX7_payOfDay_7 (by decide) ?_
  refine lv_idiv X.1 X.2.1 dX7_payOfDay_9 (by decide) ?_
  obtain ⟨v2, ev2, hf⟩ := bn_ok hf
  replace ev2 := Option.some.inj ev2
  refine lv_ren ev2 ?_
  refine lv_istore_n (lv' := [(1, .int v2), (0, .ref (B + 11))]) X.1 X.2.1 dX7_payOfDay_10 rfl hl (by decide) rfl (fun ls hl => ?_)
  refine lv_aload_n X.1 X.2.1 dX7_payOfDay_11 rfl (lv_at hl 1 rfl) ?_
  refine r_getF X hw (κ := 8) rfl inlX7 5 (by decide) rfl (by decide) tw_81 (hCk hw.2.2.2.2.2 11 (by decide) rfl) (hCr (c := 11) (k := 5) (d := 13) hw.2.2.2.2.2 (by decide)) dX7_payOfDay_12 ?_
  refine lv_bipush (v := 7) X.1 X.2.1 dX7_payOfDay_15 (by decide) ?_
  obtain ⟨g3, hf⟩ := gd_ok hf
  refine r_iald X hw (hCk hw.2.2.2.2.2 13 (by decide) rfl) (hCn hw.2.2.2.2.2 13 (by decide) rfl) g3 dX7_payOfDay_17 ?_
  refine lv_bipush (v := 10) X.1 X.2.1 dX7_payOfDay_18 (by decide) ?_
  refine lv_irem X.1 X.2.1 dX7_payOfDay_20 (by decide) ?_
  obtain ⟨v4, ev4, hf⟩ := bn_ok hf
  replace ev4 := Option.some.inj ev4
  refine lv_ren ev4 ?_
  refine lv_istore_n (lv' := [(2, .int v4), (1, .int v2), (0, .ref (B + 11))]) X.1 X.2.1 dX7_payOfDay_21 rfl hl (by decide) rfl (fun ls hl => ?_)
  refine lv_iload_n X.1 X.2.1 dX7_payOfDay_22 rfl (lv_at hl 0 rfl) ?_
  refine lv_if_le (tgt := 44) X.1 X.2.1 dX7_payOfDay_23 (by decide) (fun hq => ?_) (fun hq => ?_)
  · replace hf := cd_tk hq hf
    refine lv_lconst (v := 0) X.1 X.2.1 dX7_payOfDay_44 (by decide) ?_
    exact w_X7_payOfDay_45 X  _ _ _ _ _ hf hw (lv_sub hl [] rfl)
  · replace hf := cd_fk hq hf
    refine lv_ldc2 X.1 X.2.1 X.2.2.2.1 (X.2.2.2.2.1 _ tw_811) dX7_payOfDay_26 ?_
    refine lv_aload_n X.1 X.2.1 dX7_payOfDay_29 rfl (lv_at hl 2 rfl) ?_
    refine r_getI X hw (κ := 8) rfl inlX7 17 (by decide) rfl (by decide) tw_600 (hCk hw.2.2.2.2.2 11 (by decide) rfl) dX7_payOfDay_30 ?_
    refine lv_i2l X.1 X.2.1 dX7_payOfDay_33 rfl ?_
    refine lv_lmul X.1 X.2.1 dX7_payOfDay_34 ?_
    refine lv_iload_n X.1 X.2.1 dX7_payOfDay_35 rfl (lv_at hl 1 rfl) ?_
    refine lv_i2l X.1 X.2.1 dX7_payOfDay_36 rfl ?_
    refine lv_lmul X.1 X.2.1 dX7_payOfDay_37 ?_
    refine lv_iload_n X.1 X.2.1 dX7_payOfDay_38 rfl (lv_at hl 0 rfl) ?_
    refine lv_i2l X.1 X.2.1 dX7_payOfDay_39 rfl ?_
    obtain ⟨hq, hf⟩ := gd_ok hf
    refine lv_ldiv X.1 X.2.1 dX7_payOfDay_40 hq ?_
    refine lv_goto (tgt := 45) X.1 X.2.1 dX7_payOfDay_41 (by decide) ?_
    exact w_X7_payOfDay_45 X  _ _ _ _ _ hf hw (lv_sub hl [] rfl)
set_option maxHeartbeats 4000000 in
theorem w_X7_payOfDays_70 {p : Program} {l : Launch} {e : Env} {s : State} {m : MethodId} {args : Array Value} {below : List Frame} {meth : Method} {c : Code} {D : va_G} {B : Nat} {cy : Nat → ClassId} {A : Nat → Prop} {ad av : Nat → Nat} {rv : Int64} {Z : HS} (X : hCX p s m args meth c RX7 cX7_payOfDays 7 (some .long) D cy A ad av)  (x2 : Int64) (S : HS) (H : Heap) (locs : List Loc) (ls : Array Slot) (hf : fn_X7_payOfDays_70 x2 S = some (rv, Z)) (hw : hWd D B cy A true hC S s.heap H locs) (hl : lv_has ls 7 [(2, .long x2)]) : W p l e ({ frames := 6, cells := 0, slots := 0, locals := 130 } : Room) s m args below meth c H locs 0 0 (MQ below (hQo D B cy A true hC Z (some (.long rv))) args s 0 0 A) (F0 m 70 ls []) := by
  unfold fn_X7_payOfDays_70 at hf
  refine lv_lload_n X.1 X.2.1 dX7_payOfDays_70 rfl (lv_at hl 0 rfl) ?_
  cases hf
  exact r_lret X hw dX7_payOfDays_71
set_option maxHeartbeats 4000000 in
theorem w_X7_payOfDays_13 {p : Program} {l : Launch} {e : Env} {s : State} {m : MethodId} {args : Array Value} {below : List Frame} {meth : Method} {c : Code} {D : va_G} {B : Nat} {cy : Nat → ClassId} {A : Nat → Prop} {ad av : Nat → Nat} {rv : Int64} {Z : HS} (X : hCX p s m args meth c RX7 cX7_payOfDays 7 (some .long) D cy A ad av)  : ∀ (n : Nat) (x2 : Int64) (x4 : Int32) (x5 : Int32) (S : HS) (H : Heap) (locs : List Loc) (ls : Array Slot), fn_X7_payOfDays_13 n x2 x4 x5 S = some (rv, Z) → hWd D B cy A true hC S s.heap H locs → lv_has ls 7 [(0, .ref (B + 11)), (2, .long x2), (4, .int x4), (5, .int x5)] → W p l e ({ frames := 6, cells := 0, slots := 0, locals := 130 } : Room) s m args below meth c H locs 0 0 (MQ below (hQo D B cy A true hC Z (some (.long rv))) args s 0 0 A) (F0 m 13 ls []) := by
  intro n
  induction n with
  | zero =>
    intro x2 x4 x5 S H locs ls hf
    cases hf
  | succ n ih =>
    intro x2 x4 x5 S H locs ls hf hw hl
    rw [fn_X7_payOfDays_13] at hf
    refine lv_iload X.1 X.2.1 dX7_payOfDays_13 (lv_at hl 3 rfl) ?_
    refine lv_sipush (v := 1200) X.1 X.2.1 dX7_payOfDays_15 (by decide) ?_
    refine lv_icmp_ge (tgt := 70) X.1 X.2.1 dX7_payOfDays_18 (by decide) (fun hq => ?_) (fun hq => ?_)
    · replace hf := cd_tk hq hf
      exact w_X7_payOfDays_70 X  _ _ _ _ _ hf hw (lv_sub hl [1] rfl)
    · replace hf := cd_fk hq hf
      refine lv_aload_n X.1 X.2.1 dX7_payOfDays_21 rfl (lv_at hl 0 rfl) ?_
      refine r_getI X hw (κ := 8) rfl inlX7 9 (by decide) rfl (by decide) tw_594 (hCk hw.2.2.2.2.2 11 (by decide) rfl) dX7_payOfDays_22 ?_
      refine lv_iload X.1 X.2.1 dX7_payOfDays_25 (lv_at hl 2 rfl) ?_
      refine lv_icmp_ge (tgt := 70) X.1 X.2.1 dX7_payOfDays_27 (by decide) (fun hq => ?_) (fun hq => ?_)
      · replace hf := cd_tk hq hf
        exact w_X7_payOfDays_70 X  _ _ _ _ _ hf hw (lv_sub hl [1] rfl)
      · replace hf := cd_fk hq hf
        refine lv_aload_n X.1 X.2.1 dX7_payOfDays_30 rfl (lv_at hl 0 rfl) ?_
        refine lv_iload X.1 X.2.1 dX7_payOfDays_31 (lv_at hl 2 rfl) ?_
        refine lv_aload_n X.1 X.2.1 dX7_payOfDays_33 rfl (lv_at hl 0 rfl) ?_
        refine r_getI X hw (κ := 8) rfl inlX7 9 (by decide) rfl (by decide) tw_594 (hCk hw.2.2.2.2.2 11 (by decide) rfl) dX7_payOfDays_34 ?_
        refine lv_isub X.1 X.2.1 dX7_payOfDays_37 ?_
        obtain ⟨r2, S1, hS1, hf⟩ := bn2_ok hf
        refine r_callV (As := [.int (x4 - (gI S 11 9))]) (rest := []) (st1 := [.int r2]) (κ := 8) X hw (c_X7_daysAlike l D B cy A ad av (x4 - (gI S 11 9)) hw.2.2.2.2.1 hw.2.2.2.2.2 hS1) ⟨rfl, rfl, Nat.le_of_ble_eq_true rfl, Nat.le_of_ble_eq_true rfl⟩ rfl (by decide) (hCk hw.2.2.2.2.2 11 (by decide) rfl) tw_720 tw_721 tw_722 tw_31 tw_723 hd_X7_daysAlike rfl hl.1 rfl (Nat.le_of_ble_eq_true rfl) dX7_payOfDays_38 ⟨Nat.le_of_ble_eq_true rfl, Nat.le_of_ble_eq_true rfl⟩ rfl (fun H locs hw => ?_)
        refine lv_istore (lv' := [(6, .int r2), (0, .ref (B + 11)), (2, .long x2), (4, .int x4), (5, .int x5)]) X.1 X.2.1 dX7_payOfDays_41 hl (by decide) rfl (fun ls hl => ?_)
        refine lv_lload_n X.1 X.2.1 dX7_payOfDays_43 rfl (lv_at hl 2 rfl) ?_
        refine lv_iload X.1 X.2.1 dX7_payOfDays_44 (lv_at hl 0 rfl) ?_
        refine lv_i2l X.1 X.2.1 dX7_payOfDays_46 rfl ?_
        refine lv_aload_n X.1 X.2.1 dX7_payOfDays_47 rfl (lv_at hl 1 rfl) ?_
        obtain ⟨r4, S3, hS3, hf⟩ := bn2_ok hf
        refine r_callV (As := []) (rest := [.long (r2.toInt64), .long x2]) (st1 := [.long r4, .long (r2.toInt64), .long x2]) (κ := 8) X hw (c_X7_payOfDay l D B cy A ad av  hw.2.2.2.2.1 hw.2.2.2.2.2 hS3) ⟨rfl, rfl, Nat.le_of_ble_eq_true rfl, Nat.le_of_ble_eq_true rfl⟩ rfl (by decide) (hCk hw.2.2.2.2.2 11 (by decide) rfl) tw_832 tw_808 tw_809 tw_31 tw_810 hd_X7_payOfDay rfl hl.1 rfl (Nat.le_of_ble_eq_true rfl) dX7_payOfDays_48 ⟨Nat.le_of_ble_eq_true rfl, Nat.le_of_ble_eq_true rfl⟩ rfl (fun H locs hw => ?_)
        refine lv_lmul X.1 X.2.1 dX7_payOfDays_51 ?_
        refine lv_ladd X.1 X.2.1 dX7_payOfDays_52 ?_
        obtain ⟨v5, ev5, hf⟩ := bn_ok hf
        replace ev5 := Option.some.inj ev5
        refine lv_renl ev5 ?_
        refine lv_lstore_n (lv' := [(2, .long v5), (6, .int r2), (0, .ref (B + 11)), (4, .int x4), (5, .int x5)]) X.1 X.2.1 dX7_payOfDays_53 rfl hl (by decide) rfl (fun ls hl => ?_)
        refine lv_aload_n X.1 X.2.1 dX7_payOfDays_54 rfl (lv_at hl 2 rfl) ?_
        refine lv_iload X.1 X.2.1 dX7_payOfDays_55 (lv_at hl 1 rfl) ?_
        obtain ⟨S6, hS6, hf⟩ := bn_ok hf
        refine r_callV (As := [.int r2]) (rest := []) (st1 := []) (κ := 8) X hw (c_X7_passDays l D B cy A ad av r2 hw.2.2.2.2.1 hw.2.2.2.2.2 hS6) ⟨rfl, rfl, Nat.le_of_ble_eq_true rfl, Nat.le_of_ble_eq_true rfl⟩ rfl (by decide) (hCk hw.2.2.2.2.2 11 (by decide) rfl) tw_730 tw_731 tw_732 tw_31 tw_733 hd_X7_passDays rfl hl.1 rfl (Nat.le_of_ble_eq_true rfl) dX7_payOfDays_57 ⟨Nat.le_of_ble_eq_true rfl, Nat.le_of_ble_eq_true rfl⟩ rfl (fun H locs hw => ?_)
        refine lv_aload_n X.1 X.2.1 dX7_payOfDays_60 rfl (lv_at hl 2 rfl) ?_
        obtain ⟨S7, hS7, hf⟩ := bn_ok hf
        refine r_callV (As := []) (rest := []) (st1 := []) (κ := 8) X hw (c_X7_openDay l D B cy A ad av  hw.2.2.2.2.1 hw.2.2.2.2.2 hS7) ⟨rfl, rfl, Nat.le_of_ble_eq_true rfl, Nat.le_of_ble_eq_true rfl⟩ rfl (by decide) (hCk hw.2.2.2.2.2 11 (by decide) rfl) tw_610 tw_611 tw_612 tw_31 tw_613 hd_X7_openDay rfl hl.1 rfl (Nat.le_of_ble_eq_true rfl) dX7_payOfDays_61 ⟨Nat.le_of_ble_eq_true rfl, Nat.le_of_ble_eq_true rfl⟩ rfl (fun H locs hw => ?_)
        obtain ⟨v8, ev8, hf⟩ := bn_ok hf
        replace ev8 := Option.some.inj ev8
        refine lv_iinc (v := v8) (lv' := [(5, .int v8), (2, .long v5), (6, .int r2), (0, .ref (B + 11)), (4, .int x4)]) X.1 X.2.1 dX7_payOfDays_64 hl (k := 4) rfl ev8 (by decide) rfl (fun ls hl => ?_)
        refine lv_goto (tgt := 13) X.1 X.2.1 dX7_payOfDays_67 (by decide) ?_
        exact ih _ _ _ _ _ _ _ hf hw (lv_sub hl [3, 1, 4, 0] rfl)
theorem hd_X7_payOfDays : yX7_payOfDays.cls = RX7 ∧ yX7_payOfDays.cls ≠ "java/lang/invoke/MethodHandle" ∧ yX7_payOfDays.cls ≠ "java/lang/invoke/VarHandle" ∧ (parseMethodDescriptor yX7_payOfDays.desc).map (fun d => d.parameters.length) = some 1 := by decide +kernel
set_option maxHeartbeats 4000000 in
theorem c_X7_payOfDays (l : Launch) (D : va_G) (B : Nat) (cy : Nat → ClassId) (A : Nat → Prop) (ad av : Nat → Nat) (x1 : Int32) {S Z : HS} {rv : Int64} (hfr : hFr S) (hG : hC S) (hf : fn_X7_payOfDays x1 S = some (rv, Z)) : hMet l yX7_payOfDays cX7_payOfDays 7 (some .long) ({ frames := 6, cells := 0, slots := 0, locals := 130 } : Room) D B cy A ad av true hC [.ref (B + 11), .int x1] S Z (some (.long rv)) 0 0 := by
  refine h_entry (by decide) hfr hG ?_
  intro p e s m below meth c args X hnm hw
  have hl := lv_entry ([.ref (B + 11), .int x1]) (n := 7) (Nat.le_of_ble_eq_true rfl)
  rw [lg_entry_eq]
  generalize (lg_sl ([.ref (B + 11), .int x1]) ++ List.replicate (7 - (lg_sl ([.ref (B + 11), .int x1])).length) Slot.unset).toArray = ls at hl ⊢
  have hl : lv_has ls 7 [(0, .ref (B + 11)), (1, .int x1)] := hl
  unfold fn_X7_payOfDays at hf
  refine lv_lconst (v := 0) X.1 X.2.1 dX7_payOfDays_0 (by decide) ?_
  refine lv_lstore_n (lv' := [(2, .long 0), (0, .ref (B + 11)), (1, .int x1)]) X.1 X.2.1 dX7_payOfDays_1 rfl hl (by decide) rfl (fun ls hl => ?_)
  refine lv_aload_n X.1 X.2.1 dX7_payOfDays_2 rfl (lv_at hl 1 rfl) ?_
  refine r_getI X hw (κ := 8) rfl inlX7 9 (by decide) rfl (by decide) tw_594 (hCk hw.2.2.2.2.2 11 (by decide) rfl) dX7_payOfDays_3 ?_
  refine lv_iload_n X.1 X.2.1 dX7_payOfDays_6 rfl (lv_at hl 2 rfl) ?_
  refine lv_iadd X.1 X.2.1 dX7_payOfDays_7 ?_
  obtain ⟨v1, ev1, hf⟩ := bn_ok hf
  replace ev1 := Option.some.inj ev1
  refine lv_ren ev1 ?_
  refine lv_istore (lv' := [(4, .int v1), (2, .long 0), (0, .ref (B + 11)), (1, .int x1)]) X.1 X.2.1 dX7_payOfDays_8 hl (by decide) rfl (fun ls hl => ?_)
  refine lv_iconst (v := 0) X.1 X.2.1 dX7_payOfDays_10 (by decide) ?_
  refine lv_istore (lv' := [(5, .int 0), (4, .int v1), (2, .long 0), (0, .ref (B + 11)), (1, .int x1)]) X.1 X.2.1 dX7_payOfDays_11 hl (by decide) rfl (fun ls hl => ?_)
  exact w_X7_payOfDays_13 X  _ _ _ _ _ _ _ _ hf hw (lv_sub hl [3, 2, 1, 0] rfl)
set_option maxHeartbeats 4000000 in
theorem w_X7_goTo_41 {p : Program} {l : Launch} {e : Env} {s : State} {m : MethodId} {args : Array Value} {below : List Frame} {meth : Method} {c : Code} {D : va_G} {B : Nat} {cy : Nat → ClassId} {A : Nat → Prop} {ad av : Nat → Nat} {Z : HS} (X : hCX p s m args meth c RX7 cX7_goTo 3 none D cy A ad av)   (S : HS) (H : Heap) (locs : List Loc) (ls : Array Slot) (hf : fn_X7_goTo_41 S = some Z) (hw : hWd D B cy A true hC S s.heap H locs) (hl : lv_has ls 3 []) : W p l e ({ frames := 6, cells := 0, slots := 0, locals := 130 } : Room) s m args below meth c H locs 0 0 (MQ below (hQo D B cy A true hC Z none) args s 0 0 A) (F0 m 41 ls []) := by
  unfold fn_X7_goTo_41 at hf
  cases hf
  exact r_vret X hw dX7_goTo_41
set_option maxHeartbeats 4000000 in
theorem w_X7_goTo_2 {p : Program} {l : Launch} {e : Env} {s : State} {m : MethodId} {args : Array Value} {below : List Frame} {meth : Method} {c : Code} {D : va_G} {B : Nat} {cy : Nat → ClassId} {A : Nat → Prop} {ad av : Nat → Nat} {Z : HS} (X : hCX p s m args meth c RX7 cX7_goTo 3 none D cy A ad av)  : ∀ (n : Nat) (x1 : Int32) (x2 : Int32) (S : HS) (H : Heap) (locs : List Loc) (ls : Array Slot), fn_X7_goTo_2 n x1 x2 S = some Z → hWd D B cy A true hC S s.heap H locs → lv_has ls 3 [(0, .ref (B + 11)), (1, .int x1), (2, .int x2)] → W p l e ({ frames := 6, cells := 0, slots := 0, locals := 130 } : Room) s m args below meth c H locs 0 0 (MQ below (hQo D B cy A true hC Z none) args s 0 0 A) (F0 m 2 ls []) := by
  intro n
  induction n with
  | zero =>
    intro x1 x2 S H locs ls hf
    cases hf
  | succ n ih =>
    intro x1 x2 S H locs ls hf hw hl
    rw [fn_X7_goTo_2] at hf
    refine lv_iload_n X.1 X.2.1 dX7_goTo_2 rfl (lv_at hl 2 rfl) ?_
    refine lv_sipush (v := 1200) X.1 X.2.1 dX7_goTo_3 (by decide) ?_
    refine lv_icmp_ge (tgt := 41) X.1 X.2.1 dX7_goTo_6 (by decide) (fun hq => ?_) (fun hq => ?_)
    · replace hf := cd_tk hq hf
      exact w_X7_goTo_41 X  _ _ _ _ hf hw (lv_sub hl [] rfl)
    · replace hf := cd_fk hq hf
      refine lv_aload_n X.1 X.2.1 dX7_goTo_9 rfl (lv_at hl 0 rfl) ?_
      refine r_getI X hw (κ := 8) rfl inlX7 9 (by decide) rfl (by decide) tw_594 (hCk hw.2.2.2.2.2 11 (by decide) rfl) dX7_goTo_10 ?_
      refine lv_iload_n X.1 X.2.1 dX7_goTo_13 rfl (lv_at hl 1 rfl) ?_
      refine lv_icmp_ge (tgt := 41) X.1 X.2.1 dX7_goTo_14 (by decide) (fun hq => ?_) (fun hq => ?_)
      · replace hf := cd_tk hq hf
        exact w_X7_goTo_41 X  _ _ _ _ hf hw (lv_sub hl [] rfl)
      · replace hf := cd_fk hq hf
        refine lv_aload_n X.1 X.2.1 dX7_goTo_17 rfl (lv_at hl 0 rfl) ?_
        refine lv_aload_n X.1 X.2.1 dX7_goTo_18 rfl (lv_at hl 0 rfl) ?_
        refine lv_iload_n X.1 X.2.1 dX7_goTo_19 rfl (lv_at hl 1 rfl) ?_
        refine lv_aload_n X.1 X.2.1 dX7_goTo_20 rfl (lv_at hl 0 rfl) ?_
        refine r_getI X hw (κ := 8) rfl inlX7 9 (by decide) rfl (by decide) tw_594 (hCk hw.2.2.2.2.2 11 (by decide) rfl) dX7_goTo_21 ?_
        refine lv_isub X.1 X.2.1 dX7_goTo_24 ?_
        obtain ⟨r2, S1, hS1, hf⟩ := bn2_ok hf
        refine r_callV (As := [.int (x1 - (gI S 11 9))]) (rest := [.ref (B + 11)]) (st1 := [.int r2, .ref (B + 11)]) (κ := 8) X hw (c_X7_daysAlike l D B cy A ad av (x1 - (gI S 11 9)) hw.2.2.2.2.1 hw.2.2.2.2.2 hS1) ⟨rfl, rfl, Nat.le_of_ble_eq_true rfl, Nat.le_of_ble_eq_true rfl⟩ rfl (by decide) (hCk hw.2.2.2.2.2 11 (by decide) rfl) tw_720 tw_721 tw_722 tw_31 tw_723 hd_X7_daysAlike rfl hl.1 rfl (Nat.le_of_ble_eq_true rfl) dX7_goTo_25 ⟨Nat.le_of_ble_eq_true rfl, Nat.le_of_ble_eq_true rfl⟩ rfl (fun H locs hw => ?_)
        obtain ⟨S3, hS3, hf⟩ := bn_ok hf
        refine r_callV (As := [.int r2]) (rest := []) (st1 := []) (κ := 8) X hw (c_X7_passDays l D B cy A ad av r2 hw.2.2.2.2.1 hw.2.2.2.2.2 hS3) ⟨rfl, rfl, Nat.le_of_ble_eq_true rfl, Nat.le_of_ble_eq_true rfl⟩ rfl (by decide) (hCk hw.2.2.2.2.2 11 (by decide) rfl) tw_730 tw_731 tw_732 tw_31 tw_733 hd_X7_passDays rfl hl.1 rfl (Nat.le_of_ble_eq_true rfl) dX7_goTo_28 ⟨Nat.le_of_ble_eq_true rfl, Nat.le_of_ble_eq_true rfl⟩ rfl (fun H locs hw => ?_)
        refine lv_aload_n X.1 X.2.1 dX7_goTo_31 rfl (lv_at hl 0 rfl) ?_
        obtain ⟨S4, hS4, hf⟩ := bn_ok hf
        refine r_callV (As := []) (rest := []) (st1 := []) (κ := 8) X hw (c_X7_openDay l D B cy A ad av  hw.2.2.2.2.1 hw.2.2.2.2.2 hS4) ⟨rfl, rfl, Nat.le_of_ble_eq_true rfl, Nat.le_of_ble_eq_true rfl⟩ rfl (by decide) (hCk hw.2.2.2.2.2 11 (by decide) rfl) tw_610 tw_611 tw_612 tw_31 tw_613 hd_X7_openDay rfl hl.1 rfl (Nat.le_of_ble_eq_true rfl) dX7_goTo_32 ⟨Nat.le_of_ble_eq_true rfl, Nat.le_of_ble_eq_true rfl⟩ rfl (fun H locs hw => ?_)
        obtain ⟨v5, ev5, hf⟩ := bn_ok hf
        replace ev5 := Option.some.inj ev5
        refine lv_iinc (v := v5) (lv' := [(2, .int v5), (0, .ref (B + 11)), (1, .int x1)]) X.1 X.2.1 dX7_goTo_35 hl (k := 2) rfl ev5 (by decide) rfl (fun ls hl => ?_)
        refine lv_goto (tgt := 2) X.1 X.2.1 dX7_goTo_38 (by decide) ?_
        exact ih _ _ _ _ _ _ hf hw (lv_sub hl [1, 2, 0] rfl)
theorem hd_X7_goTo : yX7_goTo.cls = RX7 ∧ yX7_goTo.cls ≠ "java/lang/invoke/MethodHandle" ∧ yX7_goTo.cls ≠ "java/lang/invoke/VarHandle" ∧ (parseMethodDescriptor yX7_goTo.desc).map (fun d => d.parameters.length) = some 1 := by decide +kernel
set_option maxHeartbeats 4000000 in
theorem c_X7_goTo (l : Launch) (D : va_G) (B : Nat) (cy : Nat → ClassId) (A : Nat → Prop) (ad av : Nat → Nat) (x1 : Int32) {S Z : HS} (hfr : hFr S) (hG : hC S) (hf : fn_X7_goTo x1 S = some Z) : hMet l yX7_goTo cX7_goTo 3 none ({ frames := 6, cells := 0, slots := 0, locals := 130 } : Room) D B cy A ad av true hC [.ref (B + 11), .int x1] S Z none 0 0 := by
  refine h_entry (by decide) hfr hG ?_
  intro p e s m below meth c args X hnm hw
  have hl := lv_entry ([.ref (B + 11), .int x1]) (n := 3) (Nat.le_of_ble_eq_true rfl)
  rw [lg_entry_eq]
  generalize (lg_sl ([.ref (B + 11), .int x1]) ++ List.replicate (3 - (lg_sl ([.ref (B + 11), .int x1])).length) Slot.unset).toArray = ls at hl ⊢
  have hl : lv_has ls 3 [(0, .ref (B + 11)), (1, .int x1)] := hl
  unfold fn_X7_goTo at hf
  refine lv_iconst (v := 0) X.1 X.2.1 dX7_goTo_0 (by decide) ?_
  refine lv_istore_n (lv' := [(2, .int 0), (0, .ref (B + 11)), (1, .int x1)]) X.1 X.2.1 dX7_goTo_1 rfl hl (by decide) rfl (fun ls hl => ?_)
  exact w_X7_goTo_2 X  _ _ _ _ _ _ _ hf hw (lv_sub hl [1, 2, 0] rfl)
theorem hd_X7_begin : yX7_begin.cls = RX7 ∧ yX7_begin.cls ≠ "java/lang/invoke/MethodHandle" ∧ yX7_begin.cls ≠ "java/lang/invoke/VarHandle" ∧ (parseMethodDescriptor yX7_begin.desc).map (fun d => d.parameters.length) = some 2 := by decide +kernel
set_option maxHeartbeats 4000000 in
theorem c_X7_begin (l : Launch) (D : va_G) (B : Nat) (cy : Nat → ClassId) (A : Nat → Prop) (ad av : Nat → Nat) (x1 : Int32) (x2 : Int32) {S Z : HS} (hfr : hFr S) (hG : hC S) (hf : fn_X7_begin x1 x2 S = some Z) : hMet l yX7_begin cX7_begin 3 none ({ frames := 6, cells := 0, slots := 0, locals := 130 } : Room) D B cy A ad av true hC [.ref (B + 11), .int x1, .int x2] S Z none 0 0 := by
  refine h_entry (by decide) hfr hG ?_
  intro p e s m below meth c args X hnm hw
  have hl := lv_entry ([.ref (B + 11), .int x1, .int x2]) (n := 3) (Nat.le_of_ble_eq_true rfl)
  rw [lg_entry_eq]
  generalize (lg_sl ([.ref (B + 11), .int x1, .int x2]) ++ List.replicate (3 - (lg_sl ([.ref (B + 11), .int x1, .int x2])).length) Slot.unset).toArray = ls at hl ⊢
  have hl : lv_has ls 3 [(0, .ref (B + 11)), (1, .int x1), (2, .int x2)] := hl
  unfold fn_X7_begin at hf
  refine lv_aload_n X.1 X.2.1 dX7_begin_0 rfl (lv_at hl 0 rfl) ?_
  refine lv_iload_n X.1 X.2.1 dX7_begin_1 rfl (lv_at hl 1 rfl) ?_
  obtain ⟨S1, eS1, hf⟩ := bn_ok hf
  replace eS1 := Option.some.inj eS1
  refine r_putI X hw (κ := 8) rfl inlX7 tyX7 tyX7_ok nmX7 7 (by decide) rfl (by decide) tw_592 (Or.inl rfl) (hCk hw.2.2.2.2.2 11 (by decide) rfl) rfl rfl hw.2.2.2.2.2 dX7_begin_2 (fun H locs hw => ?_)
  rw [eS1] at hw
  refine lv_aload_n X.1 X.2.1 dX7_begin_5 rfl (lv_at hl 0 rfl) ?_
  refine lv_iload_n X.1 X.2.1 dX7_begin_6 rfl (lv_at hl 2 rfl) ?_
  obtain ⟨S2, eS2, hf⟩ := bn_ok hf
  replace eS2 := Option.some.inj eS2
  refine r_putI X hw (κ := 8) rfl inlX7 tyX7 tyX7_ok nmX7 8 (by decide) rfl (by decide) tw_593 (Or.inl rfl) (hCk hw.2.2.2.2.2 11 (by decide) rfl) rfl rfl hw.2.2.2.2.2 dX7_begin_7 (fun H locs hw => ?_)
  rw [eS2] at hw
  refine lv_aload_n X.1 X.2.1 dX7_begin_10 rfl (lv_at hl 0 rfl) ?_
  refine lv_iconst (v := 0) X.1 X.2.1 dX7_begin_11 (by decide) ?_
  obtain ⟨S3, eS3, hf⟩ := bn_ok hf
  replace eS3 := Option.some.inj eS3
  refine r_putI X hw (κ := 8) rfl inlX7 tyX7 tyX7_ok nmX7 9 (by decide) rfl (by decide) tw_594 (Or.inl rfl) (hCk hw.2.2.2.2.2 11 (by decide) rfl) rfl rfl hw.2.2.2.2.2 dX7_begin_12 (fun H locs hw => ?_)
  rw [eS3] at hw
  refine lv_aload_n X.1 X.2.1 dX7_begin_15 rfl (lv_at hl 0 rfl) ?_
  refine lv_iconst (v := 0) X.1 X.2.1 dX7_begin_16 (by decide) ?_
  obtain ⟨S4, eS4, hf⟩ := bn_ok hf
  replace eS4 := Option.some.inj eS4
  refine r_putI X hw (κ := 8) rfl inlX7 tyX7 tyX7_ok nmX7 10 (by decide) rfl (by decide) tw_595 (Or.inl rfl) (hCk hw.2.2.2.2.2 11 (by decide) rfl) rfl rfl hw.2.2.2.2.2 dX7_begin_17 (fun H locs hw => ?_)
  rw [eS4] at hw
  refine lv_aload_n X.1 X.2.1 dX7_begin_20 rfl (lv_at hl 0 rfl) ?_
  refine lv_iconst (v := 0) X.1 X.2.1 dX7_begin_21 (by decide) ?_
  obtain ⟨S5, eS5, hf⟩ := bn_ok hf
  replace eS5 := Option.some.inj eS5
  refine r_putI X hw (κ := 8) rfl inlX7 tyX7 tyX7_ok nmX7 11 (by decide) rfl (by decide) tw_596 (Or.inl rfl) (hCk hw.2.2.2.2.2 11 (by decide) rfl) rfl rfl hw.2.2.2.2.2 dX7_begin_22 (fun H locs hw => ?_)
  rw [eS5] at hw
  refine lv_aload_n X.1 X.2.1 dX7_begin_25 rfl (lv_at hl 0 rfl) ?_
  refine lv_iconst (v := 0) X.1 X.2.1 dX7_begin_26 (by decide) ?_
  obtain ⟨S6, eS6, hf⟩ := bn_ok hf
  replace eS6 := Option.some.inj eS6
  refine r_putI X hw (κ := 8) rfl inlX7 tyX7 tyX7_ok nmX7 14 (by decide) rfl (by decide) tw_597 (Or.inl rfl) (hCk hw.2.2.2.2.2 11 (by decide) rfl) rfl rfl hw.2.2.2.2.2 dX7_begin_27 (fun H locs hw => ?_)
  rw [eS6] at hw
  refine lv_aload_n X.1 X.2.1 dX7_begin_30 rfl (lv_at hl 0 rfl) ?_
  refine lv_iconst (v := 0) X.1 X.2.1 dX7_begin_31 (by decide) ?_
  obtain ⟨S7, eS7, hf⟩ := bn_ok hf
  replace eS7 := Option.some.inj eS7
  refine r_putI X hw (κ := 8) rfl inlX7 tyX7 tyX7_ok nmX7 15 (by decide) rfl (by decide) tw_598 (Or.inl rfl) (hCk hw.2.2.2.2.2 11 (by decide) rfl) rfl rfl hw.2.2.2.2.2 dX7_begin_32 (fun H locs hw => ?_)
  rw [eS7] at hw
  refine lv_aload_n X.1 X.2.1 dX7_begin_35 rfl (lv_at hl 0 rfl) ?_
  refine lv_iconst (v := 0) X.1 X.2.1 dX7_begin_36 (by decide) ?_
  obtain ⟨S8, eS8, hf⟩ := bn_ok hf
  replace eS8 := Option.some.inj eS8
  refine r_putI X hw (κ := 8) rfl inlX7 tyX7 tyX7_ok nmX7 16 (by decide) rfl (by decide) tw_599 (Or.inl rfl) (hCk hw.2.2.2.2.2 11 (by decide) rfl) rfl rfl hw.2.2.2.2.2 dX7_begin_37 (fun H locs hw => ?_)
  rw [eS8] at hw
  refine lv_aload_n X.1 X.2.1 dX7_begin_40 rfl (lv_at hl 0 rfl) ?_
  refine lv_iconst (v := 0) X.1 X.2.1 dX7_begin_41 (by decide) ?_
  obtain ⟨S9, eS9, hf⟩ := bn_ok hf
  replace eS9 := Option.some.inj eS9
  refine r_putI X hw (κ := 8) rfl inlX7 tyX7 tyX7_ok nmX7 17 (by decide) rfl (by decide) tw_600 (Or.inl rfl) (hCk hw.2.2.2.2.2 11 (by decide) rfl) rfl rfl hw.2.2.2.2.2 dX7_begin_42 (fun H locs hw => ?_)
  rw [eS9] at hw
  refine lv_aload_n X.1 X.2.1 dX7_begin_45 rfl (lv_at hl 0 rfl) ?_
  refine r_getF X hw (κ := 8) rfl inlX7 3 (by decide) rfl (by decide) tw_86 (hCk hw.2.2.2.2.2 11 (by decide) rfl) (hCr (c := 11) (k := 3) (d := 7) hw.2.2.2.2.2 (by decide)) dX7_begin_46 ?_
  obtain ⟨S10, hS10, hf⟩ := bn_ok hf
  refine r_callV (As := []) (rest := []) (st1 := []) (κ := 7) X hw (c_X6_clear l D B cy A ad av  hw.2.2.2.2.1 hw.2.2.2.2.2 hS10) ⟨rfl, rfl, Nat.le_of_ble_eq_true rfl, Nat.le_of_ble_eq_true rfl⟩ rfl (by decide) (hCk hw.2.2.2.2.2 7 (by decide) rfl) tw_602 tw_603 tw_604 tw_27 tw_605 hd_X6_clear rfl hl.1 rfl (Nat.le_of_ble_eq_true rfl) dX7_begin_49 ⟨Nat.le_of_ble_eq_true rfl, Nat.le_of_ble_eq_true rfl⟩ rfl (fun H locs hw => ?_)
  refine lv_aload_n X.1 X.2.1 dX7_begin_52 rfl (lv_at hl 0 rfl) ?_
  refine r_getF X hw (κ := 8) rfl inlX7 5 (by decide) rfl (by decide) tw_81 (hCk hw.2.2.2.2.2 11 (by decide) rfl) (hCr (c := 11) (k := 5) (d := 13) hw.2.2.2.2.2 (by decide)) dX7_begin_53 ?_
  refine lv_iconst (v := 0) X.1 X.2.1 dX7_begin_56 (by decide) ?_
  obtain ⟨S11, hS11, hf⟩ := bn_ok hf
  refine r_callS (As := [.ref (B + 13), .int 0]) (rest := []) (st1 := []) X hw (c_J7_fill_53178 l D B cy A ad av 13 0 hw.2.2.2.2.1 hw.2.2.2.2.2 hS11) ⟨rfl, rfl, Nat.le_of_ble_eq_true rfl, Nat.le_of_ble_eq_true rfl⟩ tw_609 tw_607 tw_389 tw_608 hd_J7_fill_53178 rfl hl.1 rfl (Nat.le_of_ble_eq_true rfl) dX7_begin_57 ⟨Nat.le_of_ble_eq_true rfl, Nat.le_of_ble_eq_true rfl⟩ rfl (fun H locs hw => ?_)
  refine lv_aload_n X.1 X.2.1 dX7_begin_60 rfl (lv_at hl 0 rfl) ?_
  refine r_getF X hw (κ := 8) rfl inlX7 5 (by decide) rfl (by decide) tw_81 (hCk hw.2.2.2.2.2 11 (by decide) rfl) (hCr (c := 11) (k := 5) (d := 13) hw.2.2.2.2.2 (by decide)) dX7_begin_61 ?_
  refine lv_bipush (v := 7) X.1 X.2.1 dX7_begin_64 (by decide) ?_
  refine lv_bipush (v := 11) X.1 X.2.1 dX7_begin_66 (by decide) ?_
  obtain ⟨g12, hf⟩ := gd_ok hf
  obtain ⟨S13, eS13, hf⟩ := bn_ok hf
  replace eS13 := Option.some.inj eS13
  refine r_iast X hw (hCk hw.2.2.2.2.2 13 (by decide) rfl) (hCn hw.2.2.2.2.2 13 (by decide) rfl) g12 hw.2.2.2.2.2 dX7_begin_68 (fun H locs hw => ?_)
  rw [eS13] at hw
  refine lv_aload_n X.1 X.2.1 dX7_begin_69 rfl (lv_at hl 0 rfl) ?_
  refine r_getF X hw (κ := 8) rfl inlX7 6 (by decide) rfl (by decide) tw_82 (hCk hw.2.2.2.2.2 11 (by decide) rfl) (hCr (c := 11) (k := 6) (d := 14) hw.2.2.2.2.2 (by decide)) dX7_begin_70 ?_
  refine lv_iconst (v := 0) X.1 X.2.1 dX7_begin_73 (by decide) ?_
  obtain ⟨S14, hS14, hf⟩ := bn_ok hf
  refine r_callS (As := [.ref (B + 14), .int 0]) (rest := []) (st1 := []) X hw (c_J7_fill_53178 l D B cy A ad av 14 0 hw.2.2.2.2.1 hw.2.2.2.2.2 hS14) ⟨rfl, rfl, Nat.le_of_ble_eq_true rfl, Nat.le_of_ble_eq_true rfl⟩ tw_609 tw_607 tw_389 tw_608 hd_J7_fill_53178 rfl hl.1 rfl (Nat.le_of_ble_eq_true rfl) dX7_begin_74 ⟨Nat.le_of_ble_eq_true rfl, Nat.le_of_ble_eq_true rfl⟩ rfl (fun H locs hw => ?_)
  refine lv_aload_n X.1 X.2.1 dX7_begin_77 rfl (lv_at hl 0 rfl) ?_
  refine lv_iconst (v := 1) X.1 X.2.1 dX7_begin_78 (by decide) ?_
  obtain ⟨S15, eS15, hf⟩ := bn_ok hf
  replace eS15 := Option.some.inj eS15
  refine r_putI X hw (κ := 8) rfl inlX7 tyX7 tyX7_ok nmX7 12 (by decide) rfl (by decide) tw_601 (Or.inl rfl) (hCk hw.2.2.2.2.2 11 (by decide) rfl) (zb_n (by decide)) (zb_f (by decide)) hw.2.2.2.2.2 dX7_begin_79 (fun H locs hw => ?_)
  rw [eS15] at hw
  refine lv_aload_n X.1 X.2.1 dX7_begin_82 rfl (lv_at hl 0 rfl) ?_
  obtain ⟨S16, hS16, hf⟩ := bn_ok hf
  refine r_callV (As := []) (rest := []) (st1 := []) (κ := 8) X hw (c_X7_openDay l D B cy A ad av  hw.2.2.2.2.1 hw.2.2.2.2.2 hS16) ⟨rfl, rfl, Nat.le_of_ble_eq_true rfl, Nat.le_of_ble_eq_true rfl⟩ rfl (by decide) (hCk hw.2.2.2.2.2 11 (by decide) rfl) tw_610 tw_611 tw_612 tw_31 tw_613 hd_X7_openDay rfl hl.1 rfl (Nat.le_of_ble_eq_true rfl) dX7_begin_83 ⟨Nat.le_of_ble_eq_true rfl, Nat.le_of_ble_eq_true rfl⟩ rfl (fun H locs hw => ?_)
  cases hf
  exact r_vret X hw dX7_begin_86
