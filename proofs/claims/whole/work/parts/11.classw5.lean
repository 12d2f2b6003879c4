theorem hd_X8_payment : yX8_payment.cls = RX8 ∧ yX8_payment.cls ≠ "java/lang/invoke/MethodHandle" ∧ yX8_payment.cls ≠ "java/lang/invoke/VarHandle" ∧ (parseMethodDescriptor yX8_payment.desc).map (fun d => d.parameters.length) = some 2 := by decide +kernel
set_option maxHeartbeats 4000000 in
theorem c_X8_payment (l : Launch) (D : va_G) (B : Nat) (cy : Nat → ClassId) (A : Nat → Prop) (ad av : Nat → Nat) (x1 : Int32) (x2 : Int32) {S Z : HS} {rv : Int64} (hfr : hFr S) (hG : hC S) (hf : fn_X8_payment x1 x2 S = some (rv, Z)) : hMet l yX8_payment cX8_payment 3 (some .long) ({ frames := 1, cells := 0, slots := 0, locals := 23 } : Room) D B cy A ad av true hC [.ref (B + 0), .int x1, .int x2] S Z (some (.long rv)) 0 0 := by
  refine h_entry (by decide) hfr hG ?_
  intro p e s m below meth c args X hnm hw
  have hl := lv_entry ([.ref (B + 0), .int x1, .int x2]) (n := 3) (Nat.le_of_ble_eq_true rfl)
  rw [lg_entry_eq]
  generalize (lg_sl ([.ref (B + 0), .int x1, .int x2]) ++ List.replicate (3 - (lg_sl ([.ref (B + 0), .int x1, .int x2])).length) Slot.unset).toArray = ls at hl ⊢
  have hl : lv_has ls 3 [(0, .ref (B + 0)), (1, .int x1), (2, .int x2)] := hl
  unfold fn_X8_payment at hf
  refine lv_aload_n X.1 X.2.1 dX8_payment_0 rfl (lv_at hl 0 rfl) ?_
  refine r_getF X hw (κ := 9) rfl inlX8 8 (by decide) rfl (by decide) tw_38 (hCk hw.2.2.2.2.2 0 (by decide) rfl) (hCr (c := 0) (k := 8) (d := 16) hw.2.2.2.2.2 (by decide)) dX8_payment_1 ?_
  refine lv_iload_n X.1 X.2.1 dX8_payment_4 rfl (lv_at hl 1 rfl) ?_
  refine lv_iload_n X.1 X.2.1 dX8_payment_5 rfl (lv_at hl 2 rfl) ?_
  obtain ⟨r2, S1, hS1, hf⟩ := bn2_ok hf
  refine r_callV (As := [.int x1, .int x2]) (rest := []) (st1 := [.long r2]) (κ := 6) X hw (c_X5_cell l D B cy A ad av 16 x1 x2 hw.2.2.2.2.1 hw.2.2.2.2.2 hS1) ⟨rfl, rfl, Nat.le_of_ble_eq_true rfl, Nat.le_of_ble_eq_true rfl⟩ rfl (by decide) (hCk hw.2.2.2.2.2 16 (by decide) rfl) tw_870 tw_871 tw_872 tw_37 tw_873 hd_X5_cell rfl hl.1 rfl (Nat.le_of_ble_eq_true rfl) dX8_payment_6 ⟨Nat.le_of_ble_eq_true rfl, Nat.le_of_ble_eq_true rfl⟩ rfl (fun H locs hw => ?_)
  cases hf
  exact r_lret X hw dX8_payment_9
set_option maxHeartbeats 4000000 in
theorem w_X8_paid_15 {p : Program} {l : Launch} {e : Env} {s : State} {m : MethodId} {args : Array Value} {below : List Frame} {meth : Method} {c : Code} {D : va_G} {B : Nat} {cy : Nat → ClassId} {A : Nat → Prop} {ad av : Nat → Nat} {rv : Int64} {Z : HS} (X : hCX p s m args meth c RX8 cX8_paid 3 (some .long) D cy A ad av)   (S : HS) (H : Heap) (locs : List Loc) (ls : Array Slot) (hf : fn_X8_paid_15 S = some (rv, Z)) (hw : hWd D B cy A true hC S s.heap H locs) (hl : lv_has ls 3 []) : W p l e ({ frames := 1, cells := 0, slots := 0, locals := 21 } : Room) s m args below meth c H locs 0 0 (MQ below (hQo D B cy A true hC Z (some (.long rv))) args s 0 0 A) (F0 m 15 ls []) := by
  unfold fn_X8_paid_15 at hf
  refine lv_ldc2 X.1 X.2.1 X.2.2.2.1 (X.2.2.2.2.1 _ tw_806) dX8_paid_15 ?_
  cases hf
  exact r_lret X hw dX8_paid_18
theorem hd_X8_paid : yX8_paid.cls = RX8 ∧ yX8_paid.cls ≠ "java/lang/invoke/MethodHandle" ∧ yX8_paid.cls ≠ "java/lang/invoke/VarHandle" ∧ (parseMethodDescriptor yX8_paid.desc).map (fun d => d.parameters.length) = some 2 := by decide +kernel
set_option maxHeartbeats 4000000 in
theorem c_X8_paid (l : Launch) (D : va_G) (B : Nat) (cy : Nat → ClassId) (A : Nat → Prop) (ad av : Nat → Nat) (x1 : Int32) (x2 : Int32) {S Z : HS} {rv : Int64} (hfr : hFr S) (hG : hC S) (hf : fn_X8_paid x1 x2 S = some (rv, Z)) : hMet l yX8_paid cX8_paid 3 (some .long) ({ frames := 1, cells := 0, slots := 0, locals := 21 } : Room) D B cy A ad av true hC [.ref (B + 0), .int x1, .int x2] S Z (some (.long rv)) 0 0 := by
  refine h_entry (by decide) hfr hG ?_
  intro p e s m below meth c args X hnm hw
  have hl := lv_entry ([.ref (B + 0), .int x1, .int x2]) (n := 3) (Nat.le_of_ble_eq_true rfl)
  rw [lg_entry_eq]
  generalize (lg_sl ([.ref (B + 0), .int x1, .int x2]) ++ List.replicate (3 - (lg_sl ([.ref (B + 0), .int x1, .int x2])).length) Slot.unset).toArray = ls at hl ⊢
  have hl : lv_has ls 3 [(0, .ref (B + 0)), (1, .int x1), (2, .int x2)] := hl
  unfold fn_X8_paid at hf
  refine lv_aload_n X.1 X.2.1 dX8_paid_0 rfl (lv_at hl 0 rfl) ?_
  refine lv_iload_n X.1 X.2.1 dX8_paid_1 rfl (lv_at hl 1 rfl) ?_
  obtain ⟨r2, S1, hS1, hf⟩ := bn2_ok hf
  refine r_callV (As := [.int x1]) (rest := []) (st1 := [.int r2]) (κ := 9) X hw (c_X8_isPost l D B cy A ad av x1 hw.2.2.2.2.1 hw.2.2.2.2.2 hS1) ⟨rfl, rfl, Nat.le_of_ble_eq_true rfl, Nat.le_of_ble_eq_true rfl⟩ rfl (by decide) (hCk hw.2.2.2.2.2 0 (by decide) rfl) tw_546 tw_547 tw_548 tw_2 tw_549 hd_X8_isPost rfl hl.1 rfl (Nat.le_of_ble_eq_true rfl) dX8_paid_2 ⟨Nat.le_of_ble_eq_true rfl, Nat.le_of_ble_eq_true rfl⟩ rfl (fun H locs hw => ?_)
  refine lv_if_eq (tgt := 15) X.1 X.2.1 dX8_paid_5 (by decide) (fun hq => ?_) (fun hq => ?_)
  · replace hf := cd_tk hq hf
    exact w_X8_paid_15 X  _ _ _ _ hf hw (lv_sub hl [] rfl)
  · replace hf := cd_fk hq hf
    refine lv_iload_n X.1 X.2.1 dX8_paid_8 rfl (lv_at hl 2 rfl) ?_
    obtain ⟨r4, S3, hS3, hf⟩ := bn2_ok hf
    refine r_callS (As := [.int x2]) (rest := []) (st1 := [.int r4]) X hw (c_X8_isMonth l D B cy A ad av x2 hw.2.2.2.2.1 hw.2.2.2.2.2 hS3) ⟨rfl, rfl, Nat.le_of_ble_eq_true rfl, Nat.le_of_ble_eq_true rfl⟩ tw_821 tw_822 tw_2 tw_823 hd_X8_isMonth rfl hl.1 rfl (Nat.le_of_ble_eq_true rfl) dX8_paid_9 ⟨Nat.le_of_ble_eq_true rfl, Nat.le_of_ble_eq_true rfl⟩ rfl (fun H locs hw => ?_)
    refine lv_if_ne (tgt := 19) X.1 X.2.1 dX8_paid_12 (by decide) (fun hq => ?_) (fun hq => ?_)
    · replace hf := cd_fk hq hf
      refine lv_aload_n X.1 X.2.1 dX8_paid_19 rfl (lv_at hl 0 rfl) ?_
      refine r_getF X hw (κ := 9) rfl inlX8 7 (by decide) rfl (by decide) tw_34 (hCk hw.2.2.2.2.2 0 (by decide) rfl) (hCr (c := 0) (k := 7) (d := 15) hw.2.2.2.2.2 (by decide)) dX8_paid_20 ?_
      refine lv_iload_n X.1 X.2.1 dX8_paid_23 rfl (lv_at hl 1 rfl) ?_
      refine lv_bipush (v := 40) X.1 X.2.1 dX8_paid_24 (by decide) ?_
      refine lv_imul X.1 X.2.1 dX8_paid_26 ?_
      refine lv_iload_n X.1 X.2.1 dX8_paid_27 rfl (lv_at hl 2 rfl) ?_
      refine lv_iadd X.1 X.2.1 dX8_paid_28 ?_
      obtain ⟨g5, hf⟩ := gd_ok hf
      refine r_lald X hw (hCk hw.2.2.2.2.2 15 (by decide) rfl) (hCn hw.2.2.2.2.2 15 (by decide) rfl) g5 dX8_paid_29 ?_
      cases hf
      exact r_lret X hw dX8_paid_30
    · replace hf := cd_tk hq hf
      exact w_X8_paid_15 X  _ _ _ _ hf hw (lv_sub hl [] rfl)
set_option maxHeartbeats 4000000 in
theorem w_X8_cost_37 {p : Program} {l : Launch} {e : Env} {s : State} {m : MethodId} {args : Array Value} {below : List Frame} {meth : Method} {c : Code} {D : va_G} {B : Nat} {cy : Nat → ClassId} {A : Nat → Prop} {ad av : Nat → Nat} {rv : Int64} {Z : HS} (X : hCX p s m args meth c RX8 cX8_cost 7 (some .long) D cy A ad av)  : ∀ (n : Nat) (x1 : Int32) (x2 : Int32) (x3 : Int32) (x4 : Int64) (x6 : Int32) (S : HS) (H : Heap) (locs : List Loc) (ls : Array Slot), fn_X8_cost_37 n x1 x2 x3 x4 x6 S = some (rv, Z) → hWd D B cy A true hC S s.heap H locs → lv_has ls 7 [(0, .ref (B + 0)), (1, .int x1), (2, .int x2), (3, .int x3), (4, .long x4), (6, .int x6)] → W p l e ({ frames := 8, cells := 0, slots := 0, locals := 180 } : Room) s m args below meth c H locs 0 0 (MQ below (hQo D B cy A true hC Z (some (.long rv))) args s 0 0 A) (F0 m 37 ls []) := by
  intro n
  induction n with
  | zero =>
    intro x1 x2 x3 x4 x6 S H locs ls hf
    cases hf
  | succ n ih =>
    intro x1 x2 x3 x4 x6 S H locs ls hf hw hl
    rw [fn_X8_cost_37] at hf
    refine lv_iload X.1 X.2.1 dX8_cost_37 (lv_at hl 5 rfl) ?_
    refine lv_aload_n X.1 X.2.1 dX8_cost_39 rfl (lv_at hl 0 rfl) ?_
    refine r_getI X hw (κ := 9) rfl inlX8 16 (by decide) rfl (by decide) tw_533 (hCk hw.2.2.2.2.2 0 (by decide) rfl) dX8_cost_40 ?_
    refine lv_icmp_ge (tgt := 66) X.1 X.2.1 dX8_cost_43 (by decide) (fun hq => ?_) (fun hq => ?_)
    · replace hf := cd_tk hq hf
      refine lv_lload X.1 X.2.1 dX8_cost_66 (lv_at hl 4 rfl) ?_
      cases hf
      exact r_lret X hw dX8_cost_68
    · replace hf := cd_fk hq hf
      refine lv_lload X.1 X.2.1 dX8_cost_46 (lv_at hl 4 rfl) ?_
      refine lv_aload_n X.1 X.2.1 dX8_cost_48 rfl (lv_at hl 0 rfl) ?_
      refine lv_iload X.1 X.2.1 dX8_cost_49 (lv_at hl 5 rfl) ?_
      refine lv_iload_n X.1 X.2.1 dX8_cost_51 rfl (lv_at hl 1 rfl) ?_
      refine lv_iload_n X.1 X.2.1 dX8_cost_52 rfl (lv_at hl 2 rfl) ?_
      refine lv_iload_n X.1 X.2.1 dX8_cost_53 rfl (lv_at hl 3 rfl) ?_
      obtain ⟨r2, S1, hS1, hf⟩ := bn2_ok hf
      refine r_callV (As := [.int x6, .int x1, .int x2, .int x3]) (rest := [.long x4]) (st1 := [.long r2, .long x4]) (κ := 9) X hw (c_X8_dueOfMonths l D B cy A ad av x6 x1 x2 x3 hw.2.2.2.2.1 hw.2.2.2.2.2 hS1) ⟨rfl, rfl, Nat.le_of_ble_eq_true rfl, Nat.le_of_ble_eq_true rfl⟩ rfl (by decide) (hCk hw.2.2.2.2.2 0 (by decide) rfl) tw_824 tw_825 tw_826 tw_2 tw_827 hd_X8_dueOfMonths rfl hl.1 rfl (Nat.le_of_ble_eq_true rfl) dX8_cost_54 ⟨Nat.le_of_ble_eq_true rfl, Nat.le_of_ble_eq_true rfl⟩ rfl (fun H locs hw => ?_)
      refine lv_ladd X.1 X.2.1 dX8_cost_57 ?_
      obtain ⟨v3, ev3, hf⟩ := bn_ok hf
      replace ev3 := Option.some.inj ev3
      refine lv_renl ev3 ?_
      refine lv_lstore (lv' := [(4, .long v3), (0, .ref (B + 0)), (1, .int x1), (2, .int x2), (3, .int x3), (6, .int x6)]) X.1 X.2.1 dX8_cost_58 hl (by decide) rfl (fun ls hl => ?_)
      obtain ⟨v4, ev4, hf⟩ := bn_ok hf
      replace ev4 := Option.some.inj ev4
      refine lv_iinc (v := v4) (lv' := [(6, .int v4), (4, .long v3), (0, .ref (B + 0)), (1, .int x1), (2, .int x2), (3, .int x3)]) X.1 X.2.1 dX8_cost_60 hl (k := 5) rfl ev4 (by decide) rfl (fun ls hl => ?_)
      refine lv_goto (tgt := 37) X.1 X.2.1 dX8_cost_63 (by decide) ?_
      exact ih _ _ _ _ _ _ _ _ _ hf hw (lv_sub hl [2, 3, 4, 5, 1, 0] rfl)
set_option maxHeartbeats 4000000 in
theorem w_X8_cost_27 {p : Program} {l : Launch} {e : Env} {s : State} {m : MethodId} {args : Array Value} {below : List Frame} {meth : Method} {c : Code} {D : va_G} {B : Nat} {cy : Nat → ClassId} {A : Nat → Prop} {ad av : Nat → Nat} {rv : Int64} {Z : HS} (X : hCX p s m args meth c RX8 cX8_cost 7 (some .long) D cy A ad av)   (S : HS) (H : Heap) (locs : List Loc) (ls : Array Slot) (hf : fn_X8_cost_27 S = some (rv, Z)) (hw : hWd D B cy A true hC S s.heap H locs) (hl : lv_has ls 7 []) : W p l e ({ frames := 8, cells := 0, slots := 0, locals := 180 } : Room) s m args below meth c H locs 0 0 (MQ below (hQo D B cy A true hC Z (some (.long rv))) args s 0 0 A) (F0 m 27 ls []) := by
  unfold fn_X8_cost_27 at hf
  refine lv_ldc2 X.1 X.2.1 X.2.2.2.1 (X.2.2.2.2.1 _ tw_806) dX8_cost_27 ?_
  cases hf
  exact r_lret X hw dX8_cost_30
theorem hd_X8_cost : yX8_cost.cls = RX8 ∧ yX8_cost.cls ≠ "java/lang/invoke/MethodHandle" ∧ yX8_cost.cls ≠ "java/lang/invoke/VarHandle" ∧ (parseMethodDescriptor yX8_cost.desc).map (fun d => d.parameters.length) = some 3 := by decide +kernel
set_option maxHeartbeats 4000000 in
theorem c_X8_cost (l : Launch) (D : va_G) (B : Nat) (cy : Nat → ClassId) (A : Nat → Prop) (ad av : Nat → Nat) (x1 : Int32) (x2 : Int32) (x3 : Int32) {S Z : HS} {rv : Int64} (hfr : hFr S) (hG : hC S) (hf : fn_X8_cost x1 x2 x3 S = some (rv, Z)) : hMet l yX8_cost cX8_cost 7 (some .long) ({ frames := 8, cells := 0, slots := 0, locals := 180 } : Room) D B cy A ad av true hC [.ref (B + 0), .int x1, .int x2, .int x3] S Z (some (.long rv)) 0 0 := by
  refine h_entry (by decide) hfr hG ?_
  intro p e s m below meth c args X hnm hw
  have hl := lv_entry ([.ref (B + 0), .int x1, .int x2, .int x3]) (n := 7) (Nat.le_of_ble_eq_true rfl)
  rw [lg_entry_eq]
  generalize (lg_sl ([.ref (B + 0), .int x1, .int x2, .int x3]) ++ List.replicate (7 - (lg_sl ([.ref (B + 0), .int x1, .int x2, .int x3])).length) Slot.unset).toArray = ls at hl ⊢
  have hl : lv_has ls 7 [(0, .ref (B + 0)), (1, .int x1), (2, .int x2), (3, .int x3)] := hl
  unfold fn_X8_cost at hf
  refine lv_iload_n X.1 X.2.1 dX8_cost_0 rfl (lv_at hl 1 rfl) ?_
  obtain ⟨r2, S1, hS1, hf⟩ := bn2_ok hf
  refine r_callS (As := [.int x1]) (rest := []) (st1 := [.int r2]) X hw (c_X8_isMonth l D B cy A ad av x1 hw.2.2.2.2.1 hw.2.2.2.2.2 hS1) ⟨rfl, rfl, Nat.le_of_ble_eq_true rfl, Nat.le_of_ble_eq_true rfl⟩ tw_821 tw_822 tw_2 tw_823 hd_X8_isMonth rfl hl.1 rfl (Nat.le_of_ble_eq_true rfl) dX8_cost_1 ⟨Nat.le_of_ble_eq_true rfl, Nat.le_of_ble_eq_true rfl⟩ rfl (fun H locs hw => ?_)
  refine lv_if_eq (tgt := 27) X.1 X.2.1 dX8_cost_4 (by decide) (fun hq => ?_) (fun hq => ?_)
  · replace hf := cd_tk hq hf
    exact w_X8_cost_27 X  _ _ _ _ hf hw (lv_sub hl [] rfl)
  · replace hf := cd_fk hq hf
    refine lv_iload_n X.1 X.2.1 dX8_cost_7 rfl (lv_at hl 2 rfl) ?_
    obtain ⟨r4, S3, hS3, hf⟩ := bn2_ok hf
    refine r_callS (As := [.int x2]) (rest := []) (st1 := [.int r4]) X hw (c_X8_isMonth l D B cy A ad av x2 hw.2.2.2.2.1 hw.2.2.2.2.2 hS3) ⟨rfl, rfl, Nat.le_of_ble_eq_true rfl, Nat.le_of_ble_eq_true rfl⟩ tw_821 tw_822 tw_2 tw_823 hd_X8_isMonth rfl hl.1 rfl (Nat.le_of_ble_eq_true rfl) dX8_cost_8 ⟨Nat.le_of_ble_eq_true rfl, Nat.le_of_ble_eq_true rfl⟩ rfl (fun H locs hw => ?_)
    refine lv_if_eq (tgt := 27) X.1 X.2.1 dX8_cost_11 (by decide) (fun hq => ?_) (fun hq => ?_)
    · replace hf := cd_tk hq hf
      exact w_X8_cost_27 X  _ _ _ _ hf hw (lv_sub hl [] rfl)
    · replace hf := cd_fk hq hf
      refine lv_iload_n X.1 X.2.1 dX8_cost_14 rfl (lv_at hl 2 rfl) ?_
      refine lv_iload_n X.1 X.2.1 dX8_cost_15 rfl (lv_at hl 1 rfl) ?_
      refine lv_icmp_lt (tgt := 27) X.1 X.2.1 dX8_cost_16 (by decide) (fun hq => ?_) (fun hq => ?_)
      · replace hf := cd_tk hq hf
        exact w_X8_cost_27 X  _ _ _ _ hf hw (lv_sub hl [] rfl)
      · replace hf := cd_fk hq hf
        refine lv_aload_n X.1 X.2.1 dX8_cost_19 rfl (lv_at hl 0 rfl) ?_
        refine lv_iload_n X.1 X.2.1 dX8_cost_20 rfl (lv_at hl 3 rfl) ?_
        obtain ⟨r6, S5, hS5, hf⟩ := bn2_ok hf
        refine r_callV (As := [.int x3]) (rest := []) (st1 := [.int r6]) (κ := 9) X hw (c_X8_isKnown l D B cy A ad av x3 hw.2.2.2.2.1 hw.2.2.2.2.2 hS5) ⟨rfl, rfl, Nat.le_of_ble_eq_true rfl, Nat.le_of_ble_eq_true rfl⟩ rfl (by decide) (hCk hw.2.2.2.2.2 0 (by decide) rfl) tw_584 tw_585 tw_586 tw_2 tw_587 hd_X8_isKnown rfl hl.1 rfl (Nat.le_of_ble_eq_true rfl) dX8_cost_21 ⟨Nat.le_of_ble_eq_true rfl, Nat.le_of_ble_eq_true rfl⟩ rfl (fun H locs hw => ?_)
        refine lv_if_ne (tgt := 31) X.1 X.2.1 dX8_cost_24 (by decide) (fun hq => ?_) (fun hq => ?_)
        · replace hf := cd_fk hq hf
          refine lv_lconst (v := 0) X.1 X.2.1 dX8_cost_31 (by decide) ?_
          refine lv_lstore (lv' := [(4, .long 0), (0, .ref (B + 0)), (1, .int x1), (2, .int x2), (3, .int x3)]) X.1 X.2.1 dX8_cost_32 hl (by decide) rfl (fun ls hl => ?_)
          refine lv_iconst (v := 0) X.1 X.2.1 dX8_cost_34 (by decide) ?_
          refine lv_istore (lv' := [(6, .int 0), (4, .long 0), (0, .ref (B + 0)), (1, .int x1), (2, .int x2), (3, .int x3)]) X.1 X.2.1 dX8_cost_35 hl (by decide) rfl (fun ls hl => ?_)
          exact w_X8_cost_37 X  _ _ _ _ _ _ _ _ _ _ hf hw (lv_sub hl [2, 3, 4, 5, 1, 0] rfl)
        · replace hf := cd_tk hq hf
          exact w_X8_cost_27 X  _ _ _ _ hf hw (lv_sub hl [] rfl)
set_option maxHeartbeats 4000000 in
theorem w_X8_areLike_72 {p : Program} {l : Launch} {e : Env} {s : State} {m : MethodId} {args : Array Value} {below : List Frame} {meth : Method} {c : Code} {D : va_G} {B : Nat} {cy : Nat → ClassId} {A : Nat → Prop} {ad av : Nat → Nat} {rv : Int32} {Z : HS} (X : hCX p s m args meth c RX8 cX8_areLike 7 (some .boolean) D cy A ad av)  (y0 : Int32) (S : HS) (H : Heap) (locs : List Loc) (ls : Array Slot) (hf : fn_X8_areLike_72 y0 S = some (rv, Z)) (hw : hWd D B cy A true hC S s.heap H locs) (hl : lv_has ls 7 []) : W p l e ({ frames := 1, cells := 0, slots := 0, locals := 21 } : Room) s m args below meth c H locs 0 0 (MQ below (hQo D B cy A true hC Z (some (.int rv))) args s 0 0 A) (F0 m 72 ls [.int y0]) := by
  unfold fn_X8_areLike_72 at hf
  obtain ⟨g1, hf⟩ := gd_ok hf
  cases hf
  exact r_zret X hw g1 dX8_areLike_72
set_option maxHeartbeats 4000000 in
theorem w_X8_areLike_71 {p : Program} {l : Launch} {e : Env} {s : State} {m : MethodId} {args : Array Value} {below : List Frame} {meth : Method} {c : Code} {D : va_G} {B : Nat} {cy : Nat → ClassId} {A : Nat → Prop} {ad av : Nat → Nat} {rv : Int32} {Z : HS} (X : hCX p s m args meth c RX8 cX8_areLike 7 (some .boolean) D cy A ad av)   (S : HS) (H : Heap) (locs : List Loc) (ls : Array Slot) (hf : fn_X8_areLike_71 S = some (rv, Z)) (hw : hWd D B cy A true hC S s.heap H locs) (hl : lv_has ls 7 []) : W p l e ({ frames := 1, cells := 0, slots := 0, locals := 21 } : Room) s m args below meth c H locs 0 0 (MQ below (hQo D B cy A true hC Z (some (.int rv))) args s 0 0 A) (F0 m 71 ls []) := by
  unfold fn_X8_areLike_71 at hf
  refine lv_iconst (v := 0) X.1 X.2.1 dX8_areLike_71 (by decide) ?_
  exact w_X8_areLike_72 X  _ _ _ _ _ hf hw (lv_sub hl [] rfl)
set_option maxHeartbeats 4000000 in
theorem w_X8_areLike_33 {p : Program} {l : Launch} {e : Env} {s : State} {m : MethodId} {args : Array Value} {below : List Frame} {meth : Method} {c : Code} {D : va_G} {B : Nat} {cy : Nat → ClassId} {A : Nat → Prop} {ad av : Nat → Nat} {rv : Int32} {Z : HS} (X : hCX p s m args meth c RX8 cX8_areLike 7 (some .boolean) D cy A ad av)  (x1 : Int32) (x2 : Int32) (x3 : Int32) (x4 : Int32) (x5 : Int32) (y0 : Int32) (S : HS) (H : Heap) (locs : List Loc) (ls : Array Slot) (hf : fn_X8_areLike_33 x1 x2 x3 x4 x5 y0 S = some (rv, Z)) (hw : hWd D B cy A true hC S s.heap H locs) (hl : lv_has ls 7 [(0, .ref (B + 0)), (1, .int x1), (2, .int x2), (3, .int x3), (4, .int x4), (5, .int x5)]) : W p l e ({ frames := 1, cells := 0, slots := 0, locals := 21 } : Room) s m args below meth c H locs 0 0 (MQ below (hQo D B cy A true hC Z (some (.int rv))) args s 0 0 A) (F0 m 33 ls [.int y0]) := by
  unfold fn_X8_areLike_33 at hf
  refine lv_istore (lv' := [(6, .int y0), (0, .ref (B + 0)), (1, .int x1), (2, .int x2), (3, .int x3), (4, .int x4), (5, .int x5)]) X.1 X.2.1 dX8_areLike_33 hl (by decide) rfl (fun ls hl => ?_)
  refine lv_iload X.1 X.2.1 dX8_areLike_35 (lv_at hl 0 rfl) ?_
  refine lv_if_eq (tgt := 71) X.1 X.2.1 dX8_areLike_37 (by decide) (fun hq => ?_) (fun hq => ?_)
  · replace hf := cd_tk hq hf
    exact w_X8_areLike_71 X  _ _ _ _ hf hw (lv_sub hl [] rfl)
  · replace hf := cd_fk hq hf
    refine lv_iload X.1 X.2.1 dX8_areLike_40 (lv_at hl 5 rfl) ?_
    refine lv_iload X.1 X.2.1 dX8_areLike_42 (lv_at hl 6 rfl) ?_
    refine lv_isub X.1 X.2.1 dX8_areLike_44 ?_
    refine r_mabs X hl.1 tw_908 (by decide) (Nat.le_of_ble_eq_true rfl) (by decide) (by decide) dX8_areLike_45 ?_
    refine lv_iload_n X.1 X.2.1 dX8_areLike_48 rfl (lv_at hl 4 rfl) ?_
    refine lv_icmp_gt (tgt := 71) X.1 X.2.1 dX8_areLike_49 (by decide) (fun hq => ?_) (fun hq => ?_)
    · replace hf := cd_tk hq hf
      exact w_X8_areLike_71 X  _ _ _ _ hf hw (lv_sub hl [] rfl)
    · replace hf := cd_fk hq hf
      refine lv_aload_n X.1 X.2.1 dX8_areLike_52 rfl (lv_at hl 1 rfl) ?_
      refine r_getF X hw (κ := 9) rfl inlX8 12 (by decide) rfl (by decide) tw_42 (hCk hw.2.2.2.2.2 0 (by decide) rfl) (hCr (c := 0) (k := 12) (d := 23) hw.2.2.2.2.2 (by decide)) dX8_areLike_53 ?_
      refine lv_iload_n X.1 X.2.1 dX8_areLike_56 rfl (lv_at hl 2 rfl) ?_
      obtain ⟨g1, hf⟩ := gd_ok hf
      refine r_iald X hw (hCk hw.2.2.2.2.2 23 (by decide) rfl) (hCn hw.2.2.2.2.2 23 (by decide) rfl) g1 dX8_areLike_57 ?_
      refine lv_aload_n X.1 X.2.1 dX8_areLike_58 rfl (lv_at hl 1 rfl) ?_
      refine r_getF X hw (κ := 9) rfl inlX8 12 (by decide) rfl (by decide) tw_42 (hCk hw.2.2.2.2.2 0 (by decide) rfl) (hCr (c := 0) (k := 12) (d := 23) hw.2.2.2.2.2 (by decide)) dX8_areLike_59 ?_
      refine lv_iload_n X.1 X.2.1 dX8_areLike_62 rfl (lv_at hl 3 rfl) ?_
      obtain ⟨g2, hf⟩ := gd_ok hf
      refine r_iald X hw (hCk hw.2.2.2.2.2 23 (by decide) rfl) (hCn hw.2.2.2.2.2 23 (by decide) rfl) g2 dX8_areLike_63 ?_
      refine lv_icmp_eq (tgt := 71) X.1 X.2.1 dX8_areLike_64 (by decide) (fun hq => ?_) (fun hq => ?_)
      · replace hf := cd_tk hq hf
        exact w_X8_areLike_71 X  _ _ _ _ hf hw (lv_sub hl [] rfl)
      · replace hf := cd_fk hq hf
        refine lv_iconst (v := 1) X.1 X.2.1 dX8_areLike_67 (by decide) ?_
        refine lv_goto (tgt := 72) X.1 X.2.1 dX8_areLike_68 (by decide) ?_
        exact w_X8_areLike_72 X  _ _ _ _ _ hf hw (lv_sub hl [] rfl)
set_option maxHeartbeats 4000000 in
theorem w_X8_areLike_32 {p : Program} {l : Launch} {e : Env} {s : State} {m : MethodId} {args : Array Value} {below : List Frame} {meth : Method} {c : Code} {D : va_G} {B : Nat} {cy : Nat → ClassId} {A : Nat → Prop} {ad av : Nat → Nat} {rv : Int32} {Z : HS} (X : hCX p s m args meth c RX8 cX8_areLike 7 (some .boolean) D cy A ad av)  (x1 : Int32) (x2 : Int32) (x3 : Int32) (x4 : Int32) (x5 : Int32) (S : HS) (H : Heap) (locs : List Loc) (ls : Array Slot) (hf : fn_X8_areLike_32 x1 x2 x3 x4 x5 S = some (rv, Z)) (hw : hWd D B cy A true hC S s.heap H locs) (hl : lv_has ls 7 [(0, .ref (B + 0)), (1, .int x1), (2, .int x2), (3, .int x3), (4, .int x4), (5, .int x5)]) : W p l e ({ frames := 1, cells := 0, slots := 0, locals := 21 } : Room) s m args below meth c H locs 0 0 (MQ below (hQo D B cy A true hC Z (some (.int rv))) args s 0 0 A) (F0 m 32 ls []) := by
  unfold fn_X8_areLike_32 at hf
  refine lv_iconst (v := 0) X.1 X.2.1 dX8_areLike_32 (by decide) ?_
  exact w_X8_areLike_33 X  _ _ _ _ _ _ _ _ _ _ hf hw (lv_sub hl [0, 1, 2, 3, 4, 5] rfl)
theorem hd_X8_areLike : yX8_areLike.cls = RX8 ∧ yX8_areLike.cls ≠ "java/lang/invoke/MethodHandle" ∧ yX8_areLike.cls ≠ "java/lang/invoke/VarHandle" ∧ (parseMethodDescriptor yX8_areLike.desc).map (fun d => d.parameters.length) = some 3 := by decide +kernel
set_option maxHeartbeats 4000000 in
theorem c_X8_areLike (l : Launch) (D : va_G) (B : Nat) (cy : Nat → ClassId) (A : Nat → Prop) (ad av : Nat → Nat) (x1 : Int32) (x2 : Int32) (x3 : Int32) {S Z : HS} {rv : Int32} (hfr : hFr S) (hG : hC S) (hf : fn_X8_areLike x1 x2 x3 S = some (rv, Z)) : hMet l yX8_areLike cX8_areLike 7 (some .boolean) ({ frames := 1, cells := 0, slots := 0, locals := 21 } : Room) D B cy A ad av true hC [.ref (B + 0), .int x1, .int x2, .int x3] S Z (some (.int rv)) 0 0 := by
  refine h_entry (by decide) hfr hG ?_
  intro p e s m below meth c args X hnm hw
  have hl := lv_entry ([.ref (B + 0), .int x1, .int x2, .int x3]) (n := 7) (Nat.le_of_ble_eq_true rfl)
  rw [lg_entry_eq]
  generalize (lg_sl ([.ref (B + 0), .int x1, .int x2, .int x3]) ++ List.replicate (7 - (lg_sl ([.ref (B + 0), .int x1, .int x2, .int x3])).length) Slot.unset).toArray = ls at hl ⊢
  have hl : lv_has ls 7 [(0, .ref (B + 0)), (1, .int x1), (2, .int x2), (3, .int x3)] := hl
  unfold fn_X8_areLike at hf
  refine lv_aload_n X.1 X.2.1 dX8_areLike_0 rfl (lv_at hl 0 rfl) ?_
  refine r_getF X hw (κ := 9) rfl inlX8 11 (by decide) rfl (by decide) tw_41 (hCk hw.2.2.2.2.2 0 (by decide) rfl) (hCr (c := 0) (k := 11) (d := 22) hw.2.2.2.2.2 (by decide)) dX8_areLike_1 ?_
  refine lv_iload_n X.1 X.2.1 dX8_areLike_4 rfl (lv_at hl 1 rfl) ?_
  obtain ⟨g1, hf⟩ := gd_ok hf
  refine r_iald X hw (hCk hw.2.2.2.2.2 22 (by decide) rfl) (hCn hw.2.2.2.2.2 22 (by decide) rfl) g1 dX8_areLike_5 ?_
  obtain ⟨v2, ev2, hf⟩ := bn_ok hf
  replace ev2 := Option.some.inj ev2
  refine lv_ren ev2 ?_
  refine lv_istore (lv' := [(4, .int v2), (0, .ref (B + 0)), (1, .int x1), (2, .int x2), (3, .int x3)]) X.1 X.2.1 dX8_areLike_6 hl (by decide) rfl (fun ls hl => ?_)
  refine lv_aload_n X.1 X.2.1 dX8_areLike_8 rfl (lv_at hl 1 rfl) ?_
  refine r_getF X hw (κ := 9) rfl inlX8 11 (by decide) rfl (by decide) tw_41 (hCk hw.2.2.2.2.2 0 (by decide) rfl) (hCr (c := 0) (k := 11) (d := 22) hw.2.2.2.2.2 (by decide)) dX8_areLike_9 ?_
  refine lv_iload_n X.1 X.2.1 dX8_areLike_12 rfl (lv_at hl 3 rfl) ?_
  obtain ⟨g3, hf⟩ := gd_ok hf
  refine r_iald X hw (hCk hw.2.2.2.2.2 22 (by decide) rfl) (hCn hw.2.2.2.2.2 22 (by decide) rfl) g3 dX8_areLike_13 ?_
  obtain ⟨v4, ev4, hf⟩ := bn_ok hf
  replace ev4 := Option.some.inj ev4
  refine lv_ren ev4 ?_
  refine lv_istore (lv' := [(5, .int v4), (4, .int v2), (0, .ref (B + 0)), (1, .int x1), (2, .int x2), (3, .int x3)]) X.1 X.2.1 dX8_areLike_14 hl (by decide) rfl (fun ls hl => ?_)
  refine lv_iload X.1 X.2.1 dX8_areLike_16 (lv_at hl 1 rfl) ?_
  refine lv_iconst (v := (-1)) X.1 X.2.1 dX8_areLike_18 (by decide) ?_
  refine lv_icmp_eq (tgt := 32) X.1 X.2.1 dX8_areLike_19 (by decide) (fun hq => ?_) (fun hq => ?_)
  · replace hf := cd_tk hq hf
    exact w_X8_areLike_32 X  _ _ _ _ _ _ _ _ _ hf hw (lv_sub hl [2, 3, 4, 5, 1, 0] rfl)
  · replace hf := cd_fk hq hf
    refine lv_iload X.1 X.2.1 dX8_areLike_22 (lv_at hl 0 rfl) ?_
    refine lv_iconst (v := (-1)) X.1 X.2.1 dX8_areLike_24 (by decide) ?_
    refine lv_icmp_eq (tgt := 32) X.1 X.2.1 dX8_areLike_25 (by decide) (fun hq => ?_) (fun hq => ?_)
    · replace hf := cd_tk hq hf
      exact w_X8_areLike_32 X  _ _ _ _ _ _ _ _ _ hf hw (lv_sub hl [2, 3, 4, 5, 1, 0] rfl)
    · replace hf := cd_fk hq hf
      refine lv_iconst (v := 1) X.1 X.2.1 dX8_areLike_28 (by decide) ?_
      refine lv_goto (tgt := 33) X.1 X.2.1 dX8_areLike_29 (by decide) ?_
      exact w_X8_areLike_33 X  _ _ _ _ _ _ _ _ _ _ hf hw (lv_sub hl [2, 3, 4, 5, 1, 0] rfl)
set_option maxHeartbeats 4000000 in
theorem w_X8_commonDivisor_34 {p : Program} {l : Launch} {e : Env} {s : State} {m : MethodId} {args : Array Value} {below : List Frame} {meth : Method} {c : Code} {D : va_G} {B : Nat} {cy : Nat → ClassId} {A : Nat → Prop} {ad av : Nat → Nat} {rv : Int32} {Z : HS} (X : hCX p s m args meth c RX8 cX8_commonDivisor 6 (some .int) D cy A ad av)  (x2 : Int32) (S : HS) (H : Heap) (locs : List Loc) (ls : Array Slot) (hf : fn_X8_commonDivisor_34 x2 S = some (rv, Z)) (hw : hWd D B cy A true hC S s.heap H locs) (hl : lv_has ls 6 [(2, .int x2)]) : W p l e ({ frames := 0, cells := 0, slots := 0, locals := 0 } : Room) s m args below meth c H locs 0 0 (MQ below (hQo D B cy A true hC Z (some (.int rv))) args s 0 0 A) (F0 m 34 ls []) := by
  unfold fn_X8_commonDivisor_34 at hf
  refine lv_iload_n X.1 X.2.1 dX8_commonDivisor_34 rfl (lv_at hl 0 rfl) ?_
  cases hf
  exact r_iret X hw dX8_commonDivisor_35
set_option maxHeartbeats 4000000 in
theorem w_X8_commonDivisor_7 {p : Program} {l : Launch} {e : Env} {s : State} {m : MethodId} {args : Array Value} {below : List Frame} {meth : Method} {c : Code} {D : va_G} {B : Nat} {cy : Nat → ClassId} {A : Nat → Prop} {ad av : Nat → Nat} {rv : Int32} {Z : HS} (X : hCX p s m args meth c RX8 cX8_commonDivisor 6 (some .int) D cy A ad av)  : ∀ (n : Nat) (x2 : Int32) (x3 : Int32) (x4 : Int32) (S : HS) (H : Heap) (locs : List Loc) (ls : Array Slot), fn_X8_commonDivisor_7 n x2 x3 x4 S = some (rv, Z) → hWd D B cy A true hC S s.heap H locs → lv_has ls 6 [(2, .int x2), (3, .int x3), (4, .int x4)] → W p l e ({ frames := 0, cells := 0, slots := 0, locals := 0 } : Room) s m args below meth c H locs 0 0 (MQ below (hQo D B cy A true hC Z (some (.int rv))) args s 0 0 A) (F0 m 7 ls []) := by
  intro n
  induction n with
  | zero =>
    intro x2 x3 x4 S H locs ls hf
    cases hf
  | succ n ih =>
    intro x2 x3 x4 S H locs ls hf hw hl
    rw [fn_X8_commonDivisor_7] at hf
    refine lv_iload X.1 X.2.1 dX8_commonDivisor_7 (lv_at hl 2 rfl) ?_
    refine lv_bipush (v := 64) X.1 X.2.1 dX8_commonDivisor_9 (by decide) ?_
    refine lv_icmp_ge (tgt := 34) X.1 X.2.1 dX8_commonDivisor_11 (by decide) (fun hq => ?_) (fun hq => ?_)
    · replace hf := cd_tk hq hf
      exact w_X8_commonDivisor_34 X  _ _ _ _ _ hf hw (lv_sub hl [0] rfl)
    · replace hf := cd_fk hq hf
      refine lv_iload_n X.1 X.2.1 dX8_commonDivisor_14 rfl (lv_at hl 1 rfl) ?_
      refine lv_if_eq (tgt := 34) X.1 X.2.1 dX8_commonDivisor_15 (by decide) (fun hq => ?_) (fun hq => ?_)
      · replace hf := cd_tk hq hf
        exact w_X8_commonDivisor_34 X  _ _ _ _ _ hf hw (lv_sub hl [0] rfl)
      · replace hf := cd_fk hq hf
        refine lv_iload_n X.1 X.2.1 dX8_commonDivisor_18 rfl (lv_at hl 0 rfl) ?_
        refine lv_iload_n X.1 X.2.1 dX8_commonDivisor_19 rfl (lv_at hl 1 rfl) ?_
        obtain ⟨hq, hf⟩ := gd_ok hf
        refine lv_irem X.1 X.2.1 dX8_commonDivisor_20 hq ?_
        obtain ⟨v1, ev1, hf⟩ := bn_ok hf
        replace ev1 := Option.some.inj ev1
        refine lv_ren ev1 ?_
        refine lv_istore (lv' := [(5, .int v1), (2, .int x2), (3, .int x3), (4, .int x4)]) X.1 X.2.1 dX8_commonDivisor_21 hl (by decide) rfl (fun ls hl => ?_)
        refine lv_iload_n X.1 X.2.1 dX8_commonDivisor_23 rfl (lv_at hl 2 rfl) ?_
        refine lv_istore_n (lv' := [(2, .int x3), (5, .int v1), (3, .int x3), (4, .int x4)]) X.1 X.2.1 dX8_commonDivisor_24 rfl hl (by decide) rfl (fun ls hl => ?_)
        refine lv_iload X.1 X.2.1 dX8_commonDivisor_25 (lv_at hl 1 rfl) ?_
        refine lv_istore_n (lv' := [(3, .int v1), (2, .int x3), (5, .int v1), (4, .int x4)]) X.1 X.2.1 dX8_commonDivisor_27 rfl hl (by decide) rfl (fun ls hl => ?_)
        obtain ⟨v2, ev2, hf⟩ := bn_ok hf
        replace ev2 := Option.some.inj ev2
        refine lv_iinc (v := v2) (lv' := [(4, .int v2), (3, .int v1), (2, .int x3), (5, .int v1)]) X.1 X.2.1 dX8_commonDivisor_28 hl (k := 3) rfl ev2 (by decide) rfl (fun ls hl => ?_)
        refine lv_goto (tgt := 7) X.1 X.2.1 dX8_commonDivisor_31 (by decide) ?_
        exact ih _ _ _ _ _ _ _ hf hw (lv_sub hl [2, 1, 0] rfl)
theorem hd_X8_commonDivisor : yX8_commonDivisor.cls ≠ "java/lang/invoke/MethodHandle" ∧ yX8_commonDivisor.cls ≠ "java/lang/invoke/VarHandle" ∧ (parseMethodDescriptor yX8_commonDivisor.desc).map (fun d => d.parameters.length) = some 2 := by decide +kernel
set_option maxHeartbeats 4000000 in
theorem c_X8_commonDivisor (l : Launch) (D : va_G) (B : Nat) (cy : Nat → ClassId) (A : Nat → Prop) (ad av : Nat → Nat) (x0 : Int32) (x1 : Int32) {S Z : HS} {rv : Int32} (hfr : hFr S) (hG : hC S) (hf : fn_X8_commonDivisor x0 x1 S = some (rv, Z)) : hMet l yX8_commonDivisor cX8_commonDivisor 6 (some .int) ({ frames := 0, cells := 0, slots := 0, locals := 0 } : Room) D B cy A ad av true hC [.int x0, .int x1] S Z (some (.int rv)) 0 0 := by
  refine h_entry (by decide) hfr hG ?_
  intro p e s m below meth c args X hnm hw
  have hl := lv_entry ([.int x0, .int x1]) (n := 6) (Nat.le_of_ble_eq_true rfl)
  rw [lg_entry_eq]
  generalize (lg_sl ([.int x0, .int x1]) ++ List.replicate (6 - (lg_sl ([.int x0, .int x1])).length) Slot.unset).toArray = ls at hl ⊢
  have hl : lv_has ls 6 [(0, .int x0), (1, .int x1)] := hl
  unfold fn_X8_commonDivisor at hf
  refine lv_iload_n X.1 X.2.1 dX8_commonDivisor_0 rfl (lv_at hl 0 rfl) ?_
  refine lv_istore_n (lv' := [(2, .int x0), (0, .int x0), (1, .int x1)]) X.1 X.2.1 dX8_commonDivisor_1 rfl hl (by decide) rfl (fun ls hl => ?_)
  refine lv_iload_n X.1 X.2.1 dX8_commonDivisor_2 rfl (lv_at hl 2 rfl) ?_
  refine lv_istore_n (lv' := [(3, .int x1), (2, .int x0), (0, .int x0), (1, .int x1)]) X.1 X.2.1 dX8_commonDivisor_3 rfl hl (by decide) rfl (fun ls hl => ?_)
  refine lv_iconst (v := 0) X.1 X.2.1 dX8_commonDivisor_4 (by decide) ?_
  refine lv_istore (lv' := [(4, .int 0), (3, .int x1), (2, .int x0), (0, .int x0), (1, .int x1)]) X.1 X.2.1 dX8_commonDivisor_5 hl (by decide) rfl (fun ls hl => ?_)
  exact w_X8_commonDivisor_7 X  _ _ _ _ _ _ _ _ hf hw (lv_sub hl [2, 1, 0] rfl)
set_option maxHeartbeats 4000000 in
theorem w_X8_addPair_50 {p : Program} {l : Launch} {e : Env} {s : State} {m : MethodId} {args : Array Value} {below : List Frame} {meth : Method} {c : Code} {D : va_G} {B : Nat} {cy : Nat → ClassId} {A : Nat → Prop} {ad av : Nat → Nat} {Z : HS} (X : hCX p s m args meth c RX8 cX8_addPair 6 none D cy A ad av)   (S : HS) (H : Heap) (locs : List Loc) (ls : Array Slot) (hf : fn_X8_addPair_50 S = some Z) (hw : hWd D B cy A true hC S s.heap H locs) (hl : lv_has ls 6 []) : W p l e ({ frames := 2, cells := 0, slots := 0, locals := 52 } : Room) s m args below meth c H locs 0 0 (MQ below (hQo D B cy A true hC Z none) args s 0 0 A) (F0 m 50 ls []) := by
  unfold fn_X8_addPair_50 at hf
  cases hf
  exact r_vret X hw dX8_addPair_50
theorem hd_X8_addPair : yX8_addPair.cls = RX8 ∧ yX8_addPair.cls ≠ "java/lang/invoke/MethodHandle" ∧ yX8_addPair.cls ≠ "java/lang/invoke/VarHandle" ∧ (parseMethodDescriptor yX8_addPair.desc).map (fun d => d.parameters.length) = some 2 := by decide +kernel
set_option maxHeartbeats 4000000 in
theorem c_X8_addPair (l : Launch) (D : va_G) (B : Nat) (cy : Nat → ClassId) (A : Nat → Prop) (ad av : Nat → Nat) (x1 : Int32) (x2 : Int32) {S Z : HS} (hfr : hFr S) (hG : hC S) (hf : fn_X8_addPair x1 x2 S = some Z) : hMet l yX8_addPair cX8_addPair 6 none ({ frames := 2, cells := 0, slots := 0, locals := 52 } : Room) D B cy A ad av true hC [.ref (B + 0), .int x1, .int x2] S Z none 0 0 := by
  refine h_entry (by decide) hfr hG ?_
  intro p e s m below meth c args X hnm hw
  have hl := lv_entry ([.ref (B + 0), .int x1, .int x2]) (n := 6) (Nat.le_of_ble_eq_true rfl)
  rw [lg_entry_eq]
  generalize (lg_sl ([.ref (B + 0), .int x1, .int x2]) ++ List.replicate (6 - (lg_sl ([.ref (B + 0), .int x1, .int x2])).length) Slot.unset).toArray = ls at hl ⊢
  have hl : lv_has ls 6 [(0, .ref (B + 0)), (1, .int x1), (2, .int x2)] := hl
  unfold fn_X8_addPair at hf
  refine lv_aload_n X.1 X.2.1 dX8_addPair_0 rfl (lv_at hl 0 rfl) ?_
  refine r_getF X hw (κ := 9) rfl inlX8 12 (by decide) rfl (by decide) tw_42 (hCk hw.2.2.2.2.2 0 (by decide) rfl) (hCr (c := 0) (k := 12) (d := 23) hw.2.2.2.2.2 (by decide)) dX8_addPair_1 ?_
  refine lv_iload_n X.1 X.2.1 dX8_addPair_4 rfl (lv_at hl 1 rfl) ?_
  obtain ⟨g1, hf⟩ := gd_ok hf
  refine r_iald X hw (hCk hw.2.2.2.2.2 23 (by decide) rfl) (hCn hw.2.2.2.2.2 23 (by decide) rfl) g1 dX8_addPair_5 ?_
  obtain ⟨v2, ev2, hf⟩ := bn_ok hf
  replace ev2 := Option.some.inj ev2
  refine lv_ren ev2 ?_
  refine lv_istore_n (lv' := [(3, .int v2), (0, .ref (B + 0)), (1, .int x1), (2, .int x2)]) X.1 X.2.1 dX8_addPair_6 rfl hl (by decide) rfl (fun ls hl => ?_)
  refine lv_aload_n X.1 X.2.1 dX8_addPair_7 rfl (lv_at hl 1 rfl) ?_
  refine r_getF X hw (κ := 9) rfl inlX8 12 (by decide) rfl (by decide) tw_42 (hCk hw.2.2.2.2.2 0 (by decide) rfl) (hCr (c := 0) (k := 12) (d := 23) hw.2.2.2.2.2 (by decide)) dX8_addPair_8 ?_
  refine lv_iload_n X.1 X.2.1 dX8_addPair_11 rfl (lv_at hl 3 rfl) ?_
  obtain ⟨g3, hf⟩ := gd_ok hf
  refine r_iald X hw (hCk hw.2.2.2.2.2 23 (by decide) rfl) (hCn hw.2.2.2.2.2 23 (by decide) rfl) g3 dX8_addPair_12 ?_
  obtain ⟨v4, ev4, hf⟩ := bn_ok hf
  replace ev4 := Option.some.inj ev4
  refine lv_ren ev4 ?_
  refine lv_istore (lv' := [(4, .int v4), (3, .int v2), (0, .ref (B + 0)), (1, .int x1), (2, .int x2)]) X.1 X.2.1 dX8_addPair_13 hl (by decide) rfl (fun ls hl => ?_)
  refine lv_iload_n X.1 X.2.1 dX8_addPair_15 rfl (lv_at hl 1 rfl) ?_
  refine lv_iload X.1 X.2.1 dX8_addPair_16 (lv_at hl 0 rfl) ?_
  obtain ⟨r6, S5, hS5, hf⟩ := bn2_ok hf
  refine r_callS (As := [.int v2, .int v4]) (rest := []) (st1 := [.int r6]) X hw (c_X8_commonDivisor l D B cy A ad av v2 v4 hw.2.2.2.2.1 hw.2.2.2.2.2 hS5) ⟨rfl, rfl, Nat.le_of_ble_eq_true rfl, Nat.le_of_ble_eq_true rfl⟩ tw_915 tw_916 tw_2 tw_917 hd_X8_commonDivisor rfl hl.1 rfl (Nat.le_of_ble_eq_true rfl) dX8_addPair_18 ⟨Nat.le_of_ble_eq_true rfl, Nat.le_of_ble_eq_true rfl⟩ rfl (fun H locs hw => ?_)
  refine lv_istore (lv' := [(5, .int r6), (4, .int v4), (3, .int v2), (0, .ref (B + 0)), (1, .int x1), (2, .int x2)]) X.1 X.2.1 dX8_addPair_21 hl (by decide) rfl (fun ls hl => ?_)
  refine lv_iload X.1 X.2.1 dX8_addPair_23 (lv_at hl 0 rfl) ?_
  refine lv_if_le (tgt := 50) X.1 X.2.1 dX8_addPair_25 (by decide) (fun hq => ?_) (fun hq => ?_)
  · replace hf := cd_tk hq hf
    exact w_X8_addPair_50 X  _ _ _ _ hf hw (lv_sub hl [] rfl)
  · replace hf := cd_fk hq hf
    refine lv_aload_n X.1 X.2.1 dX8_addPair_28 rfl (lv_at hl 3 rfl) ?_
    refine r_getF X hw (κ := 9) rfl inlX8 9 (by decide) rfl (by decide) tw_39 (hCk hw.2.2.2.2.2 0 (by decide) rfl) (hCr (c := 0) (k := 9) (d := 18) hw.2.2.2.2.2 (by decide)) dX8_addPair_29 ?_
    refine lv_iload_n X.1 X.2.1 dX8_addPair_32 rfl (lv_at hl 4 rfl) ?_
    refine lv_i2l X.1 X.2.1 dX8_addPair_33 rfl ?_
    refine lv_iload_n X.1 X.2.1 dX8_addPair_34 rfl (lv_at hl 5 rfl) ?_
    refine lv_i2l X.1 X.2.1 dX8_addPair_35 rfl ?_
    refine lv_iload_n X.1 X.2.1 dX8_addPair_36 rfl (lv_at hl 2 rfl) ?_
    refine lv_iload X.1 X.2.1 dX8_addPair_37 (lv_at hl 0 rfl) ?_
    obtain ⟨hq, hf⟩ := gd_ok hf
    refine lv_idiv X.1 X.2.1 dX8_addPair_39 hq ?_
    refine lv_i2l X.1 X.2.1 dX8_addPair_40 rfl ?_
    refine lv_iload X.1 X.2.1 dX8_addPair_41 (lv_at hl 1 rfl) ?_
    refine lv_iload X.1 X.2.1 dX8_addPair_43 (lv_at hl 0 rfl) ?_
    obtain ⟨hq, hf⟩ := gd_ok hf
    refine lv_idiv X.1 X.2.1 dX8_addPair_45 hq ?_
    refine lv_i2l X.1 X.2.1 dX8_addPair_46 rfl ?_
    obtain ⟨S7, hS7, hf⟩ := bn_ok hf
    refine r_callV (As := [.long (x1.toInt64), .long (x2.toInt64), .long ((v2 / r6 : Int32).toInt64), .long ((v4 / r6 : Int32).toInt64)]) (rest := []) (st1 := []) (κ := 6) X hw (c_X5_add l D B cy A ad av 18 (x1.toInt64) (x2.toInt64) ((v2 / r6 : Int32).toInt64) ((v4 / r6 : Int32).toInt64) hw.2.2.2.2.1 hw.2.2.2.2.2 hS7) ⟨rfl, rfl, Nat.le_of_ble_eq_true rfl, Nat.le_of_ble_eq_true rfl⟩ rfl (by decide) (hCk hw.2.2.2.2.2 18 (by decide) rfl) tw_852 tw_853 tw_854 tw_37 tw_855 hd_X5_add rfl hl.1 rfl (Nat.le_of_ble_eq_true rfl) dX8_addPair_47 ⟨Nat.le_of_ble_eq_true rfl, Nat.le_of_ble_eq_true rfl⟩ rfl (fun H locs hw => ?_)
    exact w_X8_addPair_50 X  _ _ _ _ hf hw (lv_sub hl [] rfl)
set_option maxHeartbeats 4000000 in
theorem w_X8_like_165 {p : Program} {l : Launch} {e : Env} {s : State} {m : MethodId} {args : Array Value} {below : List Frame} {meth : Method} {c : Code} {D : va_G} {B : Nat} {cy : Nat → ClassId} {A : Nat → Prop} {ad av : Nat → Nat} {rv : Int32} {Z : HS} (X : hCX p s m args meth c RX8 cX8_like 6 (some .int) D cy A ad av) (k121 : Int32 → Int32 → HS → Option (Int32 × HS)) (hk121 : ∀ (x3 : Int32) (x4 : Int32) (S : HS) (H : Heap) (locs : List Loc) (ls : Array Slot), k121 x3 x4 S = some (rv, Z) → hWd D B cy A true hC S s.heap H locs → lv_has ls 6 [(0, .ref (B + 0)), (3, .int x3), (4, .int x4)] → W p l e ({ frames := 7, cells := 0, slots := 0, locals := 152 } : Room) s m args below meth c H locs 0 0 (MQ below (hQo D B cy A true hC Z (some (.int rv))) args s 0 0 A) (F0 m 121 ls [])) (k136 : Int32 → Int32 → Int32 → HS → Option (Int32 × HS)) (hk136 : ∀ (x3 : Int32) (x4 : Int32) (x5 : Int32) (S : HS) (H : Heap) (locs : List Loc) (ls : Array Slot), k136 x3 x4 x5 S = some (rv, Z) → hWd D B cy A true hC S s.heap H locs → lv_has ls 6 [(0, .ref (B + 0)), (3, .int x3), (4, .int x4), (5, .int x5)] → W p l e ({ frames := 7, cells := 0, slots := 0, locals := 152 } : Room) s m args below meth c H locs 0 0 (MQ below (hQo D B cy A true hC Z (some (.int rv))) args s 0 0 A) (F0 m 136 ls [])) (x3 : Int32) (x4 : Int32) (x5 : Int32) (S : HS) (H : Heap) (locs : List Loc) (ls : Array Slot) (hf : fn_X8_like_165 k121 k136 x3 x4 x5 S = some (rv, Z)) (hw : hWd D B cy A true hC S s.heap H locs) (hl : lv_has ls 6 [(0, .ref (B + 0)), (3, .int x3), (4, .int x4), (5, .int x5)]) : W p l e ({ frames := 7, cells := 0, slots := 0, locals := 152 } : Room) s m args below meth c H locs 0 0 (MQ below (hQo D B cy A true hC Z (some (.int rv))) args s 0 0 A) (F0 m 165 ls []) := by
  unfold fn_X8_like_165 at hf
  obtain ⟨v1, ev1, hf⟩ := bn_ok hf
  replace ev1 := Option.some.inj ev1
  refine lv_iinc (v := v1) (lv' := [(5, .int v1), (0, .ref (B + 0)), (3, .int x3), (4, .int x4)]) X.1 X.2.1 dX8_like_165 hl (k := 3) rfl ev1 (by decide) rfl (fun ls hl => ?_)
  refine lv_goto (tgt := 136) X.1 X.2.1 dX8_like_168 (by decide) ?_
  exact hk136 _ _ _ _ _ _ _ hf hw (lv_sub hl [1, 2, 3, 0] rfl)
set_option maxHeartbeats 4000000 in
theorem w_X8_like_136 {p : Program} {l : Launch} {e : Env} {s : State} {m : MethodId} {args : Array Value} {below : List Frame} {meth : Method} {c : Code} {D : va_G} {B : Nat} {cy : Nat → ClassId} {A : Nat → Prop} {ad av : Nat → Nat} {rv : Int32} {Z : HS} (X : hCX p s m args meth c RX8 cX8_like 6 (some .int) D cy A ad av) (k121 : Int32 → Int32 → HS → Option (Int32 × HS)) (hk121 : ∀ (x3 : Int32) (x4 : Int32) (S : HS) (H : Heap) (locs : List Loc) (ls : Array Slot), k121 x3 x4 S = some (rv, Z) → hWd D B cy A true hC S s.heap H locs → lv_has ls 6 [(0, .ref (B + 0)), (3, .int x3), (4, .int x4)] → W p l e ({ frames := 7, cells := 0, slots := 0, locals := 152 } : Room) s m args below meth c H locs 0 0 (MQ below (hQo D B cy A true hC Z (some (.int rv))) args s 0 0 A) (F0 m 121 ls [])) : ∀ (n : Nat) (x3 : Int32) (x4 : Int32) (x5 : Int32) (S : HS) (H : Heap) (locs : List Loc) (ls : Array Slot), fn_X8_like_136 k121 n x3 x4 x5 S = some (rv, Z) → hWd D B cy A true hC S s.heap H locs → lv_has ls 6 [(0, .ref (B + 0)), (3, .int x3), (4, .int x4), (5, .int x5)] → W p l e ({ frames := 7, cells := 0, slots := 0, locals := 152 } : Room) s m args below meth c H locs 0 0 (MQ below (hQo D B cy A true hC Z (some (.int rv))) args s 0 0 A) (F0 m 136 ls []) := by
  intro n
  induction n with
  | zero =>
    intro x3 x4 x5 S H locs ls hf
    cases hf
  | succ n ih =>
    intro x3 x4 x5 S H locs ls hf hw hl
    rw [fn_X8_like_136] at hf
    refine lv_iload X.1 X.2.1 dX8_like_136 (lv_at hl 3 rfl) ?_
    refine lv_aload_n X.1 X.2.1 dX8_like_138 rfl (lv_at hl 0 rfl) ?_
    refine r_getI X hw (κ := 9) rfl inlX8 16 (by decide) rfl (by decide) tw_533 (hCk hw.2.2.2.2.2 0 (by decide) rfl) dX8_like_139 ?_
    refine lv_icmp_ge (tgt := 171) X.1 X.2.1 dX8_like_142 (by decide) (fun hq => ?_) (fun hq => ?_)
    · replace hf := cd_tk hq hf
      obtain ⟨v1, ev1, hf⟩ := bn_ok hf
      replace ev1 := Option.some.inj ev1
      refine lv_iinc (v := v1) (lv' := [(4, .int v1), (0, .ref (B + 0)), (3, .int x3), (5, .int x5)]) X.1 X.2.1 dX8_like_171 hl (k := 2) rfl ev1 (by decide) rfl (fun ls hl => ?_)
      refine lv_goto (tgt := 121) X.1 X.2.1 dX8_like_174 (by decide) ?_
      exact hk121 _ _ _ _ _ _ hf hw (lv_sub hl [1, 2, 0] rfl)
    · replace hf := cd_fk hq hf
      refine lv_aload_n X.1 X.2.1 dX8_like_145 rfl (lv_at hl 0 rfl) ?_
      refine lv_iload X.1 X.2.1 dX8_like_146 (lv_at hl 2 rfl) ?_
      refine lv_iload X.1 X.2.1 dX8_like_148 (lv_at hl 3 rfl) ?_
      refine lv_iload_n X.1 X.2.1 dX8_like_150 rfl (lv_at hl 1 rfl) ?_
      obtain ⟨r3, S2, hS2, hf⟩ := bn2_ok hf
      refine r_callV (As := [.int x4, .int x5, .int x3]) (rest := []) (st1 := [.int r3]) (κ := 9) X hw (c_X8_areLike l D B cy A ad av x4 x5 x3 hw.2.2.2.2.1 hw.2.2.2.2.2 hS2) ⟨rfl, rfl, Nat.le_of_ble_eq_true rfl, Nat.le_of_ble_eq_true rfl⟩ rfl (by decide) (hCk hw.2.2.2.2.2 0 (by decide) rfl) tw_904 tw_905 tw_906 tw_2 tw_907 hd_X8_areLike rfl hl.1 rfl (Nat.le_of_ble_eq_true rfl) dX8_like_151 ⟨Nat.le_of_ble_eq_true rfl, Nat.le_of_ble_eq_true rfl⟩ rfl (fun H locs hw => ?_)
      refine lv_if_eq (tgt := 165) X.1 X.2.1 dX8_like_154 (by decide) (fun hq => ?_) (fun hq => ?_)
      · replace hf := cd_tk hq hf
        exact w_X8_like_165 X k121 hk121 (fn_X8_like_136 k121 n) ih _ _ _ _ _ _ _ hf hw (lv_sub hl [0, 1, 2, 3] rfl)
      · replace hf := cd_fk hq hf
        refine lv_aload_n X.1 X.2.1 dX8_like_157 rfl (lv_at hl 0 rfl) ?_
        refine lv_iload X.1 X.2.1 dX8_like_158 (lv_at hl 2 rfl) ?_
        refine lv_iload X.1 X.2.1 dX8_like_160 (lv_at hl 3 rfl) ?_
        obtain ⟨S4, hS4, hf⟩ := bn_ok hf
        refine r_callV (As := [.int x4, .int x5]) (rest := []) (st1 := []) (κ := 9) X hw (c_X8_addPair l D B cy A ad av x4 x5 hw.2.2.2.2.1 hw.2.2.2.2.2 hS4) ⟨rfl, rfl, Nat.le_of_ble_eq_true rfl, Nat.le_of_ble_eq_true rfl⟩ rfl (by decide) (hCk hw.2.2.2.2.2 0 (by decide) rfl) tw_911 tw_912 tw_913 tw_2 tw_914 hd_X8_addPair rfl hl.1 rfl (Nat.le_of_ble_eq_true rfl) dX8_like_162 ⟨Nat.le_of_ble_eq_true rfl, Nat.le_of_ble_eq_true rfl⟩ rfl (fun H locs hw => ?_)
        exact w_X8_like_165 X k121 hk121 (fn_X8_like_136 k121 n) ih _ _ _ _ _ _ _ hf hw (lv_sub hl [0, 1, 2, 3] rfl)
set_option maxHeartbeats 4000000 in
theorem w_X8_like_121 {p : Program} {l : Launch} {e : Env} {s : State} {m : MethodId} {args : Array Value} {below : List Frame} {meth : Method} {c : Code} {D : va_G} {B : Nat} {cy : Nat → ClassId} {A : Nat → Prop} {ad av : Nat → Nat} {rv : Int32} {Z : HS} (X : hCX p s m args meth c RX8 cX8_like 6 (some .int) D cy A ad av)  : ∀ (n : Nat) (x3 : Int32) (x4 : Int32) (S : HS) (H : Heap) (locs : List Loc) (ls : Array Slot), fn_X8_like_121 n x3 x4 S = some (rv, Z) → hWd D B cy A true hC S s.heap H locs → lv_has ls 6 [(0, .ref (B + 0)), (3, .int x3), (4, .int x4)] → W p l e ({ frames := 7, cells := 0, slots := 0, locals := 152 } : Room) s m args below meth c H locs 0 0 (MQ below (hQo D B cy A true hC Z (some (.int rv))) args s 0 0 A) (F0 m 121 ls []) := by
  intro n
  induction n with
  | zero =>
    intro x3 x4 S H locs ls hf
    cases hf
  | succ n ih =>
    intro x3 x4 S H locs ls hf hw hl
    rw [fn_X8_like_121] at hf
    refine lv_iload X.1 X.2.1 dX8_like_121 (lv_at hl 2 rfl) ?_
    refine lv_aload_n X.1 X.2.1 dX8_like_123 rfl (lv_at hl 0 rfl) ?_
    refine r_getI X hw (κ := 9) rfl inlX8 16 (by decide) rfl (by decide) tw_533 (hCk hw.2.2.2.2.2 0 (by decide) rfl) dX8_like_124 ?_
    refine lv_icmp_ge (tgt := 177) X.1 X.2.1 dX8_like_127 (by decide) (fun hq => ?_) (fun hq => ?_)
    · replace hf := cd_tk hq hf
      refine lv_aload_n X.1 X.2.1 dX8_like_177 rfl (lv_at hl 0 rfl) ?_
      refine r_getF X hw (κ := 9) rfl inlX8 9 (by decide) rfl (by decide) tw_39 (hCk hw.2.2.2.2.2 0 (by decide) rfl) (hCr (c := 0) (k := 9) (d := 18) hw.2.2.2.2.2 (by decide)) dX8_like_178 ?_
      refine r_getI X hw (κ := 6) rfl inlX5 2 (by decide) rfl (by decide) tw_842 (hCk hw.2.2.2.2.2 18 (by decide) rfl) dX8_like_181 ?_
      cases hf
      exact r_iret X hw dX8_like_184
    · replace hf := cd_fk hq hf
      refine lv_iload X.1 X.2.1 dX8_like_130 (lv_at hl 2 rfl) ?_
      refine lv_iconst (v := 1) X.1 X.2.1 dX8_like_132 (by decide) ?_
      refine lv_iadd X.1 X.2.1 dX8_like_133 ?_
      obtain ⟨v1, ev1, hf⟩ := bn_ok hf
      replace ev1 := Option.some.inj ev1
      refine lv_ren ev1 ?_
      refine lv_istore (lv' := [(5, .int v1), (0, .ref (B + 0)), (3, .int x3), (4, .int x4)]) X.1 X.2.1 dX8_like_134 hl (by decide) rfl (fun ls hl => ?_)
      exact w_X8_like_136 X (fn_X8_like_121 n) ih _ _ _ _ _ _ _ _ hf hw (lv_sub hl [1, 2, 3, 0] rfl)
set_option maxHeartbeats 4000000 in
theorem w_X8_like_87 {p : Program} {l : Launch} {e : Env} {s : State} {m : MethodId} {args : Array Value} {below : List Frame} {meth : Method} {c : Code} {D : va_G} {B : Nat} {cy : Nat → ClassId} {A : Nat → Prop} {ad av : Nat → Nat} {rv : Int32} {Z : HS} (X : hCX p s m args meth c RX8 cX8_like 6 (some .int) D cy A ad av) (k30 : Int32 → Int32 → Int32 → Int32 → HS → Option (Int32 × HS)) (hk30 : ∀ (x1 : Int32) (x2 : Int32) (x3 : Int32) (x4 : Int32) (S : HS) (H : Heap) (locs : List Loc) (ls : Array Slot), k30 x1 x2 x3 x4 S = some (rv, Z) → hWd D B cy A true hC S s.heap H locs → lv_has ls 6 [(0, .ref (B + 0)), (1, .int x1), (2, .int x2), (3, .int x3), (4, .int x4)] → W p l e ({ frames := 7, cells := 0, slots := 0, locals := 152 } : Room) s m args below meth c H locs 0 0 (MQ below (hQo D B cy A true hC Z (some (.int rv))) args s 0 0 A) (F0 m 30 ls [])) (x1 : Int32) (x2 : Int32) (x3 : Int32) (x4 : Int32) (y0 : Int32) (y1 : Int32) (S : HS) (H : Heap) (locs : List Loc) (ls : Array Slot) (hf : fn_X8_like_87 k30 x1 x2 x3 x4 y0 y1 S = some (rv, Z)) (hw : hWd D B cy A true hC S s.heap H locs) (hl : lv_has ls 6 [(0, .ref (B + 0)), (1, .int x1), (2, .int x2), (3, .int x3), (4, .int x4)]) : W p l e ({ frames := 7, cells := 0, slots := 0, locals := 152 } : Room) s m args below meth c H locs 0 0 (MQ below (hQo D B cy A true hC Z (some (.int rv))) args s 0 0 A) (F0 m 87 ls [.int y0, .int y1, .ref (B + 22)]) := by
  unfold fn_X8_like_87 at hf
  obtain ⟨g1, hf⟩ := gd_ok hf
  obtain ⟨S2, eS2, hf⟩ := bn_ok hf
  replace eS2 := Option.some.inj eS2
  refine r_iast X hw (hCk hw.2.2.2.2.2 22 (by decide) rfl) (hCn hw.2.2.2.2.2 22 (by decide) rfl) g1 hw.2.2.2.2.2 dX8_like_87 (fun H locs hw => ?_)
  rw [eS2] at hw
  refine lv_aload_n X.1 X.2.1 dX8_like_88 rfl (lv_at hl 0 rfl) ?_
  refine r_getF X hw (κ := 9) rfl inlX8 12 (by decide) rfl (by decide) tw_42 (hCk hw.2.2.2.2.2 0 (by decide) rfl) (hCr (c := 0) (k := 12) (d := 23) hw.2.2.2.2.2 (by decide)) dX8_like_89 ?_
  refine lv_iload X.1 X.2.1 dX8_like_92 (lv_at hl 4 rfl) ?_
  refine lv_aload_n X.1 X.2.1 dX8_like_94 rfl (lv_at hl 0 rfl) ?_
  refine r_getF X hw (κ := 9) rfl inlX8 6 (by decide) rfl (by decide) tw_32 (hCk hw.2.2.2.2.2 0 (by decide) rfl) (hCr (c := 0) (k := 6) (d := 11) hw.2.2.2.2.2 (by decide)) dX8_like_95 ?_
  refine r_getF X hw (κ := 8) rfl inlX7 4 (by decide) rfl (by decide) tw_900 (hCk hw.2.2.2.2.2 11 (by decide) rfl) (hCr (c := 11) (k := 4) (d := 12) hw.2.2.2.2.2 (by decide)) dX8_like_98 ?_
  refine r_getI X hw (κ := 2) rfl inlX1 6 (by decide) rfl (by decide) tw_902 (hCk hw.2.2.2.2.2 12 (by decide) rfl) dX8_like_101 ?_
  obtain ⟨g3, hf⟩ := gd_ok hf
  obtain ⟨S4, eS4, hf⟩ := bn_ok hf
  replace eS4 := Option.some.inj eS4
  refine r_iast X hw (hCk hw.2.2.2.2.2 23 (by decide) rfl) (hCn hw.2.2.2.2.2 23 (by decide) rfl) g3 hw.2.2.2.2.2 dX8_like_104 (fun H locs hw => ?_)
  rw [eS4] at hw
  obtain ⟨v5, ev5, hf⟩ := bn_ok hf
  replace ev5 := Option.some.inj ev5
  refine lv_iinc (v := v5) (lv' := [(4, .int v5), (0, .ref (B + 0)), (1, .int x1), (2, .int x2), (3, .int x3)]) X.1 X.2.1 dX8_like_105 hl (k := 4) rfl ev5 (by decide) rfl (fun ls hl => ?_)
  refine lv_goto (tgt := 30) X.1 X.2.1 dX8_like_108 (by decide) ?_
  exact hk30 _ _ _ _ _ _ _ _ hf hw (lv_sub hl [1, 2, 3, 4, 0] rfl)
set_option maxHeartbeats 4000000 in
theorem w_X8_like_30 {p : Program} {l : Launch} {e : Env} {s : State} {m : MethodId} {args : Array Value} {below : List Frame} {meth : Method} {c : Code} {D : va_G} {B : Nat} {cy : Nat → ClassId} {A : Nat → Prop} {ad av : Nat → Nat} {rv : Int32} {Z : HS} (X : hCX p s m args meth c RX8 cX8_like 6 (some .int) D cy A ad av)  : ∀ (n : Nat) (x1 : Int32) (x2 : Int32) (x3 : Int32) (x4 : Int32) (S : HS) (H : Heap) (locs : List Loc) (ls : Array Slot), fn_X8_like_30 n x1 x2 x3 x4 S = some (rv, Z) → hWd D B cy A true hC S s.heap H locs → lv_has ls 6 [(0, .ref (B + 0)), (1, .int x1), (2, .int x2), (3, .int x3), (4, .int x4)] → W p l e ({ frames := 7, cells := 0, slots := 0, locals := 152 } : Room) s m args below meth c H locs 0 0 (MQ below (hQo D B cy A true hC Z (some (.int rv))) args s 0 0 A) (F0 m 30 ls []) := by
  intro n
  induction n with
  | zero =>
    intro x1 x2 x3 x4 S H locs ls hf
    cases hf
  | succ n ih =>
    intro x1 x2 x3 x4 S H locs ls hf hw hl
    rw [fn_X8_like_30] at hf
    refine lv_iload X.1 X.2.1 dX8_like_30 (lv_at hl 4 rfl) ?_
    refine lv_aload_n X.1 X.2.1 dX8_like_32 rfl (lv_at hl 0 rfl) ?_
    refine r_getI X hw (κ := 9) rfl inlX8 16 (by decide) rfl (by decide) tw_533 (hCk hw.2.2.2.2.2 0 (by decide) rfl) dX8_like_33 ?_
    refine lv_icmp_ge (tgt := 111) X.1 X.2.1 dX8_like_36 (by decide) (fun hq => ?_) (fun hq => ?_)
    · replace hf := cd_tk hq hf
      refine lv_aload_n X.1 X.2.1 dX8_like_111 rfl (lv_at hl 0 rfl) ?_
      refine r_getF X hw (κ := 9) rfl inlX8 9 (by decide) rfl (by decide) tw_39 (hCk hw.2.2.2.2.2 0 (by decide) rfl) (hCr (c := 0) (k := 9) (d := 18) hw.2.2.2.2.2 (by decide)) dX8_like_112 ?_
      obtain ⟨S1, hS1, hf⟩ := bn_ok hf
      refine r_callV (As := []) (rest := []) (st1 := []) (κ := 6) X hw (c_X5_clear l D B cy A ad av 18 hw.2.2.2.2.1 hw.2.2.2.2.2 hS1) ⟨rfl, rfl, Nat.le_of_ble_eq_true rfl, Nat.le_of_ble_eq_true rfl⟩ rfl (by decide) (hCk hw.2.2.2.2.2 18 (by decide) rfl) tw_843 tw_844 tw_845 tw_37 tw_846 hd_X5_clear rfl hl.1 rfl (Nat.le_of_ble_eq_true rfl) dX8_like_115 ⟨Nat.le_of_ble_eq_true rfl, Nat.le_of_ble_eq_true rfl⟩ rfl (fun H locs hw => ?_)
      refine lv_iconst (v := 0) X.1 X.2.1 dX8_like_118 (by decide) ?_
      refine lv_istore (lv' := [(4, .int 0), (0, .ref (B + 0)), (1, .int x1), (2, .int x2), (3, .int x3)]) X.1 X.2.1 dX8_like_119 hl (by decide) rfl (fun ls hl => ?_)
      exact w_X8_like_121 X  _ _ _ _ _ _ _ hf hw (lv_sub hl [1, 4, 0] rfl)
    · replace hf := cd_fk hq hf
      refine lv_aload_n X.1 X.2.1 dX8_like_39 rfl (lv_at hl 0 rfl) ?_
      refine r_getF X hw (κ := 9) rfl inlX8 6 (by decide) rfl (by decide) tw_32 (hCk hw.2.2.2.2.2 0 (by decide) rfl) (hCr (c := 0) (k := 6) (d := 11) hw.2.2.2.2.2 (by decide)) dX8_like_40 ?_
      refine lv_iload X.1 X.2.1 dX8_like_43 (lv_at hl 4 rfl) ?_
      refine lv_iload_n X.1 X.2.1 dX8_like_45 rfl (lv_at hl 2 rfl) ?_
      obtain ⟨S2, hS2, hf⟩ := bn_ok hf
      refine r_callV (As := [.int x4, .int x2]) (rest := []) (st1 := []) (κ := 8) X hw (c_X7_begin l D B cy A ad av x4 x2 hw.2.2.2.2.1 hw.2.2.2.2.2 hS2) ⟨rfl, rfl, Nat.le_of_ble_eq_true rfl, Nat.le_of_ble_eq_true rfl⟩ rfl (by decide) (hCk hw.2.2.2.2.2 11 (by decide) rfl) tw_588 tw_589 tw_590 tw_31 tw_591 hd_X7_begin rfl hl.1 rfl (Nat.le_of_ble_eq_true rfl) dX8_like_46 ⟨Nat.le_of_ble_eq_true rfl, Nat.le_of_ble_eq_true rfl⟩ rfl (fun H locs hw => ?_)
      refine lv_aload_n X.1 X.2.1 dX8_like_49 rfl (lv_at hl 0 rfl) ?_
      refine r_getF X hw (κ := 9) rfl inlX8 6 (by decide) rfl (by decide) tw_32 (hCk hw.2.2.2.2.2 0 (by decide) rfl) (hCr (c := 0) (k := 6) (d := 11) hw.2.2.2.2.2 (by decide)) dX8_like_50 ?_
      refine lv_iload_n X.1 X.2.1 dX8_like_53 rfl (lv_at hl 1 rfl) ?_
      obtain ⟨S3, hS3, hf⟩ := bn_ok hf
      refine r_callV (As := [.int x1]) (rest := []) (st1 := []) (κ := 8) X hw (c_X7_goTo l D B cy A ad av x1 hw.2.2.2.2.1 hw.2.2.2.2.2 hS3) ⟨rfl, rfl, Nat.le_of_ble_eq_true rfl, Nat.le_of_ble_eq_true rfl⟩ rfl (by decide) (hCk hw.2.2.2.2.2 11 (by decide) rfl) tw_716 tw_717 tw_718 tw_31 tw_719 hd_X7_goTo rfl hl.1 rfl (Nat.le_of_ble_eq_true rfl) dX8_like_54 ⟨Nat.le_of_ble_eq_true rfl, Nat.le_of_ble_eq_true rfl⟩ rfl (fun H locs hw => ?_)
      refine lv_aload_n X.1 X.2.1 dX8_like_57 rfl (lv_at hl 0 rfl) ?_
      refine r_getF X hw (κ := 9) rfl inlX8 11 (by decide) rfl (by decide) tw_41 (hCk hw.2.2.2.2.2 0 (by decide) rfl) (hCr (c := 0) (k := 11) (d := 22) hw.2.2.2.2.2 (by decide)) dX8_like_58 ?_
      refine lv_iload X.1 X.2.1 dX8_like_61 (lv_at hl 4 rfl) ?_
      refine lv_aload_n X.1 X.2.1 dX8_like_63 rfl (lv_at hl 0 rfl) ?_
      refine r_getF X hw (κ := 9) rfl inlX8 6 (by decide) rfl (by decide) tw_32 (hCk hw.2.2.2.2.2 0 (by decide) rfl) (hCr (c := 0) (k := 6) (d := 11) hw.2.2.2.2.2 (by decide)) dX8_like_64 ?_
      obtain ⟨r5, S4, hS4, hf⟩ := bn2_ok hf
      refine r_callV (As := []) (rest := [.int x4, .ref (B + 22)]) (st1 := [.int r5, .int x4, .ref (B + 22)]) (κ := 8) X hw (c_X7_isHeld l D B cy A ad av  hw.2.2.2.2.1 hw.2.2.2.2.2 hS4) ⟨rfl, rfl, Nat.le_of_ble_eq_true rfl, Nat.le_of_ble_eq_true rfl⟩ rfl (by decide) (hCk hw.2.2.2.2.2 11 (by decide) rfl) tw_903 tw_713 tw_714 tw_31 tw_715 hd_X7_isHeld rfl hl.1 rfl (Nat.le_of_ble_eq_true rfl) dX8_like_67 ⟨Nat.le_of_ble_eq_true rfl, Nat.le_of_ble_eq_true rfl⟩ rfl (fun H locs hw => ?_)
      refine lv_if_eq (tgt := 86) X.1 X.2.1 dX8_like_70 (by decide) (fun hq => ?_) (fun hq => ?_)
      · replace hf := cd_tk hq hf
        refine lv_iconst (v := (-1)) X.1 X.2.1 dX8_like_86 (by decide) ?_
        exact w_X8_like_87 X (fn_X8_like_30 n) ih _ _ _ _ _ _ _ _ _ _ hf hw (lv_sub hl [0, 1, 2, 3, 4] rfl)
      · replace hf := cd_fk hq hf
        refine lv_aload_n X.1 X.2.1 dX8_like_73 rfl (lv_at hl 0 rfl) ?_
        refine r_getF X hw (κ := 9) rfl inlX8 6 (by decide) rfl (by decide) tw_32 (hCk hw.2.2.2.2.2 0 (by decide) rfl) (hCr (c := 0) (k := 6) (d := 11) hw.2.2.2.2.2 (by decide)) dX8_like_74 ?_
        refine r_getF X hw (κ := 8) rfl inlX7 4 (by decide) rfl (by decide) tw_900 (hCk hw.2.2.2.2.2 11 (by decide) rfl) (hCr (c := 11) (k := 4) (d := 12) hw.2.2.2.2.2 (by decide)) dX8_like_77 ?_
        refine r_getI X hw (κ := 2) rfl inlX1 2 (by decide) rfl (by decide) tw_901 (hCk hw.2.2.2.2.2 12 (by decide) rfl) dX8_like_80 ?_
        refine lv_goto (tgt := 87) X.1 X.2.1 dX8_like_83 (by decide) ?_
        exact w_X8_like_87 X (fn_X8_like_30 n) ih _ _ _ _ _ _ _ _ _ _ hf hw (lv_sub hl [0, 1, 2, 3, 4] rfl)
set_option maxHeartbeats 4000000 in
theorem w_X8_like_25 {p : Program} {l : Launch} {e : Env} {s : State} {m : MethodId} {args : Array Value} {below : List Frame} {meth : Method} {c : Code} {D : va_G} {B : Nat} {cy : Nat → ClassId} {A : Nat → Prop} {ad av : Nat → Nat} {rv : Int32} {Z : HS} (X : hCX p s m args meth c RX8 cX8_like 6 (some .int) D cy A ad av)   (S : HS) (H : Heap) (locs : List Loc) (ls : Array Slot) (hf : fn_X8_like_25 S = some (rv, Z)) (hw : hWd D B cy A true hC S s.heap H locs) (hl : lv_has ls 6 []) : W p l e ({ frames := 7, cells := 0, slots := 0, locals := 152 } : Room) s m args below meth c H locs 0 0 (MQ below (hQo D B cy A true hC Z (some (.int rv))) args s 0 0 A) (F0 m 25 ls []) := by
  unfold fn_X8_like_25 at hf
  refine lv_iconst (v := (-1)) X.1 X.2.1 dX8_like_25 (by decide) ?_
  cases hf
  exact r_iret X hw dX8_like_26
theorem hd_X8_like : yX8_like.cls = RX8 ∧ yX8_like.cls ≠ "java/lang/invoke/MethodHandle" ∧ yX8_like.cls ≠ "java/lang/invoke/VarHandle" ∧ (parseMethodDescriptor yX8_like.desc).map (fun d => d.parameters.length) = some 3 := by decide +kernel
set_option maxHeartbeats 4000000 in
theorem c_X8_like (l : Launch) (D : va_G) (B : Nat) (cy : Nat → ClassId) (A : Nat → Prop) (ad av : Nat → Nat) (x1 : Int32) (x2 : Int32) (x3 : Int32) {S Z : HS} {rv : Int32} (hfr : hFr S) (hG : hC S) (hf : fn_X8_like x1 x2 x3 S = some (rv, Z)) : hMet l yX8_like cX8_like 6 (some .int) ({ frames := 7, cells := 0, slots := 0, locals := 152 } : Room) D B cy A ad av true hC [.ref (B + 0), .int x1, .int x2, .int x3] S Z (some (.int rv)) 0 0 := by
  refine h_entry (by decide) hfr hG ?_
  intro p e s m below meth c args X hnm hw
  have hl := lv_entry ([.ref (B + 0), .int x1, .int x2, .int x3]) (n := 6) (Nat.le_of_ble_eq_true rfl)
  rw [lg_entry_eq]
  generalize (lg_sl ([.ref (B + 0), .int x1, .int x2, .int x3]) ++ List.replicate (6 - (lg_sl ([.ref (B + 0), .int x1, .int x2, .int x3])).length) Slot.unset).toArray = ls at hl ⊢
  have hl : lv_has ls 6 [(0, .ref (B + 0)), (1, .int x1), (2, .int x2), (3, .int x3)] := hl
  unfold fn_X8_like at hf
  refine lv_iload_n X.1 X.2.1 dX8_like_0 rfl (lv_at hl 1 rfl) ?_
  obtain ⟨r2, S1, hS1, hf⟩ := bn2_ok hf
  refine r_callS (As := [.int x1]) (rest := []) (st1 := [.int r2]) X hw (c_X8_isDay l D B cy A ad av x1 hw.2.2.2.2.1 hw.2.2.2.2.2 hS1) ⟨rfl, rfl, Nat.le_of_ble_eq_true rfl, Nat.le_of_ble_eq_true rfl⟩ tw_171 tw_172 tw_2 tw_173 hd_X8_isDay rfl hl.1 rfl (Nat.le_of_ble_eq_true rfl) dX8_like_1 ⟨Nat.le_of_ble_eq_true rfl, Nat.le_of_ble_eq_true rfl⟩ rfl (fun H locs hw => ?_)
  refine lv_if_eq (tgt := 25) X.1 X.2.1 dX8_like_4 (by decide) (fun hq => ?_) (fun hq => ?_)
  · replace hf := cd_tk hq hf
    exact w_X8_like_25 X  _ _ _ _ hf hw (lv_sub hl [] rfl)
  · replace hf := cd_fk hq hf
    refine lv_aload_n X.1 X.2.1 dX8_like_7 rfl (lv_at hl 0 rfl) ?_
    refine lv_iload_n X.1 X.2.1 dX8_like_8 rfl (lv_at hl 2 rfl) ?_
    obtain ⟨r4, S3, hS3, hf⟩ := bn2_ok hf
    refine r_callV (As := [.int x2]) (rest := []) (st1 := [.int r4]) (κ := 9) X hw (c_X8_isKnown l D B cy A ad av x2 hw.2.2.2.2.1 hw.2.2.2.2.2 hS3) ⟨rfl, rfl, Nat.le_of_ble_eq_true rfl, Nat.le_of_ble_eq_true rfl⟩ rfl (by decide) (hCk hw.2.2.2.2.2 0 (by decide) rfl) tw_584 tw_585 tw_586 tw_2 tw_587 hd_X8_isKnown rfl hl.1 rfl (Nat.le_of_ble_eq_true rfl) dX8_like_9 ⟨Nat.le_of_ble_eq_true rfl, Nat.le_of_ble_eq_true rfl⟩ rfl (fun H locs hw => ?_)
    refine lv_if_eq (tgt := 25) X.1 X.2.1 dX8_like_12 (by decide) (fun hq => ?_) (fun hq => ?_)
    · replace hf := cd_tk hq hf
      exact w_X8_like_25 X  _ _ _ _ hf hw (lv_sub hl [] rfl)
    · replace hf := cd_fk hq hf
      refine lv_iload_n X.1 X.2.1 dX8_like_15 rfl (lv_at hl 3 rfl) ?_
      refine lv_if_lt (tgt := 25) X.1 X.2.1 dX8_like_16 (by decide) (fun hq => ?_) (fun hq => ?_)
      · replace hf := cd_tk hq hf
        exact w_X8_like_25 X  _ _ _ _ hf hw (lv_sub hl [] rfl)
      · replace hf := cd_fk hq hf
        refine lv_iload_n X.1 X.2.1 dX8_like_19 rfl (lv_at hl 3 rfl) ?_
        refine lv_ldc X.1 X.2.1 X.2.2.2.1 (X.2.2.2.2.1 _ tw_899) dX8_like_20 ?_
        refine lv_icmp_le (tgt := 27) X.1 X.2.1 dX8_like_22 (by decide) (fun hq => ?_) (fun hq => ?_)
        · replace hf := cd_tk hq hf
          refine lv_iconst (v := 0) X.1 X.2.1 dX8_like_27 (by decide) ?_
          refine lv_istore (lv' := [(4, .int 0), (0, .ref (B + 0)), (1, .int x1), (2, .int x2), (3, .int x3)]) X.1 X.2.1 dX8_like_28 hl (by decide) rfl (fun ls hl => ?_)
          exact w_X8_like_30 X  _ _ _ _ _ _ _ _ _ hf hw (lv_sub hl [1, 2, 3, 4, 0] rfl)
        · replace hf := cd_fk hq hf
          exact w_X8_like_25 X  _ _ _ _ hf hw (lv_sub hl [] rfl)
theorem hd_X8_pair : yX8_pair.cls = RX8 ∧ yX8_pair.cls ≠ "java/lang/invoke/MethodHandle" ∧ yX8_pair.cls ≠ "java/lang/invoke/VarHandle" ∧ (parseMethodDescriptor yX8_pair.desc).map (fun d => d.parameters.length) = some 2 := by decide +kernel
set_option maxHeartbeats 4000000 in
theorem c_X8_pair (l : Launch) (D : va_G) (B : Nat) (cy : Nat → ClassId) (A : Nat → Prop) (ad av : Nat → Nat) (x1 : Int32) (x2 : Int32) {S Z : HS} {rv : Int32} (hfr : hFr S) (hG : hC S) (hf : fn_X8_pair x1 x2 S = some (rv, Z)) : hMet l yX8_pair cX8_pair 3 (some .int) ({ frames := 1, cells := 0, slots := 0, locals := 23 } : Room) D B cy A ad av true hC [.ref (B + 0), .int x1, .int x2] S Z (some (.int rv)) 0 0 := by
  refine h_entry (by decide) hfr hG ?_
  intro p e s m below meth c args X hnm hw
  have hl := lv_entry ([.ref (B + 0), .int x1, .int x2]) (n := 3) (Nat.le_of_ble_eq_true rfl)
  rw [lg_entry_eq]
  generalize (lg_sl ([.ref (B + 0), .int x1, .int x2]) ++ List.replicate (3 - (lg_sl ([.ref (B + 0), .int x1, .int x2])).length) Slot.unset).toArray = ls at hl ⊢
  have hl : lv_has ls 3 [(0, .ref (B + 0)), (1, .int x1), (2, .int x2)] := hl
  unfold fn_X8_pair at hf
  refine lv_aload_n X.1 X.2.1 dX8_pair_0 rfl (lv_at hl 0 rfl) ?_
  refine r_getF X hw (κ := 9) rfl inlX8 9 (by decide) rfl (by decide) tw_39 (hCk hw.2.2.2.2.2 0 (by decide) rfl) (hCr (c := 0) (k := 9) (d := 18) hw.2.2.2.2.2 (by decide)) dX8_pair_1 ?_
  refine lv_iload_n X.1 X.2.1 dX8_pair_4 rfl (lv_at hl 1 rfl) ?_
  refine lv_iload_n X.1 X.2.1 dX8_pair_5 rfl (lv_at hl 2 rfl) ?_
  obtain ⟨r2, S1, hS1, hf⟩ := bn2_ok hf
  refine r_callV (As := [.int x1, .int x2]) (rest := []) (st1 := [.long r2]) (κ := 6) X hw (c_X5_cell l D B cy A ad av 18 x1 x2 hw.2.2.2.2.1 hw.2.2.2.2.2 hS1) ⟨rfl, rfl, Nat.le_of_ble_eq_true rfl, Nat.le_of_ble_eq_true rfl⟩ rfl (by decide) (hCk hw.2.2.2.2.2 18 (by decide) rfl) tw_870 tw_871 tw_872 tw_37 tw_873 hd_X5_cell rfl hl.1 rfl (Nat.le_of_ble_eq_true rfl) dX8_pair_6 ⟨Nat.le_of_ble_eq_true rfl, Nat.le_of_ble_eq_true rfl⟩ rfl (fun H locs hw => ?_)
  refine lv_l2i X.1 X.2.1 dX8_pair_9 rfl ?_
  cases hf
  exact r_iret X hw dX8_pair_10
set_option maxHeartbeats 4000000 in
theorem w_X8_meet_161 {p : Program} {l : Launch} {e : Env} {s : State} {m : MethodId} {args : Array Value} {below : List Frame} {meth : Method} {c : Code} {D : va_G} {B : Nat} {cy : Nat → ClassId} {A : Nat → Prop} {ad av : Nat → Nat} {rv : Int32} {Z : HS} (X : hCX p s m args meth c RX8 cX8_meet 6 (some .int) D cy A ad av) (k92 : Int32 → HS → Option (Int32 × HS)) (hk92 : ∀ (x3 : Int32) (S : HS) (H : Heap) (locs : List Loc) (ls : Array Slot), k92 x3 S = some (rv, Z) → hWd D B cy A true hC S s.heap H locs → lv_has ls 6 [(0, .ref (B + 0)), (3, .int x3)] → W p l e ({ frames := 4, cells := 0, slots := 0, locals := 88 } : Room) s m args below meth c H locs 0 0 (MQ below (hQo D B cy A true hC Z (some (.int rv))) args s 0 0 A) (F0 m 92 ls [])) (x3 : Int32) (S : HS) (H : Heap) (locs : List Loc) (ls : Array Slot) (hf : fn_X8_meet_161 k92 x3 S = some (rv, Z)) (hw : hWd D B cy A true hC S s.heap H locs) (hl : lv_has ls 6 [(0, .ref (B + 0)), (3, .int x3)]) : W p l e ({ frames := 4, cells := 0, slots := 0, locals := 88 } : Room) s m args below meth c H locs 0 0 (MQ below (hQo D B cy A true hC Z (some (.int rv))) args s 0 0 A) (F0 m 161 ls []) := by
  unfold fn_X8_meet_161 at hf
  obtain ⟨v1, ev1, hf⟩ := bn_ok hf
  replace ev1 := Option.some.inj ev1
  refine lv_iinc (v := v1) (lv' := [(3, .int v1), (0, .ref (B + 0))]) X.1 X.2.1 dX8_meet_161 hl (k := 1) rfl ev1 (by decide) rfl (fun ls hl => ?_)
  refine lv_goto (tgt := 92) X.1 X.2.1 dX8_meet_164 (by decide) ?_
  exact hk92 _ _ _ _ _ hf hw (lv_sub hl [1, 0] rfl)
set_option maxHeartbeats 4000000 in
theorem w_X8_meet_92 {p : Program} {l : Launch} {e : Env} {s : State} {m : MethodId} {args : Array Value} {below : List Frame} {meth : Method} {c : Code} {D : va_G} {B : Nat} {cy : Nat → ClassId} {A : Nat → Prop} {ad av : Nat → Nat} {rv : Int32} {Z : HS} (X : hCX p s m args meth c RX8 cX8_meet 6 (some .int) D cy A ad av)  : ∀ (n : Nat) (x3 : Int32) (S : HS) (H : Heap) (locs : List Loc) (ls : Array Slot), fn_X8_meet_92 n x3 S = some (rv, Z) → hWd D B cy A true hC S s.heap H locs → lv_has ls 6 [(0, .ref (B + 0)), (3, .int x3)] → W p l e ({ frames := 4, cells := 0, slots := 0, locals := 88 } : Room) s m args below meth c H locs 0 0 (MQ below (hQo D B cy A true hC Z (some (.int rv))) args s 0 0 A) (F0 m 92 ls []) := by
  intro n
  induction n with
  | zero =>
    intro x3 S H locs ls hf
    cases hf
  | succ n ih =>
    intro x3 S H locs ls hf hw hl
    rw [fn_X8_meet_92] at hf
    refine lv_iload_n X.1 X.2.1 dX8_meet_92 rfl (lv_at hl 1 rfl) ?_
    refine lv_sipush (v := 156) X.1 X.2.1 dX8_meet_93 (by decide) ?_
    refine lv_icmp_ge (tgt := 167) X.1 X.2.1 dX8_meet_96 (by decide) (fun hq => ?_) (fun hq => ?_)
    · replace hf := cd_tk hq hf
      refine lv_aload_n X.1 X.2.1 dX8_meet_167 rfl (lv_at hl 0 rfl) ?_
      refine r_getF X hw (κ := 9) rfl inlX8 10 (by decide) rfl (by decide) tw_40 (hCk hw.2.2.2.2.2 0 (by decide) rfl) (hCr (c := 0) (k := 10) (d := 20) hw.2.2.2.2.2 (by decide)) dX8_meet_168 ?_
      refine r_getI X hw (κ := 6) rfl inlX5 2 (by decide) rfl (by decide) tw_842 (hCk hw.2.2.2.2.2 20 (by decide) rfl) dX8_meet_171 ?_
      cases hf
      exact r_iret X hw dX8_meet_174
    · replace hf := cd_fk hq hf
      refine lv_aload_n X.1 X.2.1 dX8_meet_99 rfl (lv_at hl 0 rfl) ?_
      refine r_getF X hw (κ := 9) rfl inlX8 5 (by decide) rfl (by decide) tw_28 (hCk hw.2.2.2.2.2 0 (by decide) rfl) (hCr (c := 0) (k := 5) (d := 7) hw.2.2.2.2.2 (by decide)) dX8_meet_100 ?_
      refine lv_iload_n X.1 X.2.1 dX8_meet_103 rfl (lv_at hl 1 rfl) ?_
      obtain ⟨r2, S1, hS1, hf⟩ := bn2_ok hf
      refine r_callV (As := [.int x3]) (rest := []) (st1 := [va_rf (Option.map (B + ·) r2)]) (κ := 7) X hw (c_X6_winnerOf l D B cy A ad av x3 hw.2.2.2.2.1 hw.2.2.2.2.2 hS1) ⟨rfl, rfl, Nat.le_of_ble_eq_true rfl, Nat.le_of_ble_eq_true rfl⟩ rfl (by decide) (hCk hw.2.2.2.2.2 7 (by decide) rfl) tw_945 tw_946 tw_947 tw_27 tw_948 hd_X6_winnerOf rfl hl.1 rfl (Nat.le_of_ble_eq_true rfl) dX8_meet_104 ⟨Nat.le_of_ble_eq_true rfl, Nat.le_of_ble_eq_true rfl⟩ rfl (fun H locs hw => ?_)
      refine r_astoreO (lv' := [(4, va_rf (Option.map (B + ·) r2)), (0, .ref (B + 0)), (3, .int x3)]) X.1 X.2.1 dX8_meet_107 hl (by decide) rfl (fun ls hl => ?_)
      refine lv_aload_n X.1 X.2.1 dX8_meet_109 rfl (lv_at hl 1 rfl) ?_
      refine r_getF X hw (κ := 9) rfl inlX8 5 (by decide) rfl (by decide) tw_28 (hCk hw.2.2.2.2.2 0 (by decide) rfl) (hCr (c := 0) (k := 5) (d := 7) hw.2.2.2.2.2 (by decide)) dX8_meet_110 ?_
      refine lv_iload_n X.1 X.2.1 dX8_meet_113 rfl (lv_at hl 2 rfl) ?_
      obtain ⟨r4, S3, hS3, hf⟩ := bn2_ok hf
      refine r_callV (As := [.int x3]) (rest := []) (st1 := [.int r4]) (κ := 7) X hw (c_X6_linesOf l D B cy A ad av x3 hw.2.2.2.2.1 hw.2.2.2.2.2 hS3) ⟨rfl, rfl, Nat.le_of_ble_eq_true rfl, Nat.le_of_ble_eq_true rfl⟩ rfl (by decide) (hCk hw.2.2.2.2.2 7 (by decide) rfl) tw_949 tw_950 tw_951 tw_27 tw_952 hd_X6_linesOf rfl hl.1 rfl (Nat.le_of_ble_eq_true rfl) dX8_meet_114 ⟨Nat.le_of_ble_eq_true rfl, Nat.le_of_ble_eq_true rfl⟩ rfl (fun H locs hw => ?_)
      refine lv_istore (lv' := [(5, .int r4), (4, va_rf (Option.map (B + ·) r2)), (0, .ref (B + 0)), (3, .int x3)]) X.1 X.2.1 dX8_meet_117 hl (by decide) (by cases r2 <;> rfl) (fun ls hl => ?_)
      refine r_aloadO X.1 X.2.1 dX8_meet_119 (lv_at hl 1 rfl) ?_
      refine r_ifnull (tgt := 161) X.1 X.2.1 dX8_meet_121 (by decide) (fun hq => ?_) (fun c5 hq => ?_)
      · replace hf := cs_nk hq hf
        exact w_X8_meet_161 X (fn_X8_meet_92 n) ih _ _ _ _ _ hf hw (lv_sub hl [2, 3] rfl)
      · replace hf := cs_sk hq hf
        refine lv_iload X.1 X.2.1 dX8_meet_124 (lv_at hl 0 rfl) ?_
        refine lv_iconst (v := 1) X.1 X.2.1 dX8_meet_126 (by decide) ?_
        refine lv_icmp_le (tgt := 161) X.1 X.2.1 dX8_meet_127 (by decide) (fun hq => ?_) (fun hq => ?_)
        · replace hf := cd_tk hq hf
          exact w_X8_meet_161 X (fn_X8_meet_92 n) ih _ _ _ _ _ hf hw (lv_sub hl [2, 3] rfl)
        · replace hf := cd_fk hq hf
          refine lv_aload_n X.1 X.2.1 dX8_meet_130 rfl (lv_at hl 2 rfl) ?_
          refine r_getF X hw (κ := 9) rfl inlX8 10 (by decide) rfl (by decide) tw_40 (hCk hw.2.2.2.2.2 0 (by decide) rfl) (hCr (c := 0) (k := 10) (d := 20) hw.2.2.2.2.2 (by decide)) dX8_meet_131 ?_
          refine r_aloadO X.1 X.2.1 dX8_meet_134 (lv_at hl 1 rfl) ?_
          obtain ⟨c6, ec6, hf⟩ := bn_ok hf
          rw [ec6]
          obtain ⟨g7, hf⟩ := gd_ok hf
          refine r_getI X hw (κ := 3) rfl inlX2 0 (by decide) rfl (by decide) tw_941 g7 dX8_meet_136 ?_
          refine lv_i2l X.1 X.2.1 dX8_meet_139 rfl ?_
          refine r_aloadO X.1 X.2.1 dX8_meet_140 (lv_at hl 1 rfl) ?_
          obtain ⟨c8, ec8, hf⟩ := bn_ok hf
          rw [ec8]
          obtain ⟨g9, hf⟩ := gd_ok hf
          refine r_getI X hw (κ := 3) rfl inlX2 4 (by decide) rfl (by decide) tw_942 g9 dX8_meet_142 ?_
          refine lv_i2l X.1 X.2.1 dX8_meet_145 rfl ?_
          refine lv_aload_n X.1 X.2.1 dX8_meet_146 rfl (lv_at hl 2 rfl) ?_
          refine r_getF X hw (κ := 9) rfl inlX8 5 (by decide) rfl (by decide) tw_28 (hCk hw.2.2.2.2.2 0 (by decide) rfl) (hCr (c := 0) (k := 5) (d := 7) hw.2.2.2.2.2 (by decide)) dX8_meet_147 ?_
          refine lv_iload_n X.1 X.2.1 dX8_meet_150 rfl (lv_at hl 3 rfl) ?_
          obtain ⟨r11, S10, hS10, hf⟩ := bn2_ok hf
          refine r_callV (As := [.int x3]) (rest := [.long ((gI S3 c8 4 : Int32).toInt64), .long ((gI S3 c6 0 : Int32).toInt64), .ref (B + 20)]) (st1 := [.int r11, .long ((gI S3 c8 4 : Int32).toInt64), .long ((gI S3 c6 0 : Int32).toInt64), .ref (B + 20)]) (κ := 7) X hw (c_X6_agreementOf l D B cy A ad av x3 hw.2.2.2.2.1 hw.2.2.2.2.2 hS10) ⟨rfl, rfl, Nat.le_of_ble_eq_true rfl, Nat.le_of_ble_eq_true rfl⟩ rfl (by decide) (hCk hw.2.2.2.2.2 7 (by decide) rfl) tw_953 tw_954 tw_955 tw_27 tw_956 hd_X6_agreementOf rfl hl.1 rfl (Nat.le_of_ble_eq_true rfl) dX8_meet_151 ⟨Nat.le_of_ble_eq_true rfl, Nat.le_of_ble_eq_true rfl⟩ rfl (fun H locs hw => ?_)
          refine lv_i2l X.1 X.2.1 dX8_meet_154 rfl ?_
          refine lv_iload X.1 X.2.1 dX8_meet_155 (lv_at hl 0 rfl) ?_
          refine lv_i2l X.1 X.2.1 dX8_meet_157 rfl ?_
          obtain ⟨S12, hS12, hf⟩ := bn_ok hf
          refine r_callV (As := [.long ((gI S3 c6 0 : Int32).toInt64), .long ((gI S3 c8 4 : Int32).toInt64), .long (r11.toInt64), .long (r4.toInt64)]) (rest := []) (st1 := []) (κ := 6) X hw (c_X5_add l D B cy A ad av 20 ((gI S3 c6 0 : Int32).toInt64) ((gI S3 c8 4 : Int32).toInt64) (r11.toInt64) (r4.toInt64) hw.2.2.2.2.1 hw.2.2.2.2.2 hS12) ⟨rfl, rfl, Nat.le_of_ble_eq_true rfl, Nat.le_of_ble_eq_true rfl⟩ rfl (by decide) (hCk hw.2.2.2.2.2 20 (by decide) rfl) tw_852 tw_853 tw_854 tw_37 tw_855 hd_X5_add rfl hl.1 rfl (Nat.le_of_ble_eq_true rfl) dX8_meet_158 ⟨Nat.le_of_ble_eq_true rfl, Nat.le_of_ble_eq_true rfl⟩ rfl (fun H locs hw => ?_)
          exact w_X8_meet_161 X (fn_X8_meet_92 n) ih _ _ _ _ _ hf hw (lv_sub hl [2, 3] rfl)
set_option maxHeartbeats 4000000 in
theorem w_X8_meet_77 {p : Program} {l : Launch} {e : Env} {s : State} {m : MethodId} {args : Array Value} {below : List Frame} {meth : Method} {c : Code} {D : va_G} {B : Nat} {cy : Nat → ClassId} {A : Nat → Prop} {ad av : Nat → Nat} {rv : Int32} {Z : HS} (X : hCX p s m args meth c RX8 cX8_meet 6 (some .int) D cy A ad av) (k26 : Int32 → Int32 → Int32 → HS → Option (Int32 × HS)) (hk26 : ∀ (x1 : Int32) (x2 : Int32) (x3 : Int32) (S : HS) (H : Heap) (locs : List Loc) (ls : Array Slot), k26 x1 x2 x3 S = some (rv, Z) → hWd D B cy A true hC S s.heap H locs → lv_has ls 6 [(0, .ref (B + 0)), (1, .int x1), (2, .int x2), (3, .int x3)] → W p l e ({ frames := 4, cells := 0, slots := 0, locals := 88 } : Room) s m args below meth c H locs 0 0 (MQ below (hQo D B cy A true hC Z (some (.int rv))) args s 0 0 A) (F0 m 26 ls [])) (x1 : Int32) (x2 : Int32) (x3 : Int32) (S : HS) (H : Heap) (locs : List Loc) (ls : Array Slot) (hf : fn_X8_meet_77 k26 x1 x2 x3 S = some (rv, Z)) (hw : hWd D B cy A true hC S s.heap H locs) (hl : lv_has ls 6 [(0, .ref (B + 0)), (1, .int x1), (2, .int x2), (3, .int x3)]) : W p l e ({ frames := 4, cells := 0, slots := 0, locals := 88 } : Room) s m args below meth c H locs 0 0 (MQ below (hQo D B cy A true hC Z (some (.int rv))) args s 0 0 A) (F0 m 77 ls []) := by
  unfold fn_X8_meet_77 at hf
  obtain ⟨v1, ev1, hf⟩ := bn_ok hf
  replace ev1 := Option.some.inj ev1
  refine lv_iinc (v := v1) (lv' := [(3, .int v1), (0, .ref (B + 0)), (1, .int x1), (2, .int x2)]) X.1 X.2.1 dX8_meet_77 hl (k := 3) rfl ev1 (by decide) rfl (fun ls hl => ?_)
  refine lv_goto (tgt := 26) X.1 X.2.1 dX8_meet_80 (by decide) ?_
  exact hk26 _ _ _ _ _ _ _ hf hw (lv_sub hl [1, 2, 3, 0] rfl)
set_option maxHeartbeats 4000000 in
theorem w_X8_meet_26 {p : Program} {l : Launch} {e : Env} {s : State} {m : MethodId} {args : Array Value} {below : List Frame} {meth : Method} {c : Code} {D : va_G} {B : Nat} {cy : Nat → ClassId} {A : Nat → Prop} {ad av : Nat → Nat} {rv : Int32} {Z : HS} (X : hCX p s m args meth c RX8 cX8_meet 6 (some .int) D cy A ad av)  : ∀ (n : Nat) (x1 : Int32) (x2 : Int32) (x3 : Int32) (S : HS) (H : Heap) (locs : List Loc) (ls : Array Slot), fn_X8_meet_26 n x1 x2 x3 S = some (rv, Z) → hWd D B cy A true hC S s.heap H locs → lv_has ls 6 [(0, .ref (B + 0)), (1, .int x1), (2, .int x2), (3, .int x3)] → W p l e ({ frames := 4, cells := 0, slots := 0, locals := 88 } : Room) s m args below meth c H locs 0 0 (MQ below (hQo D B cy A true hC Z (some (.int rv))) args s 0 0 A) (F0 m 26 ls []) := by
  intro n
  induction n with
  | zero =>
    intro x1 x2 x3 S H locs ls hf
    cases hf
  | succ n ih =>
    intro x1 x2 x3 S H locs ls hf hw hl
    rw [fn_X8_meet_26] at hf
    refine lv_iload_n X.1 X.2.1 dX8_meet_26 rfl (lv_at hl 3 rfl) ?_
    refine lv_aload_n X.1 X.2.1 dX8_meet_27 rfl (lv_at hl 0 rfl) ?_
    refine r_getF X hw (κ := 9) rfl inlX8 2 (by decide) rfl (by decide) tw_21 (hCk hw.2.2.2.2.2 0 (by decide) rfl) (hCr (c := 0) (k := 2) (d := 4) hw.2.2.2.2.2 (by decide)) dX8_meet_28 ?_
    obtain ⟨r2, S1, hS1, hf⟩ := bn2_ok hf
    refine r_callV (As := []) (rest := [.int x3]) (st1 := [.int r2, .int x3]) (κ := 0) X hw (c_Jl_size l D B cy A ad av _ _ 4 hw.2.2.2.2.1 hw.2.2.2.2.2 hS1) ⟨rfl, rfl, Nat.le_of_ble_eq_true rfl, Nat.le_of_ble_eq_true rfl⟩ rfl (by decide) (hCk hw.2.2.2.2.2 4 (by decide) rfl) tw_174 tw_175 tw_176 tw_20 tw_177 hd_Jl_size rfl hl.1 rfl (Nat.le_of_ble_eq_true rfl) dX8_meet_31 ⟨Nat.le_of_ble_eq_true rfl, Nat.le_of_ble_eq_true rfl⟩ rfl (fun H locs hw => ?_)
    refine lv_icmp_ge (tgt := 83) X.1 X.2.1 dX8_meet_34 (by decide) (fun hq => ?_) (fun hq => ?_)
    · replace hf := cd_tk hq hf
      refine lv_aload_n X.1 X.2.1 dX8_meet_83 rfl (lv_at hl 0 rfl) ?_
      refine r_getF X hw (κ := 9) rfl inlX8 10 (by decide) rfl (by decide) tw_40 (hCk hw.2.2.2.2.2 0 (by decide) rfl) (hCr (c := 0) (k := 10) (d := 20) hw.2.2.2.2.2 (by decide)) dX8_meet_84 ?_
      obtain ⟨S3, hS3, hf⟩ := bn_ok hf
      refine r_callV (As := []) (rest := []) (st1 := []) (κ := 6) X hw (c_X5_clear l D B cy A ad av 20 hw.2.2.2.2.1 hw.2.2.2.2.2 hS3) ⟨rfl, rfl, Nat.le_of_ble_eq_true rfl, Nat.le_of_ble_eq_true rfl⟩ rfl (by decide) (hCk hw.2.2.2.2.2 20 (by decide) rfl) tw_843 tw_844 tw_845 tw_37 tw_846 hd_X5_clear rfl hl.1 rfl (Nat.le_of_ble_eq_true rfl) dX8_meet_87 ⟨Nat.le_of_ble_eq_true rfl, Nat.le_of_ble_eq_true rfl⟩ rfl (fun H locs hw => ?_)
      refine lv_iconst (v := 0) X.1 X.2.1 dX8_meet_90 (by decide) ?_
      refine lv_istore_n (lv' := [(3, .int 0), (0, .ref (B + 0)), (1, .int x1), (2, .int x2)]) X.1 X.2.1 dX8_meet_91 rfl hl (by decide) rfl (fun ls hl => ?_)
      exact w_X8_meet_92 X  _ _ _ _ _ _ hf hw (lv_sub hl [1, 0] rfl)
    · replace hf := cd_fk hq hf
      refine lv_aload_n X.1 X.2.1 dX8_meet_37 rfl (lv_at hl 0 rfl) ?_
      refine r_getF X hw (κ := 9) rfl inlX8 2 (by decide) rfl (by decide) tw_21 (hCk hw.2.2.2.2.2 0 (by decide) rfl) (hCr (c := 0) (k := 2) (d := 4) hw.2.2.2.2.2 (by decide)) dX8_meet_38 ?_
      refine lv_iload_n X.1 X.2.1 dX8_meet_41 rfl (lv_at hl 3 rfl) ?_
      obtain ⟨r5, S4, hS4, hf⟩ := bn2_ok hf
      refine r_callV (As := [.int x3]) (rest := []) (st1 := [va_rf (Option.map (B + ·) r5)]) (κ := 0) X hw (c_Jl_get l D B cy A ad av _ _ 4 x3 hw.2.2.2.2.1 hw.2.2.2.2.2 hS4) ⟨rfl, rfl, Nat.le_of_ble_eq_true rfl, Nat.le_of_ble_eq_true rfl⟩ rfl (by decide) (hCk hw.2.2.2.2.2 4 (by decide) rfl) tw_419 tw_420 tw_421 tw_20 tw_422 hd_Jl_get rfl hl.1 rfl (Nat.le_of_ble_eq_true rfl) dX8_meet_42 ⟨Nat.le_of_ble_eq_true rfl, Nat.le_of_ble_eq_true rfl⟩ rfl (fun H locs hw => ?_)
      obtain ⟨c6, ec6, hf⟩ := bn_ok hf
      rw [ec6]
      obtain ⟨g7, hf⟩ := gd_ok hf
      refine r_cast X hw (κ := 1) rfl (by decide) tw_165 g7 dX8_meet_45 ?_
      refine lv_astore (lv' := [(4, .ref (B + c6)), (0, .ref (B + 0)), (1, .int x1), (2, .int x2), (3, .int x3)]) X.1 X.2.1 dX8_meet_48 hl (by decide) rfl (fun ls hl => ?_)
      refine lv_aload X.1 X.2.1 dX8_meet_50 (lv_at hl 0 rfl) ?_
      obtain ⟨g8, hf⟩ := gd_ok hf
      refine r_getI X hw (κ := 1) rfl inlX0 1 (by decide) rfl (by decide) tw_418 g8 dX8_meet_52 ?_
      refine lv_iload_n X.1 X.2.1 dX8_meet_55 rfl (lv_at hl 2 rfl) ?_
      refine lv_icmp_gt (tgt := 77) X.1 X.2.1 dX8_meet_56 (by decide) (fun hq => ?_) (fun hq => ?_)
      · replace hf := cd_tk hq hf
        exact w_X8_meet_77 X (fn_X8_meet_26 n) ih _ _ _ _ _ _ _ hf hw (lv_sub hl [1, 2, 3, 4] rfl)
      · replace hf := cd_fk hq hf
        refine lv_aload X.1 X.2.1 dX8_meet_59 (lv_at hl 0 rfl) ?_
        obtain ⟨g9, hf⟩ := gd_ok hf
        refine r_getI X hw (κ := 1) rfl inlX0 2 (by decide) rfl (by decide) tw_940 g9 dX8_meet_61 ?_
        refine lv_iload_n X.1 X.2.1 dX8_meet_64 rfl (lv_at hl 3 rfl) ?_
        refine lv_icmp_gt (tgt := 77) X.1 X.2.1 dX8_meet_65 (by decide) (fun hq => ?_) (fun hq => ?_)
        · replace hf := cd_tk hq hf
          exact w_X8_meet_77 X (fn_X8_meet_26 n) ih _ _ _ _ _ _ _ hf hw (lv_sub hl [1, 2, 3, 4] rfl)
        · replace hf := cd_fk hq hf
          refine lv_aload_n X.1 X.2.1 dX8_meet_68 rfl (lv_at hl 1 rfl) ?_
          refine r_getF X hw (κ := 9) rfl inlX8 5 (by decide) rfl (by decide) tw_28 (hCk hw.2.2.2.2.2 0 (by decide) rfl) (hCr (c := 0) (k := 5) (d := 7) hw.2.2.2.2.2 (by decide)) dX8_meet_69 ?_
          refine lv_aload X.1 X.2.1 dX8_meet_72 (lv_at hl 0 rfl) ?_
          obtain ⟨S10, hS10, hf⟩ := bn_ok hf
          refine r_callV (As := [.ref (B + c6)]) (rest := []) (st1 := []) (κ := 7) X hw (c_X6_take l D B cy A ad av c6 hw.2.2.2.2.1 hw.2.2.2.2.2 hS10) ⟨rfl, rfl, Nat.le_of_ble_eq_true rfl, Nat.le_of_ble_eq_true rfl⟩ rfl (by decide) (hCk hw.2.2.2.2.2 7 (by decide) rfl) tw_944 tw_624 tw_625 tw_27 tw_626 hd_X6_take rfl hl.1 rfl (Nat.le_of_ble_eq_true rfl) dX8_meet_74 ⟨Nat.le_of_ble_eq_true rfl, Nat.le_of_ble_eq_true rfl⟩ rfl (fun H locs hw => ?_)
          exact w_X8_meet_77 X (fn_X8_meet_26 n) ih _ _ _ _ _ _ _ hf hw (lv_sub hl [1, 2, 3, 4] rfl)
set_option maxHeartbeats 4000000 in
theorem w_X8_meet_15 {p : Program} {l : Launch} {e : Env} {s : State} {m : MethodId} {args : Array Value} {below : List Frame} {meth : Method} {c : Code} {D : va_G} {B : Nat} {cy : Nat → ClassId} {A : Nat → Prop} {ad av : Nat → Nat} {rv : Int32} {Z : HS} (X : hCX p s m args meth c RX8 cX8_meet 6 (some .int) D cy A ad av)   (S : HS) (H : Heap) (locs : List Loc) (ls : Array Slot) (hf : fn_X8_meet_15 S = some (rv, Z)) (hw : hWd D B cy A true hC S s.heap H locs) (hl : lv_has ls 6 []) : W p l e ({ frames := 4, cells := 0, slots := 0, locals := 88 } : Room) s m args below meth c H locs 0 0 (MQ below (hQo D B cy A true hC Z (some (.int rv))) args s 0 0 A) (F0 m 15 ls []) := by
  unfold fn_X8_meet_15 at hf
  refine lv_iconst (v := (-1)) X.1 X.2.1 dX8_meet_15 (by decide) ?_
  cases hf
  exact r_iret X hw dX8_meet_16
theorem hd_X8_meet : yX8_meet.cls = RX8 ∧ yX8_meet.cls ≠ "java/lang/invoke/MethodHandle" ∧ yX8_meet.cls ≠ "java/lang/invoke/VarHandle" ∧ (parseMethodDescriptor yX8_meet.desc).map (fun d => d.parameters.length) = some 2 := by decide +kernel
set_option maxHeartbeats 4000000 in
theorem c_X8_meet (l : Launch) (D : va_G) (B : Nat) (cy : Nat → ClassId) (A : Nat → Prop) (ad av : Nat → Nat) (x1 : Int32) (x2 : Int32) {S Z : HS} {rv : Int32} (hfr : hFr S) (hG : hC S) (hf : fn_X8_meet x1 x2 S = some (rv, Z)) : hMet l yX8_meet cX8_meet 6 (some .int) ({ frames := 4, cells := 0, slots := 0, locals := 88 } : Room) D B cy A ad av true hC [.ref (B + 0), .int x1, .int x2] S Z (some (.int rv)) 0 0 := by
  refine h_entry (by decide) hfr hG ?_
  intro p e s m below meth c args X hnm hw
  have hl := lv_entry ([.ref (B + 0), .int x1, .int x2]) (n := 6) (Nat.le_of_ble_eq_true rfl)
  rw [lg_entry_eq]
  generalize (lg_sl ([.ref (B + 0), .int x1, .int x2]) ++ List.replicate (6 - (lg_sl ([.ref (B + 0), .int x1, .int x2])).length) Slot.unset).toArray = ls at hl ⊢
  have hl : lv_has ls 6 [(0, .ref (B + 0)), (1, .int x1), (2, .int x2)] := hl
  unfold fn_X8_meet at hf
  refine lv_iload_n X.1 X.2.1 dX8_meet_0 rfl (lv_at hl 1 rfl) ?_
  obtain ⟨r2, S1, hS1, hf⟩ := bn2_ok hf
  refine r_callS (As := [.int x1]) (rest := []) (st1 := [.int r2]) X hw (c_X8_isDay l D B cy A ad av x1 hw.2.2.2.2.1 hw.2.2.2.2.2 hS1) ⟨rfl, rfl, Nat.le_of_ble_eq_true rfl, Nat.le_of_ble_eq_true rfl⟩ tw_171 tw_172 tw_2 tw_173 hd_X8_isDay rfl hl.1 rfl (Nat.le_of_ble_eq_true rfl) dX8_meet_1 ⟨Nat.le_of_ble_eq_true rfl, Nat.le_of_ble_eq_true rfl⟩ rfl (fun H locs hw => ?_)
  refine lv_if_eq (tgt := 15) X.1 X.2.1 dX8_meet_4 (by decide) (fun hq => ?_) (fun hq => ?_)
  · replace hf := cd_tk hq hf
    exact w_X8_meet_15 X  _ _ _ _ hf hw (lv_sub hl [] rfl)
  · replace hf := cd_fk hq hf
    refine lv_aload_n X.1 X.2.1 dX8_meet_7 rfl (lv_at hl 0 rfl) ?_
    refine lv_iload_n X.1 X.2.1 dX8_meet_8 rfl (lv_at hl 2 rfl) ?_
    obtain ⟨r4, S3, hS3, hf⟩ := bn2_ok hf
    refine r_callV (As := [.int x2]) (rest := []) (st1 := [.int r4]) (κ := 9) X hw (c_X8_isKnown l D B cy A ad av x2 hw.2.2.2.2.1 hw.2.2.2.2.2 hS3) ⟨rfl, rfl, Nat.le_of_ble_eq_true rfl, Nat.le_of_ble_eq_true rfl⟩ rfl (by decide) (hCk hw.2.2.2.2.2 0 (by decide) rfl) tw_584 tw_585 tw_586 tw_2 tw_587 hd_X8_isKnown rfl hl.1 rfl (Nat.le_of_ble_eq_true rfl) dX8_meet_9 ⟨Nat.le_of_ble_eq_true rfl, Nat.le_of_ble_eq_true rfl⟩ rfl (fun H locs hw => ?_)
    refine lv_if_ne (tgt := 17) X.1 X.2.1 dX8_meet_12 (by decide) (fun hq => ?_) (fun hq => ?_)
    · replace hf := cd_fk hq hf
      refine lv_aload_n X.1 X.2.1 dX8_meet_17 rfl (lv_at hl 0 rfl) ?_
      refine r_getF X hw (κ := 9) rfl inlX8 5 (by decide) rfl (by decide) tw_28 (hCk hw.2.2.2.2.2 0 (by decide) rfl) (hCr (c := 0) (k := 5) (d := 7) hw.2.2.2.2.2 (by decide)) dX8_meet_18 ?_
      obtain ⟨S5, hS5, hf⟩ := bn_ok hf
      refine r_callV (As := []) (rest := []) (st1 := []) (κ := 7) X hw (c_X6_clear l D B cy A ad av  hw.2.2.2.2.1 hw.2.2.2.2.2 hS5) ⟨rfl, rfl, Nat.le_of_ble_eq_true rfl, Nat.le_of_ble_eq_true rfl⟩ rfl (by decide) (hCk hw.2.2.2.2.2 7 (by decide) rfl) tw_943 tw_603 tw_604 tw_27 tw_605 hd_X6_clear rfl hl.1 rfl (Nat.le_of_ble_eq_true rfl) dX8_meet_21 ⟨Nat.le_of_ble_eq_true rfl, Nat.le_of_ble_eq_true rfl⟩ rfl (fun H locs hw => ?_)
      refine lv_iconst (v := 0) X.1 X.2.1 dX8_meet_24 (by decide) ?_
      refine lv_istore_n (lv' := [(3, .int 0), (0, .ref (B + 0)), (1, .int x1), (2, .int x2)]) X.1 X.2.1 dX8_meet_25 rfl hl (by decide) rfl (fun ls hl => ?_)
      exact w_X8_meet_26 X  _ _ _ _ _ _ _ _ hf hw (lv_sub hl [1, 2, 3, 0] rfl)
    · replace hf := cd_tk hq hf
      exact w_X8_meet_15 X  _ _ _ _ hf hw (lv_sub hl [] rfl)
theorem hd_X8_met : yX8_met.cls = RX8 ∧ yX8_met.cls ≠ "java/lang/invoke/MethodHandle" ∧ yX8_met.cls ≠ "java/lang/invoke/VarHandle" ∧ (parseMethodDescriptor yX8_met.desc).map (fun d => d.parameters.length) = some 2 := by decide +kernel
set_option maxHeartbeats 4000000 in
theorem c_X8_met (l : Launch) (D : va_G) (B : Nat) (cy : Nat → ClassId) (A : Nat → Prop) (ad av : Nat → Nat) (x1 : Int32) (x2 : Int32) {S Z : HS} {rv : Int32} (hfr : hFr S) (hG : hC S) (hf : fn_X8_met x1 x2 S = some (rv, Z)) : hMet l yX8_met cX8_met 3 (some .int) ({ frames := 1, cells := 0, slots := 0, locals := 23 } : Room) D B cy A ad av true hC [.ref (B + 0), .int x1, .int x2] S Z (some (.int rv)) 0 0 := by
  refine h_entry (by decide) hfr hG ?_
  intro p e s m below meth c args X hnm hw
  have hl := lv_entry ([.ref (B + 0), .int x1, .int x2]) (n := 3) (Nat.le_of_ble_eq_true rfl)
  rw [lg_entry_eq]
  generalize (lg_sl ([.ref (B + 0), .int x1, .int x2]) ++ List.replicate (3 - (lg_sl ([.ref (B + 0), .int x1, .int x2])).length) Slot.unset).toArray = ls at hl ⊢
  have hl : lv_has ls 3 [(0, .ref (B + 0)), (1, .int x1), (2, .int x2)] := hl
  unfold fn_X8_met at hf
  refine lv_aload_n X.1 X.2.1 dX8_met_0 rfl (lv_at hl 0 rfl) ?_
  refine r_getF X hw (κ := 9) rfl inlX8 10 (by decide) rfl (by decide) tw_40 (hCk hw.2.2.2.2.2 0 (by decide) rfl) (hCr (c := 0) (k := 10) (d := 20) hw.2.2.2.2.2 (by decide)) dX8_met_1 ?_
  refine lv_iload_n X.1 X.2.1 dX8_met_4 rfl (lv_at hl 1 rfl) ?_
  refine lv_iload_n X.1 X.2.1 dX8_met_5 rfl (lv_at hl 2 rfl) ?_
  obtain ⟨r2, S1, hS1, hf⟩ := bn2_ok hf
  refine r_callV (As := [.int x1, .int x2]) (rest := []) (st1 := [.long r2]) (κ := 6) X hw (c_X5_cell l D B cy A ad av 20 x1 x2 hw.2.2.2.2.1 hw.2.2.2.2.2 hS1) ⟨rfl, rfl, Nat.le_of_ble_eq_true rfl, Nat.le_of_ble_eq_true rfl⟩ rfl (by decide) (hCk hw.2.2.2.2.2 20 (by decide) rfl) tw_870 tw_871 tw_872 tw_37 tw_873 hd_X5_cell rfl hl.1 rfl (Nat.le_of_ble_eq_true rfl) dX8_met_6 ⟨Nat.le_of_ble_eq_true rfl, Nat.le_of_ble_eq_true rfl⟩ rfl (fun H locs hw => ?_)
  refine lv_l2i X.1 X.2.1 dX8_met_9 rfl ?_
  cases hf
  exact r_iret X hw dX8_met_10
theorem hd_X8_count : yX8_count.cls = RX8 ∧ yX8_count.cls ≠ "java/lang/invoke/MethodHandle" ∧ yX8_count.cls ≠ "java/lang/invoke/VarHandle" ∧ (parseMethodDescriptor yX8_count.desc).map (fun d => d.parameters.length) = some 1 := by decide +kernel
set_option maxHeartbeats 4000000 in
theorem c_X8_count (l : Launch) (D : va_G) (B : Nat) (cy : Nat → ClassId) (A : Nat → Prop) (ad av : Nat → Nat) (x1 : Int32) {S Z : HS} {rv : Int32} (hfr : hFr S) (hG : hC S) (hf : fn_X8_count x1 S = some (rv, Z)) : hMet l yX8_count cX8_count 2 (some .int) ({ frames := 1, cells := 0, slots := 0, locals := 20 } : Room) D B cy A ad av true hC [.ref (B + 0), .int x1] S Z (some (.int rv)) 0 0 := by
  refine h_entry (by decide) hfr hG ?_
  intro p e s m below meth c args X hnm hw
  have hl := lv_entry ([.ref (B + 0), .int x1]) (n := 2) (Nat.le_of_ble_eq_true rfl)
  rw [lg_entry_eq]
  generalize (lg_sl ([.ref (B + 0), .int x1]) ++ List.replicate (2 - (lg_sl ([.ref (B + 0), .int x1])).length) Slot.unset).toArray = ls at hl ⊢
  have hl : lv_has ls 2 [(0, .ref (B + 0)), (1, .int x1)] := hl
  unfold fn_X8_count at hf
  refine lv_iload_n X.1 X.2.1 dX8_count_0 rfl (lv_at hl 1 rfl) ?_
  by_cases hq0 : x1 = 0
  · replace hf := cd_tk hq0 hf
    refine lv_tableIn (off := 43) (tgt := 44) X.1 X.2.1 dX8_count_1 (by rw [hq0]; decide) (by rw [hq0]; decide) (by rw [hq0]; rfl) (by decide) ?_
    refine lv_aload_n X.1 X.2.1 dX8_count_44 rfl (lv_at hl 0 rfl) ?_
    refine r_getI X hw (κ := 9) rfl inlX8 13 (by decide) rfl (by decide) tw_168 (hCk hw.2.2.2.2.2 0 (by decide) rfl) dX8_count_45 ?_
    cases hf
    exact r_iret X hw dX8_count_48
  · replace hf := cd_fk hq0 hf
    by_cases hq1 : x1 = 1
    · replace hf := cd_tk hq1 hf
      refine lv_tableIn (off := 48) (tgt := 49) X.1 X.2.1 dX8_count_1 (by rw [hq1]; decide) (by rw [hq1]; decide) (by rw [hq1]; rfl) (by decide) ?_
      refine lv_aload_n X.1 X.2.1 dX8_count_49 rfl (lv_at hl 0 rfl) ?_
      refine r_getF X hw (κ := 9) rfl inlX8 2 (by decide) rfl (by decide) tw_21 (hCk hw.2.2.2.2.2 0 (by decide) rfl) (hCr (c := 0) (k := 2) (d := 4) hw.2.2.2.2.2 (by decide)) dX8_count_50 ?_
      obtain ⟨r2, S1, hS1, hf⟩ := bn2_ok hf
      refine r_callV (As := []) (rest := []) (st1 := [.int r2]) (κ := 0) X hw (c_Jl_size l D B cy A ad av _ _ 4 hw.2.2.2.2.1 hw.2.2.2.2.2 hS1) ⟨rfl, rfl, Nat.le_of_ble_eq_true rfl, Nat.le_of_ble_eq_true rfl⟩ rfl (by decide) (hCk hw.2.2.2.2.2 4 (by decide) rfl) tw_174 tw_175 tw_176 tw_20 tw_177 hd_Jl_size rfl hl.1 rfl (Nat.le_of_ble_eq_true rfl) dX8_count_53 ⟨Nat.le_of_ble_eq_true rfl, Nat.le_of_ble_eq_true rfl⟩ rfl (fun H locs hw => ?_)
      cases hf
      exact r_iret X hw dX8_count_56
    · replace hf := cd_fk hq1 hf
      by_cases hq2 : x1 = 2
      · replace hf := cd_tk hq2 hf
        refine lv_tableIn (off := 56) (tgt := 57) X.1 X.2.1 dX8_count_1 (by rw [hq2]; decide) (by rw [hq2]; decide) (by rw [hq2]; rfl) (by decide) ?_
        refine lv_aload_n X.1 X.2.1 dX8_count_57 rfl (lv_at hl 0 rfl) ?_
        refine r_getI X hw (κ := 9) rfl inlX8 16 (by decide) rfl (by decide) tw_533 (hCk hw.2.2.2.2.2 0 (by decide) rfl) dX8_count_58 ?_
        cases hf
        exact r_iret X hw dX8_count_61
      · replace hf := cd_fk hq2 hf
        by_cases hq3 : x1 = 3
        · replace hf := cd_tk hq3 hf
          refine lv_tableIn (off := 61) (tgt := 62) X.1 X.2.1 dX8_count_1 (by rw [hq3]; decide) (by rw [hq3]; decide) (by rw [hq3]; rfl) (by decide) ?_
          refine lv_aload_n X.1 X.2.1 dX8_count_62 rfl (lv_at hl 0 rfl) ?_
          refine r_getF X hw (κ := 9) rfl inlX8 3 (by decide) rfl (by decide) tw_22 (hCk hw.2.2.2.2.2 0 (by decide) rfl) (hCr (c := 0) (k := 3) (d := 5) hw.2.2.2.2.2 (by decide)) dX8_count_63 ?_
          obtain ⟨r4, S3, hS3, hf⟩ := bn2_ok hf
          refine r_callV (As := []) (rest := []) (st1 := [.int r4]) (κ := 0) X hw (c_Jl_size l D B cy A ad av _ _ 5 hw.2.2.2.2.1 hw.2.2.2.2.2 hS3) ⟨rfl, rfl, Nat.le_of_ble_eq_true rfl, Nat.le_of_ble_eq_true rfl⟩ rfl (by decide) (hCk hw.2.2.2.2.2 5 (by decide) rfl) tw_174 tw_175 tw_176 tw_20 tw_177 hd_Jl_size rfl hl.1 rfl (Nat.le_of_ble_eq_true rfl) dX8_count_66 ⟨Nat.le_of_ble_eq_true rfl, Nat.le_of_ble_eq_true rfl⟩ rfl (fun H locs hw => ?_)
          cases hf
          exact r_iret X hw dX8_count_69
        · replace hf := cd_fk hq3 hf
          by_cases hq4 : x1 = 4
          · replace hf := cd_tk hq4 hf
            refine lv_tableIn (off := 69) (tgt := 70) X.1 X.2.1 dX8_count_1 (by rw [hq4]; decide) (by rw [hq4]; decide) (by rw [hq4]; rfl) (by decide) ?_
            refine lv_aload_n X.1 X.2.1 dX8_count_70 rfl (lv_at hl 0 rfl) ?_
            refine r_getI X hw (κ := 9) rfl inlX8 15 (by decide) rfl (by decide) tw_169 (hCk hw.2.2.2.2.2 0 (by decide) rfl) dX8_count_71 ?_
            cases hf
            exact r_iret X hw dX8_count_74
          · replace hf := cd_fk hq4 hf
            by_cases hq5 : x1 = 5
            · replace hf := cd_tk hq5 hf
              refine lv_tableIn (off := 74) (tgt := 75) X.1 X.2.1 dX8_count_1 (by rw [hq5]; decide) (by rw [hq5]; decide) (by rw [hq5]; rfl) (by decide) ?_
              refine lv_aload_n X.1 X.2.1 dX8_count_75 rfl (lv_at hl 0 rfl) ?_
              refine r_getF X hw (κ := 9) rfl inlX8 8 (by decide) rfl (by decide) tw_38 (hCk hw.2.2.2.2.2 0 (by decide) rfl) (hCr (c := 0) (k := 8) (d := 16) hw.2.2.2.2.2 (by decide)) dX8_count_76 ?_
              refine r_getI X hw (κ := 6) rfl inlX5 2 (by decide) rfl (by decide) tw_842 (hCk hw.2.2.2.2.2 16 (by decide) rfl) dX8_count_79 ?_
              cases hf
              exact r_iret X hw dX8_count_82
            · replace hf := cd_fk hq5 hf
              by_cases hq6 : x1 = 6
              · replace hf := cd_tk hq6 hf
                refine lv_tableIn (off := 82) (tgt := 83) X.1 X.2.1 dX8_count_1 (by rw [hq6]; decide) (by rw [hq6]; decide) (by rw [hq6]; rfl) (by decide) ?_
                refine lv_aload_n X.1 X.2.1 dX8_count_83 rfl (lv_at hl 0 rfl) ?_
                refine r_getI X hw (κ := 9) rfl inlX8 17 (by decide) rfl (by decide) tw_841 (hCk hw.2.2.2.2.2 0 (by decide) rfl) dX8_count_84 ?_
                cases hf
                exact r_iret X hw dX8_count_87
              · replace hf := cd_fk hq6 hf
                have hout : x1.toInt < 0 ∨ 6 < x1.toInt := by
                  have g0 := lv_neT (a := 0) hq0 rfl
                  have g1 := lv_neT (a := 1) hq1 rfl
                  have g2 := lv_neT (a := 2) hq2 rfl
                  have g3 := lv_neT (a := 3) hq3 rfl
                  have g4 := lv_neT (a := 4) hq4 rfl
                  have g5 := lv_neT (a := 5) hq5 rfl
                  have g6 := lv_neT (a := 6) hq6 rfl
                  omega
                refine lv_tableOut (tgt := 88) X.1 X.2.1 dX8_count_1 hout (by decide) ?_
                refine lv_iconst (v := (-1)) X.1 X.2.1 dX8_count_88 (by decide) ?_
                cases hf
                exact r_iret X hw dX8_count_89
