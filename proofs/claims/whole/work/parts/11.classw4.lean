set_option maxHeartbeats 4000000 in
theorem w_X4_begin_22 {p : Program} {l : Launch} {e : Env} {s : State} {m : MethodId} {args : Array Value} {below : List Frame} {meth : Method} {c : Code} {D : va_G} {B : Nat} {cy : Nat → ClassId} {A : Nat → Prop} {ad av : Nat → Nat} {Z : HS} (X : hCX p s m args meth c RX4 cX4_begin 3 none D cy A ad av)  : ∀ (n : Nat) (x2 : Int32) (S : HS) (H : Heap) (locs : List Loc) (ls : Array Slot), fn_X4_begin_22 n x2 S = some Z → hWd D B cy A true hC S s.heap H locs → lv_has ls 3 [(0, .ref (B + 2)), (2, .int x2)] → W p l e ({ frames := 3, cells := 0, slots := 0, locals := 64 } : Room) s m args below meth c H locs 0 0 (MQ below (hQo D B cy A true hC Z none) args s 0 0 A) (F0 m 22 ls []) := by
  intro n
  induction n with
  | zero =>
    intro x2 S H locs ls hf
    cases hf
  | succ n ih =>
    intro x2 S H locs ls hf hw hl
    rw [fn_X4_begin_22] at hf
    refine lv_iload_n X.1 X.2.1 dX4_begin_22 rfl (lv_at hl 1 rfl) ?_
    refine lv_aload_n X.1 X.2.1 dX4_begin_23 rfl (lv_at hl 0 rfl) ?_
    refine r_getF X hw (κ := 5) rfl inlX4 1 (by decide) rfl (by decide) tw_48 (hCk hw.2.2.2.2.2 2 (by decide) rfl) (hCr (c := 2) (k := 1) (d := 3) hw.2.2.2.2.2 (by decide)) dX4_begin_24 ?_
    refine r_alen (κ := 23) X hw (hCk hw.2.2.2.2.2 3 (by decide) rfl) (by decide) (hCn hw.2.2.2.2.2 3 (by decide) rfl) dX4_begin_27 ?_
    refine lv_icmp_ge (tgt := 44) X.1 X.2.1 dX4_begin_28 (by decide) (fun hq => ?_) (fun hq => ?_)
    · replace hf := cd_tk hq hf
      refine lv_aload_n X.1 X.2.1 dX4_begin_44 rfl (lv_at hl 0 rfl) ?_
      obtain ⟨S1, hS1, hf⟩ := bn_ok hf
      refine r_callV (As := []) (rest := []) (st1 := []) (κ := 5) X hw (c_X4_advance l D B cy A ad av  hw.2.2.2.2.1 hw.2.2.2.2.2 hS1) ⟨rfl, rfl, Nat.le_of_ble_eq_true rfl, Nat.le_of_ble_eq_true rfl⟩ rfl (by decide) (hCk hw.2.2.2.2.2 2 (by decide) rfl) tw_194 tw_195 tw_196 tw_16 tw_197 hd_X4_advance rfl hl.1 rfl (Nat.le_of_ble_eq_true rfl) dX4_begin_45 ⟨Nat.le_of_ble_eq_true rfl, Nat.le_of_ble_eq_true rfl⟩ rfl (fun H locs hw => ?_)
      cases hf
      exact r_vret X hw dX4_begin_48
    · replace hf := cd_fk hq hf
      refine lv_aload_n X.1 X.2.1 dX4_begin_31 rfl (lv_at hl 0 rfl) ?_
      refine r_getF X hw (κ := 5) rfl inlX4 1 (by decide) rfl (by decide) tw_48 (hCk hw.2.2.2.2.2 2 (by decide) rfl) (hCr (c := 2) (k := 1) (d := 3) hw.2.2.2.2.2 (by decide)) dX4_begin_32 ?_
      refine lv_iload_n X.1 X.2.1 dX4_begin_35 rfl (lv_at hl 1 rfl) ?_
      refine lv_iconst (v := 0) X.1 X.2.1 dX4_begin_36 (by decide) ?_
      obtain ⟨g2, hf⟩ := gd_ok hf
      obtain ⟨S3, eS3, hf⟩ := bn_ok hf
      replace eS3 := Option.some.inj eS3
      refine r_zast X hw (hCk hw.2.2.2.2.2 3 (by decide) rfl) (hCn hw.2.2.2.2.2 3 (by decide) rfl) g2 (by decide) hw.2.2.2.2.2 dX4_begin_37 (fun H locs hw => ?_)
      rw [eS3] at hw
      obtain ⟨v4, ev4, hf⟩ := bn_ok hf
      replace ev4 := Option.some.inj ev4
      refine lv_iinc (v := v4) (lv' := [(2, .int v4), (0, .ref (B + 2))]) X.1 X.2.1 dX4_begin_38 hl (k := 1) rfl ev4 (by decide) rfl (fun ls hl => ?_)
      refine lv_goto (tgt := 22) X.1 X.2.1 dX4_begin_41 (by decide) ?_
      exact ih _ _ _ _ _ hf hw (lv_sub hl [1, 0] rfl)
theorem hd_X4_begin : yX4_begin.cls = RX4 ∧ yX4_begin.cls ≠ "java/lang/invoke/MethodHandle" ∧ yX4_begin.cls ≠ "java/lang/invoke/VarHandle" ∧ (parseMethodDescriptor yX4_begin.desc).map (fun d => d.parameters.length) = some 1 := by decide +kernel
set_option maxHeartbeats 4000000 in
theorem c_X4_begin (l : Launch) (D : va_G) (B : Nat) (cy : Nat → ClassId) (A : Nat → Prop) (ad av : Nat → Nat) (x1 : Int32) {S Z : HS} (hfr : hFr S) (hG : hC S) (hf : fn_X4_begin x1 S = some Z) : hMet l yX4_begin cX4_begin 3 none ({ frames := 3, cells := 0, slots := 0, locals := 64 } : Room) D B cy A ad av true hC [.ref (B + 2), .int x1] S Z none 0 0 := by
  refine h_entry (by decide) hfr hG ?_
  intro p e s m below meth c args X hnm hw
  have hl := lv_entry ([.ref (B + 2), .int x1]) (n := 3) (Nat.le_of_ble_eq_true rfl)
  rw [lg_entry_eq]
  generalize (lg_sl ([.ref (B + 2), .int x1]) ++ List.replicate (3 - (lg_sl ([.ref (B + 2), .int x1])).length) Slot.unset).toArray = ls at hl ⊢
  have hl : lv_has ls 3 [(0, .ref (B + 2)), (1, .int x1)] := hl
  unfold fn_X4_begin at hf
  refine lv_aload_n X.1 X.2.1 dX4_begin_0 rfl (lv_at hl 0 rfl) ?_
  refine lv_iload_n X.1 X.2.1 dX4_begin_1 rfl (lv_at hl 1 rfl) ?_
  obtain ⟨S1, eS1, hf⟩ := bn_ok hf
  replace eS1 := Option.some.inj eS1
  refine r_putI X hw (κ := 5) rfl inlX4 tyX4 tyX4_ok nmX4 2 (by decide) rfl (by decide) tw_192 (Or.inl rfl) (hCk hw.2.2.2.2.2 2 (by decide) rfl) rfl rfl hw.2.2.2.2.2 dX4_begin_2 (fun H locs hw => ?_)
  rw [eS1] at hw
  refine lv_aload_n X.1 X.2.1 dX4_begin_5 rfl (lv_at hl 0 rfl) ?_
  refine lv_iconst (v := 0) X.1 X.2.1 dX4_begin_6 (by decide) ?_
  obtain ⟨S2, eS2, hf⟩ := bn_ok hf
  replace eS2 := Option.some.inj eS2
  refine r_putI X hw (κ := 5) rfl inlX4 tyX4 tyX4_ok nmX4 4 (by decide) rfl (by decide) tw_193 (Or.inl rfl) (hCk hw.2.2.2.2.2 2 (by decide) rfl) rfl rfl hw.2.2.2.2.2 dX4_begin_7 (fun H locs hw => ?_)
  rw [eS2] at hw
  refine lv_aload_n X.1 X.2.1 dX4_begin_10 rfl (lv_at hl 0 rfl) ?_
  refine lv_iconst (v := 0) X.1 X.2.1 dX4_begin_11 (by decide) ?_
  obtain ⟨S3, eS3, hf⟩ := bn_ok hf
  replace eS3 := Option.some.inj eS3
  refine r_putI X hw (κ := 5) rfl inlX4 tyX4 tyX4_ok nmX4 6 (by decide) rfl (by decide) tw_184 (Or.inl rfl) (hCk hw.2.2.2.2.2 2 (by decide) rfl) rfl rfl hw.2.2.2.2.2 dX4_begin_12 (fun H locs hw => ?_)
  rw [eS3] at hw
  refine lv_aload_n X.1 X.2.1 dX4_begin_15 rfl (lv_at hl 0 rfl) ?_
  refine lv_iconst (v := (-1)) X.1 X.2.1 dX4_begin_16 (by decide) ?_
  obtain ⟨S4, eS4, hf⟩ := bn_ok hf
  replace eS4 := Option.some.inj eS4
  refine r_putI X hw (κ := 5) rfl inlX4 tyX4 tyX4_ok nmX4 7 (by decide) rfl (by decide) tw_49 (Or.inl rfl) (hCk hw.2.2.2.2.2 2 (by decide) rfl) rfl rfl hw.2.2.2.2.2 dX4_begin_17 (fun H locs hw => ?_)
  rw [eS4] at hw
  refine lv_iconst (v := 0) X.1 X.2.1 dX4_begin_20 (by decide) ?_
  refine lv_istore_n (lv' := [(2, .int 0), (0, .ref (B + 2)), (1, .int x1)]) X.1 X.2.1 dX4_begin_21 rfl hl (by decide) rfl (fun ls hl => ?_)
  exact w_X4_begin_22 X  _ _ _ _ _ _ hf hw (lv_sub hl [1, 0] rfl)
theorem hd_X4_takeFirstWord : yX4_takeFirstWord.cls = RX4 ∧ yX4_takeFirstWord.cls ≠ "java/lang/invoke/MethodHandle" ∧ yX4_takeFirstWord.cls ≠ "java/lang/invoke/VarHandle" ∧ (parseMethodDescriptor yX4_takeFirstWord.desc).map (fun d => d.parameters.length) = some 1 := by decide +kernel
set_option maxHeartbeats 4000000 in
theorem c_X4_takeFirstWord (l : Launch) (D : va_G) (B : Nat) (cy : Nat → ClassId) (A : Nat → Prop) (ad av : Nat → Nat) (x1 : Int32) {S Z : HS} {rv : Int32} (hfr : hFr S) (hG : hC S) (hf : fn_X4_takeFirstWord x1 S = some (rv, Z)) : hMet l yX4_takeFirstWord cX4_takeFirstWord 3 (some .int) ({ frames := 6, cells := 0, slots := 0, locals := 128 } : Room) D B cy A ad av true hC [.ref (B + 2), .int x1] S Z (some (.int rv)) 0 0 := by
  refine h_entry (by decide) hfr hG ?_
  intro p e s m below meth c args X hnm hw
  have hl := lv_entry ([.ref (B + 2), .int x1]) (n := 3) (Nat.le_of_ble_eq_true rfl)
  rw [lg_entry_eq]
  generalize (lg_sl ([.ref (B + 2), .int x1]) ++ List.replicate (3 - (lg_sl ([.ref (B + 2), .int x1])).length) Slot.unset).toArray = ls at hl ⊢
  have hl : lv_has ls 3 [(0, .ref (B + 2)), (1, .int x1)] := hl
  unfold fn_X4_takeFirstWord at hf
  refine lv_aload_n X.1 X.2.1 dX4_takeFirstWord_0 rfl (lv_at hl 0 rfl) ?_
  obtain ⟨r2, S1, hS1, hf⟩ := bn2_ok hf
  refine r_callV (As := []) (rest := []) (st1 := [.int r2]) (κ := 5) X hw (c_X4_wordOfToken l D B cy A ad av  hw.2.2.2.2.1 hw.2.2.2.2.2 hS1) ⟨rfl, rfl, Nat.le_of_ble_eq_true rfl, Nat.le_of_ble_eq_true rfl⟩ rfl (by decide) (hCk hw.2.2.2.2.2 2 (by decide) rfl) tw_211 tw_212 tw_213 tw_16 tw_214 hd_X4_wordOfToken rfl hl.1 rfl (Nat.le_of_ble_eq_true rfl) dX4_takeFirstWord_1 ⟨Nat.le_of_ble_eq_true rfl, Nat.le_of_ble_eq_true rfl⟩ rfl (fun H locs hw => ?_)
  refine lv_istore_n (lv' := [(2, .int r2), (0, .ref (B + 2)), (1, .int x1)]) X.1 X.2.1 dX4_takeFirstWord_4 rfl hl (by decide) rfl (fun ls hl => ?_)
  refine lv_iload_n X.1 X.2.1 dX4_takeFirstWord_5 rfl (lv_at hl 0 rfl) ?_
  refine lv_iconst (v := (-1)) X.1 X.2.1 dX4_takeFirstWord_6 (by decide) ?_
  refine lv_icmp_ne (tgt := 21) X.1 X.2.1 dX4_takeFirstWord_7 (by decide) (fun hq => ?_) (fun hq => ?_)
  · replace hf := cd_fk hq hf
    refine lv_iload_n X.1 X.2.1 dX4_takeFirstWord_21 rfl (lv_at hl 2 rfl) ?_
    refine lv_bipush (v := 40) X.1 X.2.1 dX4_takeFirstWord_22 (by decide) ?_
    refine lv_icmp_lt (tgt := 38) X.1 X.2.1 dX4_takeFirstWord_24 (by decide) (fun hq => ?_) (fun hq => ?_)
    · replace hf := cd_tk hq hf
      refine lv_aload_n X.1 X.2.1 dX4_takeFirstWord_38 rfl (lv_at hl 1 rfl) ?_
      obtain ⟨S3, hS3, hf⟩ := bn_ok hf
      refine r_callV (As := []) (rest := []) (st1 := []) (κ := 5) X hw (c_X4_advance l D B cy A ad av  hw.2.2.2.2.1 hw.2.2.2.2.2 hS3) ⟨rfl, rfl, Nat.le_of_ble_eq_true rfl, Nat.le_of_ble_eq_true rfl⟩ rfl (by decide) (hCk hw.2.2.2.2.2 2 (by decide) rfl) tw_194 tw_195 tw_196 tw_16 tw_197 hd_X4_advance rfl hl.1 rfl (Nat.le_of_ble_eq_true rfl) dX4_takeFirstWord_39 ⟨Nat.le_of_ble_eq_true rfl, Nat.le_of_ble_eq_true rfl⟩ rfl (fun H locs hw => ?_)
      refine lv_iload_n X.1 X.2.1 dX4_takeFirstWord_42 rfl (lv_at hl 0 rfl) ?_
      cases hf
      exact r_iret X hw dX4_takeFirstWord_43
    · replace hf := cd_fk hq hf
      refine lv_aload_n X.1 X.2.1 dX4_takeFirstWord_27 rfl (lv_at hl 1 rfl) ?_
      refine lv_iconst (v := 2) X.1 X.2.1 dX4_takeFirstWord_28 (by decide) ?_
      refine lv_aload_n X.1 X.2.1 dX4_takeFirstWord_29 rfl (lv_at hl 1 rfl) ?_
      refine r_getI X hw (κ := 5) rfl inlX4 3 (by decide) rfl (by decide) tw_186 (hCk hw.2.2.2.2.2 2 (by decide) rfl) dX4_takeFirstWord_30 ?_
      obtain ⟨S4, hS4, hf⟩ := bn_ok hf
      refine r_callV (As := [.int 2, .int (gI S1 2 3)]) (rest := []) (st1 := []) (κ := 5) X hw (c_X4_refuse l D B cy A ad av 2 (gI S1 2 3) hw.2.2.2.2.1 hw.2.2.2.2.2 hS4) ⟨rfl, rfl, Nat.le_of_ble_eq_true rfl, Nat.le_of_ble_eq_true rfl⟩ rfl (by decide) (hCk hw.2.2.2.2.2 2 (by decide) rfl) tw_271 tw_272 tw_273 tw_16 tw_274 hd_X4_refuse rfl hl.1 rfl (Nat.le_of_ble_eq_true rfl) dX4_takeFirstWord_33 ⟨Nat.le_of_ble_eq_true rfl, Nat.le_of_ble_eq_true rfl⟩ rfl (fun H locs hw => ?_)
      refine lv_iconst (v := (-1)) X.1 X.2.1 dX4_takeFirstWord_36 (by decide) ?_
      cases hf
      exact r_iret X hw dX4_takeFirstWord_37
  · replace hf := cd_tk hq hf
    refine lv_aload_n X.1 X.2.1 dX4_takeFirstWord_10 rfl (lv_at hl 1 rfl) ?_
    refine lv_iconst (v := 1) X.1 X.2.1 dX4_takeFirstWord_11 (by decide) ?_
    refine lv_aload_n X.1 X.2.1 dX4_takeFirstWord_12 rfl (lv_at hl 1 rfl) ?_
    refine r_getI X hw (κ := 5) rfl inlX4 3 (by decide) rfl (by decide) tw_186 (hCk hw.2.2.2.2.2 2 (by decide) rfl) dX4_takeFirstWord_13 ?_
    obtain ⟨S5, hS5, hf⟩ := bn_ok hf
    refine r_callV (As := [.int 1, .int (gI S1 2 3)]) (rest := []) (st1 := []) (κ := 5) X hw (c_X4_refuse l D B cy A ad av 1 (gI S1 2 3) hw.2.2.2.2.1 hw.2.2.2.2.2 hS5) ⟨rfl, rfl, Nat.le_of_ble_eq_true rfl, Nat.le_of_ble_eq_true rfl⟩ rfl (by decide) (hCk hw.2.2.2.2.2 2 (by decide) rfl) tw_271 tw_272 tw_273 tw_16 tw_274 hd_X4_refuse rfl hl.1 rfl (Nat.le_of_ble_eq_true rfl) dX4_takeFirstWord_16 ⟨Nat.le_of_ble_eq_true rfl, Nat.le_of_ble_eq_true rfl⟩ rfl (fun H locs hw => ?_)
    refine lv_iconst (v := (-1)) X.1 X.2.1 dX4_takeFirstWord_19 (by decide) ?_
    cases hf
    exact r_iret X hw dX4_takeFirstWord_20
set_option maxHeartbeats 4000000 in
theorem w_X8_feedNumber_40 {p : Program} {l : Launch} {e : Env} {s : State} {m : MethodId} {args : Array Value} {below : List Frame} {meth : Method} {c : Code} {D : va_G} {B : Nat} {cy : Nat → ClassId} {A : Nat → Prop} {ad av : Nat → Nat} {Z : HS} (X : hCX p s m args meth c RX8 cX8_feedNumber 3 none D cy A ad av) (k3 : Int32 → Int32 → HS → Option HS) (hk3 : ∀ (x1 : Int32) (x2 : Int32) (S : HS) (H : Heap) (locs : List Loc) (ls : Array Slot), k3 x1 x2 S = some Z → hWd D B cy A true hC S s.heap H locs → lv_has ls 3 [(0, .ref (B + 0)), (1, .int x1), (2, .int x2)] → W p l e ({ frames := 0, cells := 0, slots := 0, locals := 0 } : Room) s m args below meth c H locs 0 0 (MQ below (hQo D B cy A true hC Z none) args s 0 0 A) (F0 m 3 ls [])) (x1 : Int32) (x2 : Int32) (S : HS) (H : Heap) (locs : List Loc) (ls : Array Slot) (hf : fn_X8_feedNumber_40 k3 x1 x2 S = some Z) (hw : hWd D B cy A true hC S s.heap H locs) (hl : lv_has ls 3 [(0, .ref (B + 0)), (1, .int x1), (2, .int x2)]) : W p l e ({ frames := 0, cells := 0, slots := 0, locals := 0 } : Room) s m args below meth c H locs 0 0 (MQ below (hQo D B cy A true hC Z none) args s 0 0 A) (F0 m 40 ls []) := by
  unfold fn_X8_feedNumber_40 at hf
  obtain ⟨v1, ev1, hf⟩ := bn_ok hf
  replace ev1 := Option.some.inj ev1
  refine lv_iinc (v := v1) (lv' := [(2, .int v1), (0, .ref (B + 0)), (1, .int x1)]) X.1 X.2.1 dX8_feedNumber_40 hl (k := 2) rfl ev1 (by decide) rfl (fun ls hl => ?_)
  refine lv_goto (tgt := 3) X.1 X.2.1 dX8_feedNumber_43 (by decide) ?_
  exact hk3 _ _ _ _ _ _ hf hw (lv_sub hl [1, 2, 0] rfl)
set_option maxHeartbeats 4000000 in
theorem w_X8_feedNumber_3 {p : Program} {l : Launch} {e : Env} {s : State} {m : MethodId} {args : Array Value} {below : List Frame} {meth : Method} {c : Code} {D : va_G} {B : Nat} {cy : Nat → ClassId} {A : Nat → Prop} {ad av : Nat → Nat} {Z : HS} (X : hCX p s m args meth c RX8 cX8_feedNumber 3 none D cy A ad av)  : ∀ (n : Nat) (x1 : Int32) (x2 : Int32) (S : HS) (H : Heap) (locs : List Loc) (ls : Array Slot), fn_X8_feedNumber_3 n x1 x2 S = some Z → hWd D B cy A true hC S s.heap H locs → lv_has ls 3 [(0, .ref (B + 0)), (1, .int x1), (2, .int x2)] → W p l e ({ frames := 0, cells := 0, slots := 0, locals := 0 } : Room) s m args below meth c H locs 0 0 (MQ below (hQo D B cy A true hC Z none) args s 0 0 A) (F0 m 3 ls []) := by
  intro n
  induction n with
  | zero =>
    intro x1 x2 S H locs ls hf
    cases hf
  | succ n ih =>
    intro x1 x2 S H locs ls hf hw hl
    rw [fn_X8_feedNumber_3] at hf
    refine lv_iload_n X.1 X.2.1 dX8_feedNumber_3 rfl (lv_at hl 2 rfl) ?_
    refine lv_if_lt (tgt := 46) X.1 X.2.1 dX8_feedNumber_4 (by decide) (fun hq => ?_) (fun hq => ?_)
    · replace hf := cd_tk hq hf
      cases hf
      exact r_vret X hw dX8_feedNumber_46
    · replace hf := cd_fk hq hf
      refine lv_aload_n X.1 X.2.1 dX8_feedNumber_7 rfl (lv_at hl 0 rfl) ?_
      refine r_getI X hw (κ := 9) rfl inlX8 14 (by decide) rfl (by decide) tw_149 (hCk hw.2.2.2.2.2 0 (by decide) rfl) dX8_feedNumber_8 ?_
      refine lv_sipush (v := 2000) X.1 X.2.1 dX8_feedNumber_11 (by decide) ?_
      refine lv_icmp_ge (tgt := 40) X.1 X.2.1 dX8_feedNumber_14 (by decide) (fun hq => ?_) (fun hq => ?_)
      · replace hf := cd_tk hq hf
        exact w_X8_feedNumber_40 X (fn_X8_feedNumber_3 n) ih _ _ _ _ _ _ hf hw (lv_sub hl [0, 1, 2] rfl)
      · replace hf := cd_fk hq hf
        refine lv_aload_n X.1 X.2.1 dX8_feedNumber_17 rfl (lv_at hl 0 rfl) ?_
        refine r_getF X hw (κ := 9) rfl inlX8 0 (by decide) rfl (by decide) tw_13 (hCk hw.2.2.2.2.2 0 (by decide) rfl) (hCr (c := 0) (k := 0) (d := 1) hw.2.2.2.2.2 (by decide)) dX8_feedNumber_18 ?_
        refine lv_aload_n X.1 X.2.1 dX8_feedNumber_21 rfl (lv_at hl 0 rfl) ?_
        refine r_getI X hw (κ := 9) rfl inlX8 14 (by decide) rfl (by decide) tw_149 (hCk hw.2.2.2.2.2 0 (by decide) rfl) dX8_feedNumber_22 ?_
        refine lv_iload_n X.1 X.2.1 dX8_feedNumber_25 rfl (lv_at hl 1 rfl) ?_
        refine lv_iload_n X.1 X.2.1 dX8_feedNumber_26 rfl (lv_at hl 2 rfl) ?_
        refine lv_ishr X.1 X.2.1 dX8_feedNumber_27 ?_
        refine lv_i2b X.1 X.2.1 dX8_feedNumber_28 rfl ?_
        obtain ⟨g1, hf⟩ := gd_ok hf
        obtain ⟨S2, eS2, hf⟩ := bn_ok hf
        replace eS2 := Option.some.inj eS2
        refine r_bast X hw (hCk hw.2.2.2.2.2 1 (by decide) rfl) (hCn hw.2.2.2.2.2 1 (by decide) rfl) g1 hw.2.2.2.2.2 dX8_feedNumber_29 (fun H locs hw => ?_)
        rw [eS2] at hw
        refine lv_aload_n X.1 X.2.1 dX8_feedNumber_30 rfl (lv_at hl 0 rfl) ?_
        refine lv_dup X.1 X.2.1 dX8_feedNumber_31 rfl ?_
        refine r_getI X hw (κ := 9) rfl inlX8 14 (by decide) rfl (by decide) tw_149 (hCk hw.2.2.2.2.2 0 (by decide) rfl) dX8_feedNumber_32 ?_
        refine lv_iconst (v := 1) X.1 X.2.1 dX8_feedNumber_35 (by decide) ?_
        refine lv_iadd X.1 X.2.1 dX8_feedNumber_36 ?_
        obtain ⟨S3, eS3, hf⟩ := bn_ok hf
        replace eS3 := Option.some.inj eS3
        refine r_putI X hw (κ := 9) rfl inlX8 tyX8 tyX8_ok nmX8 14 (by decide) rfl (by decide) tw_149 (Or.inl rfl) (hCk hw.2.2.2.2.2 0 (by decide) rfl) rfl rfl hw.2.2.2.2.2 dX8_feedNumber_37 (fun H locs hw => ?_)
        rw [eS3] at hw
        exact w_X8_feedNumber_40 X (fn_X8_feedNumber_3 n) ih _ _ _ _ _ _ hf hw (lv_sub hl [0, 1, 2] rfl)
theorem hd_X8_feedNumber : yX8_feedNumber.cls = RX8 ∧ yX8_feedNumber.cls ≠ "java/lang/invoke/MethodHandle" ∧ yX8_feedNumber.cls ≠ "java/lang/invoke/VarHandle" ∧ (parseMethodDescriptor yX8_feedNumber.desc).map (fun d => d.parameters.length) = some 1 := by decide +kernel
set_option maxHeartbeats 4000000 in
theorem c_X8_feedNumber (l : Launch) (D : va_G) (B : Nat) (cy : Nat → ClassId) (A : Nat → Prop) (ad av : Nat → Nat) (x1 : Int32) {S Z : HS} (hfr : hFr S) (hG : hC S) (hf : fn_X8_feedNumber x1 S = some Z) : hMet l yX8_feedNumber cX8_feedNumber 3 none ({ frames := 0, cells := 0, slots := 0, locals := 0 } : Room) D B cy A ad av true hC [.ref (B + 0), .int x1] S Z none 0 0 := by
  refine h_entry (by decide) hfr hG ?_
  intro p e s m below meth c args X hnm hw
  have hl := lv_entry ([.ref (B + 0), .int x1]) (n := 3) (Nat.le_of_ble_eq_true rfl)
  rw [lg_entry_eq]
  generalize (lg_sl ([.ref (B + 0), .int x1]) ++ List.replicate (3 - (lg_sl ([.ref (B + 0), .int x1])).length) Slot.unset).toArray = ls at hl ⊢
  have hl : lv_has ls 3 [(0, .ref (B + 0)), (1, .int x1)] := hl
  unfold fn_X8_feedNumber at hf
  refine lv_bipush (v := 24) X.1 X.2.1 dX8_feedNumber_0 (by decide) ?_
  refine lv_istore_n (lv' := [(2, .int 24), (0, .ref (B + 0)), (1, .int x1)]) X.1 X.2.1 dX8_feedNumber_2 rfl hl (by decide) rfl (fun ls hl => ?_)
  exact w_X8_feedNumber_3 X  _ _ _ _ _ _ _ hf hw (lv_sub hl [1, 2, 0] rfl)
theorem hd_X8_feed : yX8_feed.cls = RX8 ∧ yX8_feed.cls ≠ "java/lang/invoke/MethodHandle" ∧ yX8_feed.cls ≠ "java/lang/invoke/VarHandle" ∧ (parseMethodDescriptor yX8_feed.desc).map (fun d => d.parameters.length) = some 5 := by decide +kernel
set_option maxHeartbeats 4000000 in
theorem c_X8_feed (l : Launch) (D : va_G) (B : Nat) (cy : Nat → ClassId) (A : Nat → Prop) (ad av : Nat → Nat) (x1 : Int32) (x2 : Int32) (x3 : Int32) (x4 : Int32) (x5 : Int32) {S Z : HS} {rv : Int32} (hfr : hFr S) (hG : hC S) (hf : fn_X8_feed x1 x2 x3 x4 x5 S = some (rv, Z)) : hMet l yX8_feed cX8_feed 6 (some .int) ({ frames := 1, cells := 0, slots := 0, locals := 22 } : Room) D B cy A ad av true hC [.ref (B + 0), .int x1, .int x2, .int x3, .int x4, .int x5] S Z (some (.int rv)) 0 0 := by
  refine h_entry (by decide) hfr hG ?_
  intro p e s m below meth c args X hnm hw
  have hl := lv_entry ([.ref (B + 0), .int x1, .int x2, .int x3, .int x4, .int x5]) (n := 6) (Nat.le_of_ble_eq_true rfl)
  rw [lg_entry_eq]
  generalize (lg_sl ([.ref (B + 0), .int x1, .int x2, .int x3, .int x4, .int x5]) ++ List.replicate (6 - (lg_sl ([.ref (B + 0), .int x1, .int x2, .int x3, .int x4, .int x5])).length) Slot.unset).toArray = ls at hl ⊢
  have hl : lv_has ls 6 [(0, .ref (B + 0)), (1, .int x1), (2, .int x2), (3, .int x3), (4, .int x4), (5, .int x5)] := hl
  unfold fn_X8_feed at hf
  refine lv_aload_n X.1 X.2.1 dX8_feed_0 rfl (lv_at hl 0 rfl) ?_
  refine r_getI X hw (κ := 9) rfl inlX8 14 (by decide) rfl (by decide) tw_149 (hCk hw.2.2.2.2.2 0 (by decide) rfl) dX8_feed_1 ?_
  refine lv_bipush (v := 20) X.1 X.2.1 dX8_feed_4 (by decide) ?_
  refine lv_iadd X.1 X.2.1 dX8_feed_6 ?_
  refine lv_sipush (v := 2000) X.1 X.2.1 dX8_feed_7 (by decide) ?_
  refine lv_icmp_le (tgt := 15) X.1 X.2.1 dX8_feed_10 (by decide) (fun hq => ?_) (fun hq => ?_)
  · replace hf := cd_tk hq hf
    refine lv_aload_n X.1 X.2.1 dX8_feed_15 rfl (lv_at hl 0 rfl) ?_
    refine lv_iload_n X.1 X.2.1 dX8_feed_16 rfl (lv_at hl 1 rfl) ?_
    obtain ⟨S1, hS1, hf⟩ := bn_ok hf
    refine r_callV (As := [.int x1]) (rest := []) (st1 := []) (κ := 9) X hw (c_X8_feedNumber l D B cy A ad av x1 hw.2.2.2.2.1 hw.2.2.2.2.2 hS1) ⟨rfl, rfl, Nat.le_of_ble_eq_true rfl, Nat.le_of_ble_eq_true rfl⟩ rfl (by decide) (hCk hw.2.2.2.2.2 0 (by decide) rfl) tw_150 tw_151 tw_152 tw_2 tw_153 hd_X8_feedNumber rfl hl.1 rfl (Nat.le_of_ble_eq_true rfl) dX8_feed_17 ⟨Nat.le_of_ble_eq_true rfl, Nat.le_of_ble_eq_true rfl⟩ rfl (fun H locs hw => ?_)
    refine lv_aload_n X.1 X.2.1 dX8_feed_20 rfl (lv_at hl 0 rfl) ?_
    refine lv_iload_n X.1 X.2.1 dX8_feed_21 rfl (lv_at hl 2 rfl) ?_
    obtain ⟨S2, hS2, hf⟩ := bn_ok hf
    refine r_callV (As := [.int x2]) (rest := []) (st1 := []) (κ := 9) X hw (c_X8_feedNumber l D B cy A ad av x2 hw.2.2.2.2.1 hw.2.2.2.2.2 hS2) ⟨rfl, rfl, Nat.le_of_ble_eq_true rfl, Nat.le_of_ble_eq_true rfl⟩ rfl (by decide) (hCk hw.2.2.2.2.2 0 (by decide) rfl) tw_150 tw_151 tw_152 tw_2 tw_153 hd_X8_feedNumber rfl hl.1 rfl (Nat.le_of_ble_eq_true rfl) dX8_feed_22 ⟨Nat.le_of_ble_eq_true rfl, Nat.le_of_ble_eq_true rfl⟩ rfl (fun H locs hw => ?_)
    refine lv_aload_n X.1 X.2.1 dX8_feed_25 rfl (lv_at hl 0 rfl) ?_
    refine lv_iload_n X.1 X.2.1 dX8_feed_26 rfl (lv_at hl 3 rfl) ?_
    obtain ⟨S3, hS3, hf⟩ := bn_ok hf
    refine r_callV (As := [.int x3]) (rest := []) (st1 := []) (κ := 9) X hw (c_X8_feedNumber l D B cy A ad av x3 hw.2.2.2.2.1 hw.2.2.2.2.2 hS3) ⟨rfl, rfl, Nat.le_of_ble_eq_true rfl, Nat.le_of_ble_eq_true rfl⟩ rfl (by decide) (hCk hw.2.2.2.2.2 0 (by decide) rfl) tw_150 tw_151 tw_152 tw_2 tw_153 hd_X8_feedNumber rfl hl.1 rfl (Nat.le_of_ble_eq_true rfl) dX8_feed_27 ⟨Nat.le_of_ble_eq_true rfl, Nat.le_of_ble_eq_true rfl⟩ rfl (fun H locs hw => ?_)
    refine lv_aload_n X.1 X.2.1 dX8_feed_30 rfl (lv_at hl 0 rfl) ?_
    refine lv_iload X.1 X.2.1 dX8_feed_31 (lv_at hl 4 rfl) ?_
    obtain ⟨S4, hS4, hf⟩ := bn_ok hf
    refine r_callV (As := [.int x4]) (rest := []) (st1 := []) (κ := 9) X hw (c_X8_feedNumber l D B cy A ad av x4 hw.2.2.2.2.1 hw.2.2.2.2.2 hS4) ⟨rfl, rfl, Nat.le_of_ble_eq_true rfl, Nat.le_of_ble_eq_true rfl⟩ rfl (by decide) (hCk hw.2.2.2.2.2 0 (by decide) rfl) tw_150 tw_151 tw_152 tw_2 tw_153 hd_X8_feedNumber rfl hl.1 rfl (Nat.le_of_ble_eq_true rfl) dX8_feed_33 ⟨Nat.le_of_ble_eq_true rfl, Nat.le_of_ble_eq_true rfl⟩ rfl (fun H locs hw => ?_)
    refine lv_aload_n X.1 X.2.1 dX8_feed_36 rfl (lv_at hl 0 rfl) ?_
    refine lv_iload X.1 X.2.1 dX8_feed_37 (lv_at hl 5 rfl) ?_
    obtain ⟨S5, hS5, hf⟩ := bn_ok hf
    refine r_callV (As := [.int x5]) (rest := []) (st1 := []) (κ := 9) X hw (c_X8_feedNumber l D B cy A ad av x5 hw.2.2.2.2.1 hw.2.2.2.2.2 hS5) ⟨rfl, rfl, Nat.le_of_ble_eq_true rfl, Nat.le_of_ble_eq_true rfl⟩ rfl (by decide) (hCk hw.2.2.2.2.2 0 (by decide) rfl) tw_150 tw_151 tw_152 tw_2 tw_153 hd_X8_feedNumber rfl hl.1 rfl (Nat.le_of_ble_eq_true rfl) dX8_feed_39 ⟨Nat.le_of_ble_eq_true rfl, Nat.le_of_ble_eq_true rfl⟩ rfl (fun H locs hw => ?_)
    refine lv_aload_n X.1 X.2.1 dX8_feed_42 rfl (lv_at hl 0 rfl) ?_
    refine r_getI X hw (κ := 9) rfl inlX8 14 (by decide) rfl (by decide) tw_149 (hCk hw.2.2.2.2.2 0 (by decide) rfl) dX8_feed_43 ?_
    cases hf
    exact r_iret X hw dX8_feed_46
  · replace hf := cd_fk hq hf
    refine lv_iconst (v := (-1)) X.1 X.2.1 dX8_feed_13 (by decide) ?_
    cases hf
    exact r_iret X hw dX8_feed_14
set_option maxHeartbeats 4000000 in
theorem w_X8_fault_28 {p : Program} {l : Launch} {e : Env} {s : State} {m : MethodId} {args : Array Value} {below : List Frame} {meth : Method} {c : Code} {D : va_G} {B : Nat} {cy : Nat → ClassId} {A : Nat → Prop} {ad av : Nat → Nat} {rv : Int32} {Z : HS} (X : hCX p s m args meth c RX8 cX8_fault 2 (some .int) D cy A ad av)  (y0 : Int32) (S : HS) (H : Heap) (locs : List Loc) (ls : Array Slot) (hf : fn_X8_fault_28 y0 S = some (rv, Z)) (hw : hWd D B cy A true hC S s.heap H locs) (hl : lv_has ls 2 []) : W p l e ({ frames := 0, cells := 0, slots := 0, locals := 0 } : Room) s m args below meth c H locs 0 0 (MQ below (hQo D B cy A true hC Z (some (.int rv))) args s 0 0 A) (F0 m 28 ls [.int y0]) := by
  unfold fn_X8_fault_28 at hf
  cases hf
  exact r_iret X hw dX8_fault_28
theorem hd_X8_fault : yX8_fault.cls = RX8 ∧ yX8_fault.cls ≠ "java/lang/invoke/MethodHandle" ∧ yX8_fault.cls ≠ "java/lang/invoke/VarHandle" ∧ (parseMethodDescriptor yX8_fault.desc).map (fun d => d.parameters.length) = some 1 := by decide +kernel
set_option maxHeartbeats 4000000 in
theorem c_X8_fault (l : Launch) (D : va_G) (B : Nat) (cy : Nat → ClassId) (A : Nat → Prop) (ad av : Nat → Nat) (x1 : Int32) {S Z : HS} {rv : Int32} (hfr : hFr S) (hG : hC S) (hf : fn_X8_fault x1 S = some (rv, Z)) : hMet l yX8_fault cX8_fault 2 (some .int) ({ frames := 0, cells := 0, slots := 0, locals := 0 } : Room) D B cy A ad av true hC [.ref (B + 0), .int x1] S Z (some (.int rv)) 0 0 := by
  refine h_entry (by decide) hfr hG ?_
  intro p e s m below meth c args X hnm hw
  have hl := lv_entry ([.ref (B + 0), .int x1]) (n := 2) (Nat.le_of_ble_eq_true rfl)
  rw [lg_entry_eq]
  generalize (lg_sl ([.ref (B + 0), .int x1]) ++ List.replicate (2 - (lg_sl ([.ref (B + 0), .int x1])).length) Slot.unset).toArray = ls at hl ⊢
  have hl : lv_has ls 2 [(0, .ref (B + 0)), (1, .int x1)] := hl
  unfold fn_X8_fault at hf
  refine lv_iload_n X.1 X.2.1 dX8_fault_0 rfl (lv_at hl 1 rfl) ?_
  refine lv_if_ne (tgt := 12) X.1 X.2.1 dX8_fault_1 (by decide) (fun hq => ?_) (fun hq => ?_)
  · replace hf := cd_fk hq hf
    refine lv_iload_n X.1 X.2.1 dX8_fault_12 rfl (lv_at hl 1 rfl) ?_
    refine lv_iconst (v := 1) X.1 X.2.1 dX8_fault_13 (by decide) ?_
    refine lv_icmp_ne (tgt := 27) X.1 X.2.1 dX8_fault_14 (by decide) (fun hq => ?_) (fun hq => ?_)
    · replace hf := cd_fk hq hf
      refine lv_iconst (v := (-1)) X.1 X.2.1 dX8_fault_27 (by decide) ?_
      exact w_X8_fault_28 X  _ _ _ _ _ hf hw (lv_sub hl [] rfl)
    · replace hf := cd_tk hq hf
      refine lv_aload_n X.1 X.2.1 dX8_fault_17 rfl (lv_at hl 0 rfl) ?_
      refine r_getF X hw (κ := 9) rfl inlX8 1 (by decide) rfl (by decide) tw_17 (hCk hw.2.2.2.2.2 0 (by decide) rfl) (hCr (c := 0) (k := 1) (d := 2) hw.2.2.2.2.2 (by decide)) dX8_fault_18 ?_
      refine r_getI X hw (κ := 5) rfl inlX4 7 (by decide) rfl (by decide) tw_516 (hCk hw.2.2.2.2.2 2 (by decide) rfl) dX8_fault_21 ?_
      refine lv_goto (tgt := 28) X.1 X.2.1 dX8_fault_24 (by decide) ?_
      exact w_X8_fault_28 X  _ _ _ _ _ hf hw (lv_sub hl [] rfl)
  · replace hf := cd_tk hq hf
    refine lv_aload_n X.1 X.2.1 dX8_fault_4 rfl (lv_at hl 0 rfl) ?_
    refine r_getF X hw (κ := 9) rfl inlX8 1 (by decide) rfl (by decide) tw_17 (hCk hw.2.2.2.2.2 0 (by decide) rfl) (hCr (c := 0) (k := 1) (d := 2) hw.2.2.2.2.2 (by decide)) dX8_fault_5 ?_
    refine r_getI X hw (κ := 5) rfl inlX4 6 (by decide) rfl (by decide) tw_164 (hCk hw.2.2.2.2.2 2 (by decide) rfl) dX8_fault_8 ?_
    cases hf
    exact r_iret X hw dX8_fault_11
set_option maxHeartbeats 4000000 in
theorem w_X8_pass_23 {p : Program} {l : Launch} {e : Env} {s : State} {m : MethodId} {args : Array Value} {below : List Frame} {meth : Method} {c : Code} {D : va_G} {B : Nat} {cy : Nat → ClassId} {A : Nat → Prop} {ad av : Nat → Nat} {rv : Int32} {Z : HS} (X : hCX p s m args meth c RX8 cX8_pass 2 (some .int) D cy A ad av)   (S : HS) (H : Heap) (locs : List Loc) (ls : Array Slot) (hf : fn_X8_pass_23 S = some (rv, Z)) (hw : hWd D B cy A true hC S s.heap H locs) (hl : lv_has ls 2 []) : W p l e ({ frames := 0, cells := 0, slots := 0, locals := 0 } : Room) s m args below meth c H locs 0 0 (MQ below (hQo D B cy A true hC Z (some (.int rv))) args s 0 0 A) (F0 m 23 ls []) := by
  unfold fn_X8_pass_23 at hf
  refine lv_iconst (v := (-1)) X.1 X.2.1 dX8_pass_23 (by decide) ?_
  cases hf
  exact r_iret X hw dX8_pass_24
theorem hd_X8_pass : yX8_pass.cls = RX8 ∧ yX8_pass.cls ≠ "java/lang/invoke/MethodHandle" ∧ yX8_pass.cls ≠ "java/lang/invoke/VarHandle" ∧ (parseMethodDescriptor yX8_pass.desc).map (fun d => d.parameters.length) = some 1 := by decide +kernel
set_option maxHeartbeats 4000000 in
theorem c_X8_pass (l : Launch) (D : va_G) (B : Nat) (cy : Nat → ClassId) (A : Nat → Prop) (ad av : Nat → Nat) (x1 : Int32) {S Z : HS} {rv : Int32} (hfr : hFr S) (hG : hC S) (hf : fn_X8_pass x1 S = some (rv, Z)) : hMet l yX8_pass cX8_pass 2 (some .int) ({ frames := 0, cells := 0, slots := 0, locals := 0 } : Room) D B cy A ad av true hC [.ref (B + 0), .int x1] S Z (some (.int rv)) 0 0 := by
  refine h_entry (by decide) hfr hG ?_
  intro p e s m below meth c args X hnm hw
  have hl := lv_entry ([.ref (B + 0), .int x1]) (n := 2) (Nat.le_of_ble_eq_true rfl)
  rw [lg_entry_eq]
  generalize (lg_sl ([.ref (B + 0), .int x1]) ++ List.replicate (2 - (lg_sl ([.ref (B + 0), .int x1])).length) Slot.unset).toArray = ls at hl ⊢
  have hl : lv_has ls 2 [(0, .ref (B + 0)), (1, .int x1)] := hl
  unfold fn_X8_pass at hf
  refine lv_iload_n X.1 X.2.1 dX8_pass_0 rfl (lv_at hl 1 rfl) ?_
  refine lv_if_lt (tgt := 23) X.1 X.2.1 dX8_pass_1 (by decide) (fun hq => ?_) (fun hq => ?_)
  · replace hf := cd_tk hq hf
    exact w_X8_pass_23 X  _ _ _ _ hf hw (lv_sub hl [] rfl)
  · replace hf := cd_fk hq hf
    refine lv_iload_n X.1 X.2.1 dX8_pass_4 rfl (lv_at hl 1 rfl) ?_
    refine lv_sipush (v := 1200) X.1 X.2.1 dX8_pass_5 (by decide) ?_
    refine lv_icmp_gt (tgt := 23) X.1 X.2.1 dX8_pass_8 (by decide) (fun hq => ?_) (fun hq => ?_)
    · replace hf := cd_tk hq hf
      exact w_X8_pass_23 X  _ _ _ _ hf hw (lv_sub hl [] rfl)
    · replace hf := cd_fk hq hf
      refine lv_aload_n X.1 X.2.1 dX8_pass_11 rfl (lv_at hl 0 rfl) ?_
      refine r_getI X hw (κ := 9) rfl inlX8 13 (by decide) rfl (by decide) tw_168 (hCk hw.2.2.2.2.2 0 (by decide) rfl) dX8_pass_12 ?_
      refine lv_iload_n X.1 X.2.1 dX8_pass_15 rfl (lv_at hl 1 rfl) ?_
      refine lv_iadd X.1 X.2.1 dX8_pass_16 ?_
      refine lv_sipush (v := 1200) X.1 X.2.1 dX8_pass_17 (by decide) ?_
      refine lv_icmp_lt (tgt := 25) X.1 X.2.1 dX8_pass_20 (by decide) (fun hq => ?_) (fun hq => ?_)
      · replace hf := cd_tk hq hf
        refine lv_aload_n X.1 X.2.1 dX8_pass_25 rfl (lv_at hl 0 rfl) ?_
        refine lv_dup X.1 X.2.1 dX8_pass_26 rfl ?_
        refine r_getI X hw (κ := 9) rfl inlX8 13 (by decide) rfl (by decide) tw_168 (hCk hw.2.2.2.2.2 0 (by decide) rfl) dX8_pass_27 ?_
        refine lv_iload_n X.1 X.2.1 dX8_pass_30 rfl (lv_at hl 1 rfl) ?_
        refine lv_iadd X.1 X.2.1 dX8_pass_31 ?_
        obtain ⟨S1, eS1, hf⟩ := bn_ok hf
        replace eS1 := Option.some.inj eS1
        refine r_putI X hw (κ := 9) rfl inlX8 tyX8 tyX8_ok nmX8 13 (by decide) rfl (by decide) tw_168 (Or.inl rfl) (hCk hw.2.2.2.2.2 0 (by decide) rfl) rfl rfl hw.2.2.2.2.2 dX8_pass_32 (fun H locs hw => ?_)
        rw [eS1] at hw
        refine lv_aload_n X.1 X.2.1 dX8_pass_35 rfl (lv_at hl 0 rfl) ?_
        refine r_getI X hw (κ := 9) rfl inlX8 13 (by decide) rfl (by decide) tw_168 (hCk hw.2.2.2.2.2 0 (by decide) rfl) dX8_pass_36 ?_
        cases hf
        exact r_iret X hw dX8_pass_39
      · replace hf := cd_fk hq hf
        exact w_X8_pass_23 X  _ _ _ _ hf hw (lv_sub hl [] rfl)
set_option maxHeartbeats 4000000 in
theorem w_X8_post_19 {p : Program} {l : Launch} {e : Env} {s : State} {m : MethodId} {args : Array Value} {below : List Frame} {meth : Method} {c : Code} {D : va_G} {B : Nat} {cy : Nat → ClassId} {A : Nat → Prop} {ad av : Nat → Nat} {rv : Int32} {Z : HS} (X : hCX p s m args meth c RX8 cX8_post 2 (some .int) D cy A ad av)   (S : HS) (H : Heap) (locs : List Loc) (ls : Array Slot) (hf : fn_X8_post_19 S = some (rv, Z)) (hw : hWd D B cy A true hC S s.heap H locs) (hl : lv_has ls 2 []) : W p l e ({ frames := 0, cells := 0, slots := 0, locals := 0 } : Room) s m args below meth c H locs 0 0 (MQ below (hQo D B cy A true hC Z (some (.int rv))) args s 0 0 A) (F0 m 19 ls []) := by
  unfold fn_X8_post_19 at hf
  refine lv_iconst (v := (-1)) X.1 X.2.1 dX8_post_19 (by decide) ?_
  cases hf
  exact r_iret X hw dX8_post_20
theorem hd_X8_post : yX8_post.cls = RX8 ∧ yX8_post.cls ≠ "java/lang/invoke/MethodHandle" ∧ yX8_post.cls ≠ "java/lang/invoke/VarHandle" ∧ (parseMethodDescriptor yX8_post.desc).map (fun d => d.parameters.length) = some 1 := by decide +kernel
set_option maxHeartbeats 4000000 in
theorem c_X8_post (l : Launch) (D : va_G) (B : Nat) (cy : Nat → ClassId) (A : Nat → Prop) (ad av : Nat → Nat) (x1 : Int32) {S Z : HS} {rv : Int32} (hfr : hFr S) (hG : hC S) (hf : fn_X8_post x1 S = some (rv, Z)) : hMet l yX8_post cX8_post 2 (some .int) ({ frames := 0, cells := 0, slots := 0, locals := 0 } : Room) D B cy A ad av true hC [.ref (B + 0), .int x1] S Z (some (.int rv)) 0 0 := by
  refine h_entry (by decide) hfr hG ?_
  intro p e s m below meth c args X hnm hw
  have hl := lv_entry ([.ref (B + 0), .int x1]) (n := 2) (Nat.le_of_ble_eq_true rfl)
  rw [lg_entry_eq]
  generalize (lg_sl ([.ref (B + 0), .int x1]) ++ List.replicate (2 - (lg_sl ([.ref (B + 0), .int x1])).length) Slot.unset).toArray = ls at hl ⊢
  have hl : lv_has ls 2 [(0, .ref (B + 0)), (1, .int x1)] := hl
  unfold fn_X8_post at hf
  refine lv_iload_n X.1 X.2.1 dX8_post_0 rfl (lv_at hl 1 rfl) ?_
  refine lv_if_lt (tgt := 19) X.1 X.2.1 dX8_post_1 (by decide) (fun hq => ?_) (fun hq => ?_)
  · replace hf := cd_tk hq hf
    exact w_X8_post_19 X  _ _ _ _ hf hw (lv_sub hl [] rfl)
  · replace hf := cd_fk hq hf
    refine lv_iload_n X.1 X.2.1 dX8_post_4 rfl (lv_at hl 1 rfl) ?_
    refine lv_bipush (v := 8) X.1 X.2.1 dX8_post_5 (by decide) ?_
    refine lv_icmp_ge (tgt := 19) X.1 X.2.1 dX8_post_7 (by decide) (fun hq => ?_) (fun hq => ?_)
    · replace hf := cd_tk hq hf
      exact w_X8_post_19 X  _ _ _ _ hf hw (lv_sub hl [] rfl)
    · replace hf := cd_fk hq hf
      refine lv_aload_n X.1 X.2.1 dX8_post_10 rfl (lv_at hl 0 rfl) ?_
      refine r_getI X hw (κ := 9) rfl inlX8 16 (by decide) rfl (by decide) tw_533 (hCk hw.2.2.2.2.2 0 (by decide) rfl) dX8_post_11 ?_
      refine lv_bipush (v := 8) X.1 X.2.1 dX8_post_14 (by decide) ?_
      refine lv_icmp_lt (tgt := 21) X.1 X.2.1 dX8_post_16 (by decide) (fun hq => ?_) (fun hq => ?_)
      · replace hf := cd_tk hq hf
        refine lv_aload_n X.1 X.2.1 dX8_post_21 rfl (lv_at hl 0 rfl) ?_
        refine r_getF X hw (κ := 9) rfl inlX8 4 (by decide) rfl (by decide) tw_24 (hCk hw.2.2.2.2.2 0 (by decide) rfl) (hCr (c := 0) (k := 4) (d := 6) hw.2.2.2.2.2 (by decide)) dX8_post_22 ?_
        refine lv_aload_n X.1 X.2.1 dX8_post_25 rfl (lv_at hl 0 rfl) ?_
        refine r_getI X hw (κ := 9) rfl inlX8 16 (by decide) rfl (by decide) tw_533 (hCk hw.2.2.2.2.2 0 (by decide) rfl) dX8_post_26 ?_
        refine lv_iload_n X.1 X.2.1 dX8_post_29 rfl (lv_at hl 1 rfl) ?_
        obtain ⟨g1, hf⟩ := gd_ok hf
        obtain ⟨S2, eS2, hf⟩ := bn_ok hf
        replace eS2 := Option.some.inj eS2
        refine r_iast X hw (hCk hw.2.2.2.2.2 6 (by decide) rfl) (hCn hw.2.2.2.2.2 6 (by decide) rfl) g1 hw.2.2.2.2.2 dX8_post_30 (fun H locs hw => ?_)
        rw [eS2] at hw
        refine lv_aload_n X.1 X.2.1 dX8_post_31 rfl (lv_at hl 0 rfl) ?_
        refine lv_dup X.1 X.2.1 dX8_post_32 rfl ?_
        refine r_getI X hw (κ := 9) rfl inlX8 16 (by decide) rfl (by decide) tw_533 (hCk hw.2.2.2.2.2 0 (by decide) rfl) dX8_post_33 ?_
        refine lv_iconst (v := 1) X.1 X.2.1 dX8_post_36 (by decide) ?_
        refine lv_iadd X.1 X.2.1 dX8_post_37 ?_
        obtain ⟨S3, eS3, hf⟩ := bn_ok hf
        replace eS3 := Option.some.inj eS3
        refine r_putI X hw (κ := 9) rfl inlX8 tyX8 tyX8_ok nmX8 16 (by decide) rfl (by decide) tw_533 (Or.inl rfl) (hCk hw.2.2.2.2.2 0 (by decide) rfl) rfl rfl hw.2.2.2.2.2 dX8_post_38 (fun H locs hw => ?_)
        rw [eS3] at hw
        refine lv_aload_n X.1 X.2.1 dX8_post_41 rfl (lv_at hl 0 rfl) ?_
        refine r_getI X hw (κ := 9) rfl inlX8 16 (by decide) rfl (by decide) tw_533 (hCk hw.2.2.2.2.2 0 (by decide) rfl) dX8_post_42 ?_
        refine lv_iconst (v := 1) X.1 X.2.1 dX8_post_45 (by decide) ?_
        refine lv_isub X.1 X.2.1 dX8_post_46 ?_
        cases hf
        exact r_iret X hw dX8_post_47
      · replace hf := cd_fk hq hf
        exact w_X8_post_19 X  _ _ _ _ hf hw (lv_sub hl [] rfl)
set_option maxHeartbeats 4000000 in
theorem w_X8_isPost_17 {p : Program} {l : Launch} {e : Env} {s : State} {m : MethodId} {args : Array Value} {below : List Frame} {meth : Method} {c : Code} {D : va_G} {B : Nat} {cy : Nat → ClassId} {A : Nat → Prop} {ad av : Nat → Nat} {rv : Int32} {Z : HS} (X : hCX p s m args meth c RX8 cX8_isPost 2 (some .boolean) D cy A ad av)  (y0 : Int32) (S : HS) (H : Heap) (locs : List Loc) (ls : Array Slot) (hf : fn_X8_isPost_17 y0 S = some (rv, Z)) (hw : hWd D B cy A true hC S s.heap H locs) (hl : lv_has ls 2 []) : W p l e ({ frames := 0, cells := 0, slots := 0, locals := 0 } : Room) s m args below meth c H locs 0 0 (MQ below (hQo D B cy A true hC Z (some (.int rv))) args s 0 0 A) (F0 m 17 ls [.int y0]) := by
  unfold fn_X8_isPost_17 at hf
  obtain ⟨g1, hf⟩ := gd_ok hf
  cases hf
  exact r_zret X hw g1 dX8_isPost_17
set_option maxHeartbeats 4000000 in
theorem w_X8_isPost_16 {p : Program} {l : Launch} {e : Env} {s : State} {m : MethodId} {args : Array Value} {below : List Frame} {meth : Method} {c : Code} {D : va_G} {B : Nat} {cy : Nat → ClassId} {A : Nat → Prop} {ad av : Nat → Nat} {rv : Int32} {Z : HS} (X : hCX p s m args meth c RX8 cX8_isPost 2 (some .boolean) D cy A ad av)   (S : HS) (H : Heap) (locs : List Loc) (ls : Array Slot) (hf : fn_X8_isPost_16 S = some (rv, Z)) (hw : hWd D B cy A true hC S s.heap H locs) (hl : lv_has ls 2 []) : W p l e ({ frames := 0, cells := 0, slots := 0, locals := 0 } : Room) s m args below meth c H locs 0 0 (MQ below (hQo D B cy A true hC Z (some (.int rv))) args s 0 0 A) (F0 m 16 ls []) := by
  unfold fn_X8_isPost_16 at hf
  refine lv_iconst (v := 0) X.1 X.2.1 dX8_isPost_16 (by decide) ?_
  exact w_X8_isPost_17 X  _ _ _ _ _ hf hw (lv_sub hl [] rfl)
theorem hd_X8_isPost : yX8_isPost.cls = RX8 ∧ yX8_isPost.cls ≠ "java/lang/invoke/MethodHandle" ∧ yX8_isPost.cls ≠ "java/lang/invoke/VarHandle" ∧ (parseMethodDescriptor yX8_isPost.desc).map (fun d => d.parameters.length) = some 1 := by decide +kernel
set_option maxHeartbeats 4000000 in
theorem c_X8_isPost (l : Launch) (D : va_G) (B : Nat) (cy : Nat → ClassId) (A : Nat → Prop) (ad av : Nat → Nat) (x1 : Int32) {S Z : HS} {rv : Int32} (hfr : hFr S) (hG : hC S) (hf : fn_X8_isPost x1 S = some (rv, Z)) : hMet l yX8_isPost cX8_isPost 2 (some .boolean) ({ frames := 0, cells := 0, slots := 0, locals := 0 } : Room) D B cy A ad av true hC [.ref (B + 0), .int x1] S Z (some (.int rv)) 0 0 := by
  refine h_entry (by decide) hfr hG ?_
  intro p e s m below meth c args X hnm hw
  have hl := lv_entry ([.ref (B + 0), .int x1]) (n := 2) (Nat.le_of_ble_eq_true rfl)
  rw [lg_entry_eq]
  generalize (lg_sl ([.ref (B + 0), .int x1]) ++ List.replicate (2 - (lg_sl ([.ref (B + 0), .int x1])).length) Slot.unset).toArray = ls at hl ⊢
  have hl : lv_has ls 2 [(0, .ref (B + 0)), (1, .int x1)] := hl
  unfold fn_X8_isPost at hf
  refine lv_iload_n X.1 X.2.1 dX8_isPost_0 rfl (lv_at hl 1 rfl) ?_
  refine lv_if_lt (tgt := 16) X.1 X.2.1 dX8_isPost_1 (by decide) (fun hq => ?_) (fun hq => ?_)
  · replace hf := cd_tk hq hf
    exact w_X8_isPost_16 X  _ _ _ _ hf hw (lv_sub hl [] rfl)
  · replace hf := cd_fk hq hf
    refine lv_iload_n X.1 X.2.1 dX8_isPost_4 rfl (lv_at hl 1 rfl) ?_
    refine lv_aload_n X.1 X.2.1 dX8_isPost_5 rfl (lv_at hl 0 rfl) ?_
    refine r_getI X hw (κ := 9) rfl inlX8 16 (by decide) rfl (by decide) tw_533 (hCk hw.2.2.2.2.2 0 (by decide) rfl) dX8_isPost_6 ?_
    refine lv_icmp_ge (tgt := 16) X.1 X.2.1 dX8_isPost_9 (by decide) (fun hq => ?_) (fun hq => ?_)
    · replace hf := cd_tk hq hf
      exact w_X8_isPost_16 X  _ _ _ _ hf hw (lv_sub hl [] rfl)
    · replace hf := cd_fk hq hf
      refine lv_iconst (v := 1) X.1 X.2.1 dX8_isPost_12 (by decide) ?_
      refine lv_goto (tgt := 17) X.1 X.2.1 dX8_isPost_13 (by decide) ?_
      exact w_X8_isPost_17 X  _ _ _ _ _ hf hw (lv_sub hl [] rfl)
set_option maxHeartbeats 4000000 in
theorem w_X8_isDay_16 {p : Program} {l : Launch} {e : Env} {s : State} {m : MethodId} {args : Array Value} {below : List Frame} {meth : Method} {c : Code} {D : va_G} {B : Nat} {cy : Nat → ClassId} {A : Nat → Prop} {ad av : Nat → Nat} {rv : Int32} {Z : HS} (X : hCX p s m args meth c RX8 cX8_isDay 1 (some .boolean) D cy A ad av)  (y0 : Int32) (S : HS) (H : Heap) (locs : List Loc) (ls : Array Slot) (hf : fn_X8_isDay_16 y0 S = some (rv, Z)) (hw : hWd D B cy A true hC S s.heap H locs) (hl : lv_has ls 1 []) : W p l e ({ frames := 0, cells := 0, slots := 0, locals := 0 } : Room) s m args below meth c H locs 0 0 (MQ below (hQo D B cy A true hC Z (some (.int rv))) args s 0 0 A) (F0 m 16 ls [.int y0]) := by
  unfold fn_X8_isDay_16 at hf
  obtain ⟨g1, hf⟩ := gd_ok hf
  cases hf
  exact r_zret X hw g1 dX8_isDay_16
set_option maxHeartbeats 4000000 in
theorem w_X8_isDay_15 {p : Program} {l : Launch} {e : Env} {s : State} {m : MethodId} {args : Array Value} {below : List Frame} {meth : Method} {c : Code} {D : va_G} {B : Nat} {cy : Nat → ClassId} {A : Nat → Prop} {ad av : Nat → Nat} {rv : Int32} {Z : HS} (X : hCX p s m args meth c RX8 cX8_isDay 1 (some .boolean) D cy A ad av)   (S : HS) (H : Heap) (locs : List Loc) (ls : Array Slot) (hf : fn_X8_isDay_15 S = some (rv, Z)) (hw : hWd D B cy A true hC S s.heap H locs) (hl : lv_has ls 1 []) : W p l e ({ frames := 0, cells := 0, slots := 0, locals := 0 } : Room) s m args below meth c H locs 0 0 (MQ below (hQo D B cy A true hC Z (some (.int rv))) args s 0 0 A) (F0 m 15 ls []) := by
  unfold fn_X8_isDay_15 at hf
  refine lv_iconst (v := 0) X.1 X.2.1 dX8_isDay_15 (by decide) ?_
  exact w_X8_isDay_16 X  _ _ _ _ _ hf hw (lv_sub hl [] rfl)
theorem hd_X8_isDay : yX8_isDay.cls ≠ "java/lang/invoke/MethodHandle" ∧ yX8_isDay.cls ≠ "java/lang/invoke/VarHandle" ∧ (parseMethodDescriptor yX8_isDay.desc).map (fun d => d.parameters.length) = some 1 := by decide +kernel
set_option maxHeartbeats 4000000 in
theorem c_X8_isDay (l : Launch) (D : va_G) (B : Nat) (cy : Nat → ClassId) (A : Nat → Prop) (ad av : Nat → Nat) (x0 : Int32) {S Z : HS} {rv : Int32} (hfr : hFr S) (hG : hC S) (hf : fn_X8_isDay x0 S = some (rv, Z)) : hMet l yX8_isDay cX8_isDay 1 (some .boolean) ({ frames := 0, cells := 0, slots := 0, locals := 0 } : Room) D B cy A ad av true hC [.int x0] S Z (some (.int rv)) 0 0 := by
  refine h_entry (by decide) hfr hG ?_
  intro p e s m below meth c args X hnm hw
  have hl := lv_entry ([.int x0]) (n := 1) (Nat.le_of_ble_eq_true rfl)
  rw [lg_entry_eq]
  generalize (lg_sl ([.int x0]) ++ List.replicate (1 - (lg_sl ([.int x0])).length) Slot.unset).toArray = ls at hl ⊢
  have hl : lv_has ls 1 [(0, .int x0)] := hl
  unfold fn_X8_isDay at hf
  refine lv_iload_n X.1 X.2.1 dX8_isDay_0 rfl (lv_at hl 0 rfl) ?_
  refine lv_if_lt (tgt := 15) X.1 X.2.1 dX8_isDay_1 (by decide) (fun hq => ?_) (fun hq => ?_)
  · replace hf := cd_tk hq hf
    exact w_X8_isDay_15 X  _ _ _ _ hf hw (lv_sub hl [] rfl)
  · replace hf := cd_fk hq hf
    refine lv_iload_n X.1 X.2.1 dX8_isDay_4 rfl (lv_at hl 0 rfl) ?_
    refine lv_sipush (v := 1200) X.1 X.2.1 dX8_isDay_5 (by decide) ?_
    refine lv_icmp_ge (tgt := 15) X.1 X.2.1 dX8_isDay_8 (by decide) (fun hq => ?_) (fun hq => ?_)
    · replace hf := cd_tk hq hf
      exact w_X8_isDay_15 X  _ _ _ _ hf hw (lv_sub hl [] rfl)
    · replace hf := cd_fk hq hf
      refine lv_iconst (v := 1) X.1 X.2.1 dX8_isDay_11 (by decide) ?_
      refine lv_goto (tgt := 16) X.1 X.2.1 dX8_isDay_12 (by decide) ?_
      exact w_X8_isDay_16 X  _ _ _ _ _ hf hw (lv_sub hl [] rfl)
set_option maxHeartbeats 4000000 in
theorem w_X8_isMonth_15 {p : Program} {l : Launch} {e : Env} {s : State} {m : MethodId} {args : Array Value} {below : List Frame} {meth : Method} {c : Code} {D : va_G} {B : Nat} {cy : Nat → ClassId} {A : Nat → Prop} {ad av : Nat → Nat} {rv : Int32} {Z : HS} (X : hCX p s m args meth c RX8 cX8_isMonth 1 (some .boolean) D cy A ad av)  (y0 : Int32) (S : HS) (H : Heap) (locs : List Loc) (ls : Array Slot) (hf : fn_X8_isMonth_15 y0 S = some (rv, Z)) (hw : hWd D B cy A true hC S s.heap H locs) (hl : lv_has ls 1 []) : W p l e ({ frames := 0, cells := 0, slots := 0, locals := 0 } : Room) s m args below meth c H locs 0 0 (MQ below (hQo D B cy A true hC Z (some (.int rv))) args s 0 0 A) (F0 m 15 ls [.int y0]) := by
  unfold fn_X8_isMonth_15 at hf
  obtain ⟨g1, hf⟩ := gd_ok hf
  cases hf
  exact r_zret X hw g1 dX8_isMonth_15
set_option maxHeartbeats 4000000 in
theorem w_X8_isMonth_14 {p : Program} {l : Launch} {e : Env} {s : State} {m : MethodId} {args : Array Value} {below : List Frame} {meth : Method} {c : Code} {D : va_G} {B : Nat} {cy : Nat → ClassId} {A : Nat → Prop} {ad av : Nat → Nat} {rv : Int32} {Z : HS} (X : hCX p s m args meth c RX8 cX8_isMonth 1 (some .boolean) D cy A ad av)   (S : HS) (H : Heap) (locs : List Loc) (ls : Array Slot) (hf : fn_X8_isMonth_14 S = some (rv, Z)) (hw : hWd D B cy A true hC S s.heap H locs) (hl : lv_has ls 1 []) : W p l e ({ frames := 0, cells := 0, slots := 0, locals := 0 } : Room) s m args below meth c H locs 0 0 (MQ below (hQo D B cy A true hC Z (some (.int rv))) args s 0 0 A) (F0 m 14 ls []) := by
  unfold fn_X8_isMonth_14 at hf
  refine lv_iconst (v := 0) X.1 X.2.1 dX8_isMonth_14 (by decide) ?_
  exact w_X8_isMonth_15 X  _ _ _ _ _ hf hw (lv_sub hl [] rfl)
theorem hd_X8_isMonth : yX8_isMonth.cls ≠ "java/lang/invoke/MethodHandle" ∧ yX8_isMonth.cls ≠ "java/lang/invoke/VarHandle" ∧ (parseMethodDescriptor yX8_isMonth.desc).map (fun d => d.parameters.length) = some 1 := by decide +kernel
set_option maxHeartbeats 4000000 in
theorem c_X8_isMonth (l : Launch) (D : va_G) (B : Nat) (cy : Nat → ClassId) (A : Nat → Prop) (ad av : Nat → Nat) (x0 : Int32) {S Z : HS} {rv : Int32} (hfr : hFr S) (hG : hC S) (hf : fn_X8_isMonth x0 S = some (rv, Z)) : hMet l yX8_isMonth cX8_isMonth 1 (some .boolean) ({ frames := 0, cells := 0, slots := 0, locals := 0 } : Room) D B cy A ad av true hC [.int x0] S Z (some (.int rv)) 0 0 := by
  refine h_entry (by decide) hfr hG ?_
  intro p e s m below meth c args X hnm hw
  have hl := lv_entry ([.int x0]) (n := 1) (Nat.le_of_ble_eq_true rfl)
  rw [lg_entry_eq]
  generalize (lg_sl ([.int x0]) ++ List.replicate (1 - (lg_sl ([.int x0])).length) Slot.unset).toArray = ls at hl ⊢
  have hl : lv_has ls 1 [(0, .int x0)] := hl
  unfold fn_X8_isMonth at hf
  refine lv_iload_n X.1 X.2.1 dX8_isMonth_0 rfl (lv_at hl 0 rfl) ?_
  refine lv_if_lt (tgt := 14) X.1 X.2.1 dX8_isMonth_1 (by decide) (fun hq => ?_) (fun hq => ?_)
  · replace hf := cd_tk hq hf
    exact w_X8_isMonth_14 X  _ _ _ _ hf hw (lv_sub hl [] rfl)
  · replace hf := cd_fk hq hf
    refine lv_iload_n X.1 X.2.1 dX8_isMonth_4 rfl (lv_at hl 0 rfl) ?_
    refine lv_bipush (v := 40) X.1 X.2.1 dX8_isMonth_5 (by decide) ?_
    refine lv_icmp_ge (tgt := 14) X.1 X.2.1 dX8_isMonth_7 (by decide) (fun hq => ?_) (fun hq => ?_)
    · replace hf := cd_tk hq hf
      exact w_X8_isMonth_14 X  _ _ _ _ hf hw (lv_sub hl [] rfl)
    · replace hf := cd_fk hq hf
      refine lv_iconst (v := 1) X.1 X.2.1 dX8_isMonth_10 (by decide) ?_
      refine lv_goto (tgt := 15) X.1 X.2.1 dX8_isMonth_11 (by decide) ?_
      exact w_X8_isMonth_15 X  _ _ _ _ _ hf hw (lv_sub hl [] rfl)
set_option maxHeartbeats 4000000 in
theorem w_X8_isKnown_17 {p : Program} {l : Launch} {e : Env} {s : State} {m : MethodId} {args : Array Value} {below : List Frame} {meth : Method} {c : Code} {D : va_G} {B : Nat} {cy : Nat → ClassId} {A : Nat → Prop} {ad av : Nat → Nat} {rv : Int32} {Z : HS} (X : hCX p s m args meth c RX8 cX8_isKnown 2 (some .boolean) D cy A ad av)  (y0 : Int32) (S : HS) (H : Heap) (locs : List Loc) (ls : Array Slot) (hf : fn_X8_isKnown_17 y0 S = some (rv, Z)) (hw : hWd D B cy A true hC S s.heap H locs) (hl : lv_has ls 2 []) : W p l e ({ frames := 0, cells := 0, slots := 0, locals := 0 } : Room) s m args below meth c H locs 0 0 (MQ below (hQo D B cy A true hC Z (some (.int rv))) args s 0 0 A) (F0 m 17 ls [.int y0]) := by
  unfold fn_X8_isKnown_17 at hf
  obtain ⟨g1, hf⟩ := gd_ok hf
  cases hf
  exact r_zret X hw g1 dX8_isKnown_17
set_option maxHeartbeats 4000000 in
theorem w_X8_isKnown_16 {p : Program} {l : Launch} {e : Env} {s : State} {m : MethodId} {args : Array Value} {below : List Frame} {meth : Method} {c : Code} {D : va_G} {B : Nat} {cy : Nat → ClassId} {A : Nat → Prop} {ad av : Nat → Nat} {rv : Int32} {Z : HS} (X : hCX p s m args meth c RX8 cX8_isKnown 2 (some .boolean) D cy A ad av)   (S : HS) (H : Heap) (locs : List Loc) (ls : Array Slot) (hf : fn_X8_isKnown_16 S = some (rv, Z)) (hw : hWd D B cy A true hC S s.heap H locs) (hl : lv_has ls 2 []) : W p l e ({ frames := 0, cells := 0, slots := 0, locals := 0 } : Room) s m args below meth c H locs 0 0 (MQ below (hQo D B cy A true hC Z (some (.int rv))) args s 0 0 A) (F0 m 16 ls []) := by
  unfold fn_X8_isKnown_16 at hf
  refine lv_iconst (v := 0) X.1 X.2.1 dX8_isKnown_16 (by decide) ?_
  exact w_X8_isKnown_17 X  _ _ _ _ _ hf hw (lv_sub hl [] rfl)
theorem hd_X8_isKnown : yX8_isKnown.cls = RX8 ∧ yX8_isKnown.cls ≠ "java/lang/invoke/MethodHandle" ∧ yX8_isKnown.cls ≠ "java/lang/invoke/VarHandle" ∧ (parseMethodDescriptor yX8_isKnown.desc).map (fun d => d.parameters.length) = some 1 := by decide +kernel
set_option maxHeartbeats 4000000 in
theorem c_X8_isKnown (l : Launch) (D : va_G) (B : Nat) (cy : Nat → ClassId) (A : Nat → Prop) (ad av : Nat → Nat) (x1 : Int32) {S Z : HS} {rv : Int32} (hfr : hFr S) (hG : hC S) (hf : fn_X8_isKnown x1 S = some (rv, Z)) : hMet l yX8_isKnown cX8_isKnown 2 (some .boolean) ({ frames := 0, cells := 0, slots := 0, locals := 0 } : Room) D B cy A ad av true hC [.ref (B + 0), .int x1] S Z (some (.int rv)) 0 0 := by
  refine h_entry (by decide) hfr hG ?_
  intro p e s m below meth c args X hnm hw
  have hl := lv_entry ([.ref (B + 0), .int x1]) (n := 2) (Nat.le_of_ble_eq_true rfl)
  rw [lg_entry_eq]
  generalize (lg_sl ([.ref (B + 0), .int x1]) ++ List.replicate (2 - (lg_sl ([.ref (B + 0), .int x1])).length) Slot.unset).toArray = ls at hl ⊢
  have hl : lv_has ls 2 [(0, .ref (B + 0)), (1, .int x1)] := hl
  unfold fn_X8_isKnown at hf
  refine lv_iload_n X.1 X.2.1 dX8_isKnown_0 rfl (lv_at hl 1 rfl) ?_
  refine lv_if_lt (tgt := 16) X.1 X.2.1 dX8_isKnown_1 (by decide) (fun hq => ?_) (fun hq => ?_)
  · replace hf := cd_tk hq hf
    exact w_X8_isKnown_16 X  _ _ _ _ hf hw (lv_sub hl [] rfl)
  · replace hf := cd_fk hq hf
    refine lv_iload_n X.1 X.2.1 dX8_isKnown_4 rfl (lv_at hl 1 rfl) ?_
    refine lv_aload_n X.1 X.2.1 dX8_isKnown_5 rfl (lv_at hl 0 rfl) ?_
    refine r_getI X hw (κ := 9) rfl inlX8 13 (by decide) rfl (by decide) tw_168 (hCk hw.2.2.2.2.2 0 (by decide) rfl) dX8_isKnown_6 ?_
    refine lv_icmp_gt (tgt := 16) X.1 X.2.1 dX8_isKnown_9 (by decide) (fun hq => ?_) (fun hq => ?_)
    · replace hf := cd_tk hq hf
      exact w_X8_isKnown_16 X  _ _ _ _ hf hw (lv_sub hl [] rfl)
    · replace hf := cd_fk hq hf
      refine lv_iconst (v := 1) X.1 X.2.1 dX8_isKnown_12 (by decide) ?_
      refine lv_goto (tgt := 17) X.1 X.2.1 dX8_isKnown_13 (by decide) ?_
      exact w_X8_isKnown_17 X  _ _ _ _ _ hf hw (lv_sub hl [] rfl)
set_option maxHeartbeats 4000000 in
theorem w_X8_isPart_35 {p : Program} {l : Launch} {e : Env} {s : State} {m : MethodId} {args : Array Value} {below : List Frame} {meth : Method} {c : Code} {D : va_G} {B : Nat} {cy : Nat → ClassId} {A : Nat → Prop} {ad av : Nat → Nat} {rv : Int32} {Z : HS} (X : hCX p s m args meth c RX8 cX8_isPart 3 (some .boolean) D cy A ad av)  (y0 : Int32) (S : HS) (H : Heap) (locs : List Loc) (ls : Array Slot) (hf : fn_X8_isPart_35 y0 S = some (rv, Z)) (hw : hWd D B cy A true hC S s.heap H locs) (hl : lv_has ls 3 []) : W p l e ({ frames := 0, cells := 0, slots := 0, locals := 0 } : Room) s m args below meth c H locs 0 0 (MQ below (hQo D B cy A true hC Z (some (.int rv))) args s 0 0 A) (F0 m 35 ls [.int y0]) := by
  unfold fn_X8_isPart_35 at hf
  obtain ⟨g1, hf⟩ := gd_ok hf
  cases hf
  exact r_zret X hw g1 dX8_isPart_35
set_option maxHeartbeats 4000000 in
theorem w_X8_isPart_34 {p : Program} {l : Launch} {e : Env} {s : State} {m : MethodId} {args : Array Value} {below : List Frame} {meth : Method} {c : Code} {D : va_G} {B : Nat} {cy : Nat → ClassId} {A : Nat → Prop} {ad av : Nat → Nat} {rv : Int32} {Z : HS} (X : hCX p s m args meth c RX8 cX8_isPart 3 (some .boolean) D cy A ad av)   (S : HS) (H : Heap) (locs : List Loc) (ls : Array Slot) (hf : fn_X8_isPart_34 S = some (rv, Z)) (hw : hWd D B cy A true hC S s.heap H locs) (hl : lv_has ls 3 []) : W p l e ({ frames := 0, cells := 0, slots := 0, locals := 0 } : Room) s m args below meth c H locs 0 0 (MQ below (hQo D B cy A true hC Z (some (.int rv))) args s 0 0 A) (F0 m 34 ls []) := by
  unfold fn_X8_isPart_34 at hf
  refine lv_iconst (v := 0) X.1 X.2.1 dX8_isPart_34 (by decide) ?_
  exact w_X8_isPart_35 X  _ _ _ _ _ hf hw (lv_sub hl [] rfl)
theorem hd_X8_isPart : yX8_isPart.cls ≠ "java/lang/invoke/MethodHandle" ∧ yX8_isPart.cls ≠ "java/lang/invoke/VarHandle" ∧ (parseMethodDescriptor yX8_isPart.desc).map (fun d => d.parameters.length) = some 1 := by decide +kernel
set_option maxHeartbeats 4000000 in
theorem c_X8_isPart (l : Launch) (D : va_G) (B : Nat) (cy : Nat → ClassId) (A : Nat → Prop) (ad av : Nat → Nat) (x0 : Int32) {S Z : HS} {rv : Int32} (hfr : hFr S) (hG : hC S) (hf : fn_X8_isPart x0 S = some (rv, Z)) : hMet l yX8_isPart cX8_isPart 3 (some .boolean) ({ frames := 0, cells := 0, slots := 0, locals := 0 } : Room) D B cy A ad av true hC [.int x0] S Z (some (.int rv)) 0 0 := by
  refine h_entry (by decide) hfr hG ?_
  intro p e s m below meth c args X hnm hw
  have hl := lv_entry ([.int x0]) (n := 3) (Nat.le_of_ble_eq_true rfl)
  rw [lg_entry_eq]
  generalize (lg_sl ([.int x0]) ++ List.replicate (3 - (lg_sl ([.int x0])).length) Slot.unset).toArray = ls at hl ⊢
  have hl : lv_has ls 3 [(0, .int x0)] := hl
  unfold fn_X8_isPart at hf
  refine lv_iload_n X.1 X.2.1 dX8_isPart_0 rfl (lv_at hl 0 rfl) ?_
  refine lv_bipush (v := 10) X.1 X.2.1 dX8_isPart_1 (by decide) ?_
  refine lv_idiv X.1 X.2.1 dX8_isPart_3 (by decide) ?_
  obtain ⟨v1, ev1, hf⟩ := bn_ok hf
  replace ev1 := Option.some.inj ev1
  refine lv_ren ev1 ?_
  refine lv_istore_n (lv' := [(1, .int v1), (0, .int x0)]) X.1 X.2.1 dX8_isPart_4 rfl hl (by decide) rfl (fun ls hl => ?_)
  refine lv_iload_n X.1 X.2.1 dX8_isPart_5 rfl (lv_at hl 1 rfl) ?_
  refine lv_bipush (v := 10) X.1 X.2.1 dX8_isPart_6 (by decide) ?_
  refine lv_irem X.1 X.2.1 dX8_isPart_8 (by decide) ?_
  obtain ⟨v2, ev2, hf⟩ := bn_ok hf
  replace ev2 := Option.some.inj ev2
  refine lv_ren ev2 ?_
  refine lv_istore_n (lv' := [(2, .int v2), (1, .int v1), (0, .int x0)]) X.1 X.2.1 dX8_isPart_9 rfl hl (by decide) rfl (fun ls hl => ?_)
  refine lv_iload_n X.1 X.2.1 dX8_isPart_10 rfl (lv_at hl 2 rfl) ?_
  refine lv_if_lt (tgt := 34) X.1 X.2.1 dX8_isPart_11 (by decide) (fun hq => ?_) (fun hq => ?_)
  · replace hf := cd_tk hq hf
    exact w_X8_isPart_34 X  _ _ _ _ hf hw (lv_sub hl [] rfl)
  · replace hf := cd_fk hq hf
    refine lv_iload_n X.1 X.2.1 dX8_isPart_14 rfl (lv_at hl 0 rfl) ?_
    refine lv_iconst (v := 1) X.1 X.2.1 dX8_isPart_15 (by decide) ?_
    refine lv_icmp_lt (tgt := 34) X.1 X.2.1 dX8_isPart_16 (by decide) (fun hq => ?_) (fun hq => ?_)
    · replace hf := cd_tk hq hf
      exact w_X8_isPart_34 X  _ _ _ _ hf hw (lv_sub hl [] rfl)
    · replace hf := cd_fk hq hf
      refine lv_iload_n X.1 X.2.1 dX8_isPart_19 rfl (lv_at hl 0 rfl) ?_
      refine lv_bipush (v := 8) X.1 X.2.1 dX8_isPart_20 (by decide) ?_
      refine lv_icmp_gt (tgt := 34) X.1 X.2.1 dX8_isPart_22 (by decide) (fun hq => ?_) (fun hq => ?_)
      · replace hf := cd_tk hq hf
        exact w_X8_isPart_34 X  _ _ _ _ hf hw (lv_sub hl [] rfl)
      · replace hf := cd_fk hq hf
        refine lv_iload_n X.1 X.2.1 dX8_isPart_25 rfl (lv_at hl 1 rfl) ?_
        refine lv_iload_n X.1 X.2.1 dX8_isPart_26 rfl (lv_at hl 0 rfl) ?_
        refine lv_icmp_gt (tgt := 34) X.1 X.2.1 dX8_isPart_27 (by decide) (fun hq => ?_) (fun hq => ?_)
        · replace hf := cd_tk hq hf
          exact w_X8_isPart_34 X  _ _ _ _ hf hw (lv_sub hl [] rfl)
        · replace hf := cd_fk hq hf
          refine lv_iconst (v := 1) X.1 X.2.1 dX8_isPart_30 (by decide) ?_
          refine lv_goto (tgt := 35) X.1 X.2.1 dX8_isPart_31 (by decide) ?_
          exact w_X8_isPart_35 X  _ _ _ _ _ hf hw (lv_sub hl [] rfl)
set_option maxHeartbeats 4000000 in
theorem w_X8_canBecome_65 {p : Program} {l : Launch} {e : Env} {s : State} {m : MethodId} {args : Array Value} {below : List Frame} {meth : Method} {c : Code} {D : va_G} {B : Nat} {cy : Nat → ClassId} {A : Nat → Prop} {ad av : Nat → Nat} {rv : Int32} {Z : HS} (X : hCX p s m args meth c RX8 cX8_canBecome 2 (some .boolean) D cy A ad av)  (y0 : Int32) (S : HS) (H : Heap) (locs : List Loc) (ls : Array Slot) (hf : fn_X8_canBecome_65 y0 S = some (rv, Z)) (hw : hWd D B cy A true hC S s.heap H locs) (hl : lv_has ls 2 []) : W p l e ({ frames := 1, cells := 0, slots := 0, locals := 22 } : Room) s m args below meth c H locs 0 0 (MQ below (hQo D B cy A true hC Z (some (.int rv))) args s 0 0 A) (F0 m 65 ls [.int y0]) := by
  unfold fn_X8_canBecome_65 at hf
  obtain ⟨g1, hf⟩ := gd_ok hf
  cases hf
  exact r_zret X hw g1 dX8_canBecome_65
set_option maxHeartbeats 4000000 in
theorem w_X8_canBecome_60 {p : Program} {l : Launch} {e : Env} {s : State} {m : MethodId} {args : Array Value} {below : List Frame} {meth : Method} {c : Code} {D : va_G} {B : Nat} {cy : Nat → ClassId} {A : Nat → Prop} {ad av : Nat → Nat} {rv : Int32} {Z : HS} (X : hCX p s m args meth c RX8 cX8_canBecome 2 (some .boolean) D cy A ad av)   (S : HS) (H : Heap) (locs : List Loc) (ls : Array Slot) (hf : fn_X8_canBecome_60 S = some (rv, Z)) (hw : hWd D B cy A true hC S s.heap H locs) (hl : lv_has ls 2 []) : W p l e ({ frames := 1, cells := 0, slots := 0, locals := 22 } : Room) s m args below meth c H locs 0 0 (MQ below (hQo D B cy A true hC Z (some (.int rv))) args s 0 0 A) (F0 m 60 ls []) := by
  unfold fn_X8_canBecome_60 at hf
  refine lv_iconst (v := 1) X.1 X.2.1 dX8_canBecome_60 (by decide) ?_
  refine lv_goto (tgt := 65) X.1 X.2.1 dX8_canBecome_61 (by decide) ?_
  exact w_X8_canBecome_65 X  _ _ _ _ _ hf hw (lv_sub hl [] rfl)
set_option maxHeartbeats 4000000 in
theorem w_X8_canBecome_37 {p : Program} {l : Launch} {e : Env} {s : State} {m : MethodId} {args : Array Value} {below : List Frame} {meth : Method} {c : Code} {D : va_G} {B : Nat} {cy : Nat → ClassId} {A : Nat → Prop} {ad av : Nat → Nat} {rv : Int32} {Z : HS} (X : hCX p s m args meth c RX8 cX8_canBecome 2 (some .boolean) D cy A ad av)  (y0 : Int32) (S : HS) (H : Heap) (locs : List Loc) (ls : Array Slot) (hf : fn_X8_canBecome_37 y0 S = some (rv, Z)) (hw : hWd D B cy A true hC S s.heap H locs) (hl : lv_has ls 2 []) : W p l e ({ frames := 1, cells := 0, slots := 0, locals := 22 } : Room) s m args below meth c H locs 0 0 (MQ below (hQo D B cy A true hC Z (some (.int rv))) args s 0 0 A) (F0 m 37 ls [.int y0]) := by
  unfold fn_X8_canBecome_37 at hf
  obtain ⟨g1, hf⟩ := gd_ok hf
  cases hf
  exact r_zret X hw g1 dX8_canBecome_37
set_option maxHeartbeats 4000000 in
theorem w_X8_canBecome_36 {p : Program} {l : Launch} {e : Env} {s : State} {m : MethodId} {args : Array Value} {below : List Frame} {meth : Method} {c : Code} {D : va_G} {B : Nat} {cy : Nat → ClassId} {A : Nat → Prop} {ad av : Nat → Nat} {rv : Int32} {Z : HS} (X : hCX p s m args meth c RX8 cX8_canBecome 2 (some .boolean) D cy A ad av)   (S : HS) (H : Heap) (locs : List Loc) (ls : Array Slot) (hf : fn_X8_canBecome_36 S = some (rv, Z)) (hw : hWd D B cy A true hC S s.heap H locs) (hl : lv_has ls 2 []) : W p l e ({ frames := 1, cells := 0, slots := 0, locals := 22 } : Room) s m args below meth c H locs 0 0 (MQ below (hQo D B cy A true hC Z (some (.int rv))) args s 0 0 A) (F0 m 36 ls []) := by
  unfold fn_X8_canBecome_36 at hf
  refine lv_iconst (v := 0) X.1 X.2.1 dX8_canBecome_36 (by decide) ?_
  exact w_X8_canBecome_37 X  _ _ _ _ _ hf hw (lv_sub hl [] rfl)
set_option maxHeartbeats 4000000 in
theorem w_X8_canBecome_10 {p : Program} {l : Launch} {e : Env} {s : State} {m : MethodId} {args : Array Value} {below : List Frame} {meth : Method} {c : Code} {D : va_G} {B : Nat} {cy : Nat → ClassId} {A : Nat → Prop} {ad av : Nat → Nat} {rv : Int32} {Z : HS} (X : hCX p s m args meth c RX8 cX8_canBecome 2 (some .boolean) D cy A ad av)   (S : HS) (H : Heap) (locs : List Loc) (ls : Array Slot) (hf : fn_X8_canBecome_10 S = some (rv, Z)) (hw : hWd D B cy A true hC S s.heap H locs) (hl : lv_has ls 2 []) : W p l e ({ frames := 1, cells := 0, slots := 0, locals := 22 } : Room) s m args below meth c H locs 0 0 (MQ below (hQo D B cy A true hC Z (some (.int rv))) args s 0 0 A) (F0 m 10 ls []) := by
  unfold fn_X8_canBecome_10 at hf
  refine lv_iconst (v := 0) X.1 X.2.1 dX8_canBecome_10 (by decide) ?_
  cases hf
  exact r_zret X hw (by decide) dX8_canBecome_11
theorem hd_X8_canBecome : yX8_canBecome.cls ≠ "java/lang/invoke/MethodHandle" ∧ yX8_canBecome.cls ≠ "java/lang/invoke/VarHandle" ∧ (parseMethodDescriptor yX8_canBecome.desc).map (fun d => d.parameters.length) = some 2 := by decide +kernel
set_option maxHeartbeats 4000000 in
theorem c_X8_canBecome (l : Launch) (D : va_G) (B : Nat) (cy : Nat → ClassId) (A : Nat → Prop) (ad av : Nat → Nat) (x0 : Int32) (x1 : Int32) {S Z : HS} {rv : Int32} (hfr : hFr S) (hG : hC S) (hf : fn_X8_canBecome x0 x1 S = some (rv, Z)) : hMet l yX8_canBecome cX8_canBecome 2 (some .boolean) ({ frames := 1, cells := 0, slots := 0, locals := 22 } : Room) D B cy A ad av true hC [.int x0, .int x1] S Z (some (.int rv)) 0 0 := by
  refine h_entry (by decide) hfr hG ?_
  intro p e s m below meth c args X hnm hw
  have hl := lv_entry ([.int x0, .int x1]) (n := 2) (Nat.le_of_ble_eq_true rfl)
  rw [lg_entry_eq]
  generalize (lg_sl ([.int x0, .int x1]) ++ List.replicate (2 - (lg_sl ([.int x0, .int x1])).length) Slot.unset).toArray = ls at hl ⊢
  have hl : lv_has ls 2 [(0, .int x0), (1, .int x1)] := hl
  unfold fn_X8_canBecome at hf
  refine lv_iload_n X.1 X.2.1 dX8_canBecome_0 rfl (lv_at hl 0 rfl) ?_
  refine lv_if_lt (tgt := 10) X.1 X.2.1 dX8_canBecome_1 (by decide) (fun hq => ?_) (fun hq => ?_)
  · replace hf := cd_tk hq hf
    exact w_X8_canBecome_10 X  _ _ _ _ hf hw (lv_sub hl [] rfl)
  · replace hf := cd_fk hq hf
    refine lv_iload_n X.1 X.2.1 dX8_canBecome_4 rfl (lv_at hl 0 rfl) ?_
    refine lv_bipush (v := 9) X.1 X.2.1 dX8_canBecome_5 (by decide) ?_
    refine lv_icmp_lt (tgt := 12) X.1 X.2.1 dX8_canBecome_7 (by decide) (fun hq => ?_) (fun hq => ?_)
    · replace hf := cd_tk hq hf
      refine lv_iload_n X.1 X.2.1 dX8_canBecome_12 rfl (lv_at hl 0 rfl) ?_
      refine lv_bipush (v := 6) X.1 X.2.1 dX8_canBecome_13 (by decide) ?_
      refine lv_icmp_ge (tgt := 38) X.1 X.2.1 dX8_canBecome_15 (by decide) (fun hq => ?_) (fun hq => ?_)
      · replace hf := cd_tk hq hf
        refine lv_iload_n X.1 X.2.1 dX8_canBecome_38 rfl (lv_at hl 0 rfl) ?_
        refine lv_bipush (v := 7) X.1 X.2.1 dX8_canBecome_39 (by decide) ?_
        refine lv_icmp_ne (tgt := 51) X.1 X.2.1 dX8_canBecome_41 (by decide) (fun hq => ?_) (fun hq => ?_)
        · replace hf := cd_fk hq hf
          refine lv_iload_n X.1 X.2.1 dX8_canBecome_51 rfl (lv_at hl 1 rfl) ?_
          refine lv_if_eq (tgt := 60) X.1 X.2.1 dX8_canBecome_52 (by decide) (fun hq => ?_) (fun hq => ?_)
          · replace hf := cd_tk hq hf
            exact w_X8_canBecome_60 X  _ _ _ _ hf hw (lv_sub hl [] rfl)
          · replace hf := cd_fk hq hf
            refine lv_iload_n X.1 X.2.1 dX8_canBecome_55 rfl (lv_at hl 1 rfl) ?_
            refine lv_iconst (v := 1) X.1 X.2.1 dX8_canBecome_56 (by decide) ?_
            refine lv_icmp_ne (tgt := 64) X.1 X.2.1 dX8_canBecome_57 (by decide) (fun hq => ?_) (fun hq => ?_)
            · replace hf := cd_fk hq hf
              refine lv_iconst (v := 0) X.1 X.2.1 dX8_canBecome_64 (by decide) ?_
              exact w_X8_canBecome_65 X  _ _ _ _ _ hf hw (lv_sub hl [] rfl)
            · replace hf := cd_tk hq hf
              exact w_X8_canBecome_60 X  _ _ _ _ hf hw (lv_sub hl [] rfl)
        · replace hf := cd_tk hq hf
          refine lv_iload_n X.1 X.2.1 dX8_canBecome_44 rfl (lv_at hl 1 rfl) ?_
          obtain ⟨r2, S1, hS1, hf⟩ := bn2_ok hf
          refine r_callS (As := [.int x1]) (rest := []) (st1 := [.int r2]) X hw (c_X8_isPart l D B cy A ad av x1 hw.2.2.2.2.1 hw.2.2.2.2.2 hS1) ⟨rfl, rfl, Nat.le_of_ble_eq_true rfl, Nat.le_of_ble_eq_true rfl⟩ tw_553 tw_554 tw_2 tw_555 hd_X8_isPart rfl hl.1 rfl (Nat.le_of_ble_eq_true rfl) dX8_canBecome_45 ⟨Nat.le_of_ble_eq_true rfl, Nat.le_of_ble_eq_true rfl⟩ rfl (fun H locs hw => ?_)
          refine lv_goto (tgt := 65) X.1 X.2.1 dX8_canBecome_48 (by decide) ?_
          exact w_X8_canBecome_65 X  _ _ _ _ _ hf hw (lv_sub hl [] rfl)
      · replace hf := cd_fk hq hf
        refine lv_iload_n X.1 X.2.1 dX8_canBecome_18 rfl (lv_at hl 1 rfl) ?_
        refine lv_sipush (v := (-9999)) X.1 X.2.1 dX8_canBecome_19 (by decide) ?_
        refine lv_icmp_lt (tgt := 36) X.1 X.2.1 dX8_canBecome_22 (by decide) (fun hq => ?_) (fun hq => ?_)
        · replace hf := cd_tk hq hf
          exact w_X8_canBecome_36 X  _ _ _ _ hf hw (lv_sub hl [] rfl)
        · replace hf := cd_fk hq hf
          refine lv_iload_n X.1 X.2.1 dX8_canBecome_25 rfl (lv_at hl 1 rfl) ?_
          refine lv_sipush (v := 9999) X.1 X.2.1 dX8_canBecome_26 (by decide) ?_
          refine lv_icmp_gt (tgt := 36) X.1 X.2.1 dX8_canBecome_29 (by decide) (fun hq => ?_) (fun hq => ?_)
          · replace hf := cd_tk hq hf
            exact w_X8_canBecome_36 X  _ _ _ _ hf hw (lv_sub hl [] rfl)
          · replace hf := cd_fk hq hf
            refine lv_iconst (v := 1) X.1 X.2.1 dX8_canBecome_32 (by decide) ?_
            refine lv_goto (tgt := 37) X.1 X.2.1 dX8_canBecome_33 (by decide) ?_
            exact w_X8_canBecome_37 X  _ _ _ _ _ hf hw (lv_sub hl [] rfl)
    · replace hf := cd_fk hq hf
      exact w_X8_canBecome_10 X  _ _ _ _ hf hw (lv_sub hl [] rfl)
set_option maxHeartbeats 4000000 in
theorem w_X8_placeOfAgreement_2 {p : Program} {l : Launch} {e : Env} {s : State} {m : MethodId} {args : Array Value} {below : List Frame} {meth : Method} {c : Code} {D : va_G} {B : Nat} {cy : Nat → ClassId} {A : Nat → Prop} {ad av : Nat → Nat} {rv : Int32} {Z : HS} (X : hCX p s m args meth c RX8 cX8_placeOfAgreement 3 (some .int) D cy A ad av)  : ∀ (n : Nat) (x1 : Int32) (x2 : Int32) (S : HS) (H : Heap) (locs : List Loc) (ls : Array Slot), fn_X8_placeOfAgreement_2 n x1 x2 S = some (rv, Z) → hWd D B cy A true hC S s.heap H locs → lv_has ls 3 [(0, .ref (B + 0)), (1, .int x1), (2, .int x2)] → W p l e ({ frames := 3, cells := 0, slots := 0, locals := 64 } : Room) s m args below meth c H locs 0 0 (MQ below (hQo D B cy A true hC Z (some (.int rv))) args s 0 0 A) (F0 m 2 ls []) := by
  intro n
  induction n with
  | zero =>
    intro x1 x2 S H locs ls hf
    cases hf
  | succ n ih =>
    intro x1 x2 S H locs ls hf hw hl
    rw [fn_X8_placeOfAgreement_2] at hf
    refine lv_iload_n X.1 X.2.1 dX8_placeOfAgreement_2 rfl (lv_at hl 2 rfl) ?_
    refine lv_aload_n X.1 X.2.1 dX8_placeOfAgreement_3 rfl (lv_at hl 0 rfl) ?_
    refine r_getF X hw (κ := 9) rfl inlX8 2 (by decide) rfl (by decide) tw_21 (hCk hw.2.2.2.2.2 0 (by decide) rfl) (hCr (c := 0) (k := 2) (d := 4) hw.2.2.2.2.2 (by decide)) dX8_placeOfAgreement_4 ?_
    obtain ⟨r2, S1, hS1, hf⟩ := bn2_ok hf
    refine r_callV (As := []) (rest := [.int x2]) (st1 := [.int r2, .int x2]) (κ := 0) X hw (c_Jl_size l D B cy A ad av _ _ 4 hw.2.2.2.2.1 hw.2.2.2.2.2 hS1) ⟨rfl, rfl, Nat.le_of_ble_eq_true rfl, Nat.le_of_ble_eq_true rfl⟩ rfl (by decide) (hCk hw.2.2.2.2.2 4 (by decide) rfl) tw_174 tw_175 tw_176 tw_20 tw_177 hd_Jl_size rfl hl.1 rfl (Nat.le_of_ble_eq_true rfl) dX8_placeOfAgreement_7 ⟨Nat.le_of_ble_eq_true rfl, Nat.le_of_ble_eq_true rfl⟩ rfl (fun H locs hw => ?_)
    refine lv_icmp_ge (tgt := 39) X.1 X.2.1 dX8_placeOfAgreement_10 (by decide) (fun hq => ?_) (fun hq => ?_)
    · replace hf := cd_tk hq hf
      refine lv_aload_n X.1 X.2.1 dX8_placeOfAgreement_39 rfl (lv_at hl 0 rfl) ?_
      refine r_getF X hw (κ := 9) rfl inlX8 2 (by decide) rfl (by decide) tw_21 (hCk hw.2.2.2.2.2 0 (by decide) rfl) (hCr (c := 0) (k := 2) (d := 4) hw.2.2.2.2.2 (by decide)) dX8_placeOfAgreement_40 ?_
      obtain ⟨r4, S3, hS3, hf⟩ := bn2_ok hf
      refine r_callV (As := []) (rest := []) (st1 := [.int r4]) (κ := 0) X hw (c_Jl_size l D B cy A ad av _ _ 4 hw.2.2.2.2.1 hw.2.2.2.2.2 hS3) ⟨rfl, rfl, Nat.le_of_ble_eq_true rfl, Nat.le_of_ble_eq_true rfl⟩ rfl (by decide) (hCk hw.2.2.2.2.2 4 (by decide) rfl) tw_174 tw_175 tw_176 tw_20 tw_177 hd_Jl_size rfl hl.1 rfl (Nat.le_of_ble_eq_true rfl) dX8_placeOfAgreement_43 ⟨Nat.le_of_ble_eq_true rfl, Nat.le_of_ble_eq_true rfl⟩ rfl (fun H locs hw => ?_)
      cases hf
      exact r_iret X hw dX8_placeOfAgreement_46
    · replace hf := cd_fk hq hf
      refine lv_aload_n X.1 X.2.1 dX8_placeOfAgreement_13 rfl (lv_at hl 0 rfl) ?_
      refine r_getF X hw (κ := 9) rfl inlX8 2 (by decide) rfl (by decide) tw_21 (hCk hw.2.2.2.2.2 0 (by decide) rfl) (hCr (c := 0) (k := 2) (d := 4) hw.2.2.2.2.2 (by decide)) dX8_placeOfAgreement_14 ?_
      refine lv_iload_n X.1 X.2.1 dX8_placeOfAgreement_17 rfl (lv_at hl 2 rfl) ?_
      obtain ⟨r6, S5, hS5, hf⟩ := bn2_ok hf
      refine r_callV (As := [.int x2]) (rest := []) (st1 := [va_rf (Option.map (B + ·) r6)]) (κ := 0) X hw (c_Jl_get l D B cy A ad av _ _ 4 x2 hw.2.2.2.2.1 hw.2.2.2.2.2 hS5) ⟨rfl, rfl, Nat.le_of_ble_eq_true rfl, Nat.le_of_ble_eq_true rfl⟩ rfl (by decide) (hCk hw.2.2.2.2.2 4 (by decide) rfl) tw_419 tw_420 tw_421 tw_20 tw_422 hd_Jl_get rfl hl.1 rfl (Nat.le_of_ble_eq_true rfl) dX8_placeOfAgreement_18 ⟨Nat.le_of_ble_eq_true rfl, Nat.le_of_ble_eq_true rfl⟩ rfl (fun H locs hw => ?_)
      obtain ⟨c7, ec7, hf⟩ := bn_ok hf
      rw [ec7]
      obtain ⟨g8, hf⟩ := gd_ok hf
      refine r_cast X hw (κ := 1) rfl (by decide) tw_165 g8 dX8_placeOfAgreement_21 ?_
      obtain ⟨g9, hf⟩ := gd_ok hf
      refine r_getI X hw (κ := 1) rfl inlX0 1 (by decide) rfl (by decide) tw_418 g9 dX8_placeOfAgreement_24 ?_
      refine lv_iload_n X.1 X.2.1 dX8_placeOfAgreement_27 rfl (lv_at hl 1 rfl) ?_
      refine lv_icmp_le (tgt := 33) X.1 X.2.1 dX8_placeOfAgreement_28 (by decide) (fun hq => ?_) (fun hq => ?_)
      · replace hf := cd_tk hq hf
        obtain ⟨v10, ev10, hf⟩ := bn_ok hf
        replace ev10 := Option.some.inj ev10
        refine lv_iinc (v := v10) (lv' := [(2, .int v10), (0, .ref (B + 0)), (1, .int x1)]) X.1 X.2.1 dX8_placeOfAgreement_33 hl (k := 2) rfl ev10 (by decide) rfl (fun ls hl => ?_)
        refine lv_goto (tgt := 2) X.1 X.2.1 dX8_placeOfAgreement_36 (by decide) ?_
        exact ih _ _ _ _ _ _ hf hw (lv_sub hl [1, 2, 0] rfl)
      · replace hf := cd_fk hq hf
        refine lv_iload_n X.1 X.2.1 dX8_placeOfAgreement_31 rfl (lv_at hl 2 rfl) ?_
        cases hf
        exact r_iret X hw dX8_placeOfAgreement_32
theorem hd_X8_placeOfAgreement : yX8_placeOfAgreement.cls = RX8 ∧ yX8_placeOfAgreement.cls ≠ "java/lang/invoke/MethodHandle" ∧ yX8_placeOfAgreement.cls ≠ "java/lang/invoke/VarHandle" ∧ (parseMethodDescriptor yX8_placeOfAgreement.desc).map (fun d => d.parameters.length) = some 1 := by decide +kernel
set_option maxHeartbeats 4000000 in
theorem c_X8_placeOfAgreement (l : Launch) (D : va_G) (B : Nat) (cy : Nat → ClassId) (A : Nat → Prop) (ad av : Nat → Nat) (x1 : Int32) {S Z : HS} {rv : Int32} (hfr : hFr S) (hG : hC S) (hf : fn_X8_placeOfAgreement x1 S = some (rv, Z)) : hMet l yX8_placeOfAgreement cX8_placeOfAgreement 3 (some .int) ({ frames := 3, cells := 0, slots := 0, locals := 64 } : Room) D B cy A ad av true hC [.ref (B + 0), .int x1] S Z (some (.int rv)) 0 0 := by
  refine h_entry (by decide) hfr hG ?_
  intro p e s m below meth c args X hnm hw
  have hl := lv_entry ([.ref (B + 0), .int x1]) (n := 3) (Nat.le_of_ble_eq_true rfl)
  rw [lg_entry_eq]
  generalize (lg_sl ([.ref (B + 0), .int x1]) ++ List.replicate (3 - (lg_sl ([.ref (B + 0), .int x1])).length) Slot.unset).toArray = ls at hl ⊢
  have hl : lv_has ls 3 [(0, .ref (B + 0)), (1, .int x1)] := hl
  unfold fn_X8_placeOfAgreement at hf
  refine lv_iconst (v := 0) X.1 X.2.1 dX8_placeOfAgreement_0 (by decide) ?_
  refine lv_istore_n (lv' := [(2, .int 0), (0, .ref (B + 0)), (1, .int x1)]) X.1 X.2.1 dX8_placeOfAgreement_1 rfl hl (by decide) rfl (fun ls hl => ?_)
  exact w_X8_placeOfAgreement_2 X  _ _ _ _ _ _ _ hf hw (lv_sub hl [1, 2, 0] rfl)
set_option maxHeartbeats 4000000 in
theorem w_X8_placeOfNote_2 {p : Program} {l : Launch} {e : Env} {s : State} {m : MethodId} {args : Array Value} {below : List Frame} {meth : Method} {c : Code} {D : va_G} {B : Nat} {cy : Nat → ClassId} {A : Nat → Prop} {ad av : Nat → Nat} {rv : Int32} {Z : HS} (X : hCX p s m args meth c RX8 cX8_placeOfNote 3 (some .int) D cy A ad av)  : ∀ (n : Nat) (x1 : Int32) (x2 : Int32) (S : HS) (H : Heap) (locs : List Loc) (ls : Array Slot), fn_X8_placeOfNote_2 n x1 x2 S = some (rv, Z) → hWd D B cy A true hC S s.heap H locs → lv_has ls 3 [(0, .ref (B + 0)), (1, .int x1), (2, .int x2)] → W p l e ({ frames := 3, cells := 0, slots := 0, locals := 64 } : Room) s m args below meth c H locs 0 0 (MQ below (hQo D B cy A true hC Z (some (.int rv))) args s 0 0 A) (F0 m 2 ls []) := by
  intro n
  induction n with
  | zero =>
    intro x1 x2 S H locs ls hf
    cases hf
  | succ n ih =>
    intro x1 x2 S H locs ls hf hw hl
    rw [fn_X8_placeOfNote_2] at hf
    refine lv_iload_n X.1 X.2.1 dX8_placeOfNote_2 rfl (lv_at hl 2 rfl) ?_
    refine lv_aload_n X.1 X.2.1 dX8_placeOfNote_3 rfl (lv_at hl 0 rfl) ?_
    refine r_getF X hw (κ := 9) rfl inlX8 3 (by decide) rfl (by decide) tw_22 (hCk hw.2.2.2.2.2 0 (by decide) rfl) (hCr (c := 0) (k := 3) (d := 5) hw.2.2.2.2.2 (by decide)) dX8_placeOfNote_4 ?_
    obtain ⟨r2, S1, hS1, hf⟩ := bn2_ok hf
    refine r_callV (As := []) (rest := [.int x2]) (st1 := [.int r2, .int x2]) (κ := 0) X hw (c_Jl_size l D B cy A ad av _ _ 5 hw.2.2.2.2.1 hw.2.2.2.2.2 hS1) ⟨rfl, rfl, Nat.le_of_ble_eq_true rfl, Nat.le_of_ble_eq_true rfl⟩ rfl (by decide) (hCk hw.2.2.2.2.2 5 (by decide) rfl) tw_174 tw_175 tw_176 tw_20 tw_177 hd_Jl_size rfl hl.1 rfl (Nat.le_of_ble_eq_true rfl) dX8_placeOfNote_7 ⟨Nat.le_of_ble_eq_true rfl, Nat.le_of_ble_eq_true rfl⟩ rfl (fun H locs hw => ?_)
    refine lv_icmp_ge (tgt := 39) X.1 X.2.1 dX8_placeOfNote_10 (by decide) (fun hq => ?_) (fun hq => ?_)
    · replace hf := cd_tk hq hf
      refine lv_aload_n X.1 X.2.1 dX8_placeOfNote_39 rfl (lv_at hl 0 rfl) ?_
      refine r_getF X hw (κ := 9) rfl inlX8 3 (by decide) rfl (by decide) tw_22 (hCk hw.2.2.2.2.2 0 (by decide) rfl) (hCr (c := 0) (k := 3) (d := 5) hw.2.2.2.2.2 (by decide)) dX8_placeOfNote_40 ?_
      obtain ⟨r4, S3, hS3, hf⟩ := bn2_ok hf
      refine r_callV (As := []) (rest := []) (st1 := [.int r4]) (κ := 0) X hw (c_Jl_size l D B cy A ad av _ _ 5 hw.2.2.2.2.1 hw.2.2.2.2.2 hS3) ⟨rfl, rfl, Nat.le_of_ble_eq_true rfl, Nat.le_of_ble_eq_true rfl⟩ rfl (by decide) (hCk hw.2.2.2.2.2 5 (by decide) rfl) tw_174 tw_175 tw_176 tw_20 tw_177 hd_Jl_size rfl hl.1 rfl (Nat.le_of_ble_eq_true rfl) dX8_placeOfNote_43 ⟨Nat.le_of_ble_eq_true rfl, Nat.le_of_ble_eq_true rfl⟩ rfl (fun H locs hw => ?_)
      cases hf
      exact r_iret X hw dX8_placeOfNote_46
    · replace hf := cd_fk hq hf
      refine lv_aload_n X.1 X.2.1 dX8_placeOfNote_13 rfl (lv_at hl 0 rfl) ?_
      refine r_getF X hw (κ := 9) rfl inlX8 3 (by decide) rfl (by decide) tw_22 (hCk hw.2.2.2.2.2 0 (by decide) rfl) (hCr (c := 0) (k := 3) (d := 5) hw.2.2.2.2.2 (by decide)) dX8_placeOfNote_14 ?_
      refine lv_iload_n X.1 X.2.1 dX8_placeOfNote_17 rfl (lv_at hl 2 rfl) ?_
      obtain ⟨r6, S5, hS5, hf⟩ := bn2_ok hf
      refine r_callV (As := [.int x2]) (rest := []) (st1 := [va_rf (Option.map (B + ·) r6)]) (κ := 0) X hw (c_Jl_get l D B cy A ad av _ _ 5 x2 hw.2.2.2.2.1 hw.2.2.2.2.2 hS5) ⟨rfl, rfl, Nat.le_of_ble_eq_true rfl, Nat.le_of_ble_eq_true rfl⟩ rfl (by decide) (hCk hw.2.2.2.2.2 5 (by decide) rfl) tw_419 tw_420 tw_421 tw_20 tw_422 hd_Jl_get rfl hl.1 rfl (Nat.le_of_ble_eq_true rfl) dX8_placeOfNote_18 ⟨Nat.le_of_ble_eq_true rfl, Nat.le_of_ble_eq_true rfl⟩ rfl (fun H locs hw => ?_)
      obtain ⟨c7, ec7, hf⟩ := bn_ok hf
      rw [ec7]
      obtain ⟨g8, hf⟩ := gd_ok hf
      refine r_cast X hw (κ := 4) rfl (by decide) tw_543 g8 dX8_placeOfNote_21 ?_
      obtain ⟨g9, hf⟩ := gd_ok hf
      refine r_getI X hw (κ := 4) rfl inlX3 2 (by decide) rfl (by decide) tw_561 g9 dX8_placeOfNote_24 ?_
      refine lv_iload_n X.1 X.2.1 dX8_placeOfNote_27 rfl (lv_at hl 1 rfl) ?_
      refine lv_icmp_le (tgt := 33) X.1 X.2.1 dX8_placeOfNote_28 (by decide) (fun hq => ?_) (fun hq => ?_)
      · replace hf := cd_tk hq hf
        obtain ⟨v10, ev10, hf⟩ := bn_ok hf
        replace ev10 := Option.some.inj ev10
        refine lv_iinc (v := v10) (lv' := [(2, .int v10), (0, .ref (B + 0)), (1, .int x1)]) X.1 X.2.1 dX8_placeOfNote_33 hl (k := 2) rfl ev10 (by decide) rfl (fun ls hl => ?_)
        refine lv_goto (tgt := 2) X.1 X.2.1 dX8_placeOfNote_36 (by decide) ?_
        exact ih _ _ _ _ _ _ hf hw (lv_sub hl [1, 2, 0] rfl)
      · replace hf := cd_fk hq hf
        refine lv_iload_n X.1 X.2.1 dX8_placeOfNote_31 rfl (lv_at hl 2 rfl) ?_
        cases hf
        exact r_iret X hw dX8_placeOfNote_32
theorem hd_X8_placeOfNote : yX8_placeOfNote.cls = RX8 ∧ yX8_placeOfNote.cls ≠ "java/lang/invoke/MethodHandle" ∧ yX8_placeOfNote.cls ≠ "java/lang/invoke/VarHandle" ∧ (parseMethodDescriptor yX8_placeOfNote.desc).map (fun d => d.parameters.length) = some 1 := by decide +kernel
set_option maxHeartbeats 4000000 in
theorem c_X8_placeOfNote (l : Launch) (D : va_G) (B : Nat) (cy : Nat → ClassId) (A : Nat → Prop) (ad av : Nat → Nat) (x1 : Int32) {S Z : HS} {rv : Int32} (hfr : hFr S) (hG : hC S) (hf : fn_X8_placeOfNote x1 S = some (rv, Z)) : hMet l yX8_placeOfNote cX8_placeOfNote 3 (some .int) ({ frames := 3, cells := 0, slots := 0, locals := 64 } : Room) D B cy A ad av true hC [.ref (B + 0), .int x1] S Z (some (.int rv)) 0 0 := by
  refine h_entry (by decide) hfr hG ?_
  intro p e s m below meth c args X hnm hw
  have hl := lv_entry ([.ref (B + 0), .int x1]) (n := 3) (Nat.le_of_ble_eq_true rfl)
  rw [lg_entry_eq]
  generalize (lg_sl ([.ref (B + 0), .int x1]) ++ List.replicate (3 - (lg_sl ([.ref (B + 0), .int x1])).length) Slot.unset).toArray = ls at hl ⊢
  have hl : lv_has ls 3 [(0, .ref (B + 0)), (1, .int x1)] := hl
  unfold fn_X8_placeOfNote at hf
  refine lv_iconst (v := 0) X.1 X.2.1 dX8_placeOfNote_0 (by decide) ?_
  refine lv_istore_n (lv' := [(2, .int 0), (0, .ref (B + 0)), (1, .int x1)]) X.1 X.2.1 dX8_placeOfNote_1 rfl hl (by decide) rfl (fun ls hl => ?_)
  exact w_X8_placeOfNote_2 X  _ _ _ _ _ _ _ hf hw (lv_sub hl [1, 2, 0] rfl)
set_option maxHeartbeats 4000000 in
theorem w_X8_look_35 {p : Program} {l : Launch} {e : Env} {s : State} {m : MethodId} {args : Array Value} {below : List Frame} {meth : Method} {c : Code} {D : va_G} {B : Nat} {cy : Nat → ClassId} {A : Nat → Prop} {ad av : Nat → Nat} {rv : Int32} {Z : HS} (X : hCX p s m args meth c RX8 cX8_look 5 (some .int) D cy A ad av)   (S : HS) (H : Heap) (locs : List Loc) (ls : Array Slot) (hf : fn_X8_look_35 S = some (rv, Z)) (hw : hWd D B cy A true hC S s.heap H locs) (hl : lv_has ls 5 []) : W p l e ({ frames := 7, cells := 0, slots := 0, locals := 152 } : Room) s m args below meth c H locs 0 0 (MQ below (hQo D B cy A true hC Z (some (.int rv))) args s 0 0 A) (F0 m 35 ls []) := by
  unfold fn_X8_look_35 at hf
  refine lv_ldc X.1 X.2.1 X.2.2.2.1 (X.2.2.2.2.1 _ tw_583) dX8_look_35 ?_
  cases hf
  exact r_iret X hw dX8_look_37
theorem hd_X8_look : yX8_look.cls = RX8 ∧ yX8_look.cls ≠ "java/lang/invoke/MethodHandle" ∧ yX8_look.cls ≠ "java/lang/invoke/VarHandle" ∧ (parseMethodDescriptor yX8_look.desc).map (fun d => d.parameters.length) = some 4 := by decide +kernel
set_option maxHeartbeats 4000000 in
theorem c_X8_look (l : Launch) (D : va_G) (B : Nat) (cy : Nat → ClassId) (A : Nat → Prop) (ad av : Nat → Nat) (x1 : Int32) (x2 : Int32) (x3 : Int32) (x4 : Int32) {S Z : HS} {rv : Int32} (hfr : hFr S) (hG : hC S) (hf : fn_X8_look x1 x2 x3 x4 S = some (rv, Z)) : hMet l yX8_look cX8_look 5 (some .int) ({ frames := 7, cells := 0, slots := 0, locals := 152 } : Room) D B cy A ad av true hC [.ref (B + 0), .int x1, .int x2, .int x3, .int x4] S Z (some (.int rv)) 0 0 := by
  refine h_entry (by decide) hfr hG ?_
  intro p e s m below meth c args X hnm hw
  have hl := lv_entry ([.ref (B + 0), .int x1, .int x2, .int x3, .int x4]) (n := 5) (Nat.le_of_ble_eq_true rfl)
  rw [lg_entry_eq]
  generalize (lg_sl ([.ref (B + 0), .int x1, .int x2, .int x3, .int x4]) ++ List.replicate (5 - (lg_sl ([.ref (B + 0), .int x1, .int x2, .int x3, .int x4])).length) Slot.unset).toArray = ls at hl ⊢
  have hl : lv_has ls 5 [(0, .ref (B + 0)), (1, .int x1), (2, .int x2), (3, .int x3), (4, .int x4)] := hl
  unfold fn_X8_look at hf
  refine lv_aload_n X.1 X.2.1 dX8_look_0 rfl (lv_at hl 0 rfl) ?_
  refine lv_iload_n X.1 X.2.1 dX8_look_1 rfl (lv_at hl 1 rfl) ?_
  obtain ⟨r2, S1, hS1, hf⟩ := bn2_ok hf
  refine r_callV (As := [.int x1]) (rest := []) (st1 := [.int r2]) (κ := 9) X hw (c_X8_isPost l D B cy A ad av x1 hw.2.2.2.2.1 hw.2.2.2.2.2 hS1) ⟨rfl, rfl, Nat.le_of_ble_eq_true rfl, Nat.le_of_ble_eq_true rfl⟩ rfl (by decide) (hCk hw.2.2.2.2.2 0 (by decide) rfl) tw_546 tw_547 tw_548 tw_2 tw_549 hd_X8_isPost rfl hl.1 rfl (Nat.le_of_ble_eq_true rfl) dX8_look_2 ⟨Nat.le_of_ble_eq_true rfl, Nat.le_of_ble_eq_true rfl⟩ rfl (fun H locs hw => ?_)
  refine lv_if_eq (tgt := 35) X.1 X.2.1 dX8_look_5 (by decide) (fun hq => ?_) (fun hq => ?_)
  · replace hf := cd_tk hq hf
    exact w_X8_look_35 X  _ _ _ _ hf hw (lv_sub hl [] rfl)
  · replace hf := cd_fk hq hf
    refine lv_iload_n X.1 X.2.1 dX8_look_8 rfl (lv_at hl 2 rfl) ?_
    obtain ⟨r4, S3, hS3, hf⟩ := bn2_ok hf
    refine r_callS (As := [.int x2]) (rest := []) (st1 := [.int r4]) X hw (c_X8_isDay l D B cy A ad av x2 hw.2.2.2.2.1 hw.2.2.2.2.2 hS3) ⟨rfl, rfl, Nat.le_of_ble_eq_true rfl, Nat.le_of_ble_eq_true rfl⟩ tw_171 tw_172 tw_2 tw_173 hd_X8_isDay rfl hl.1 rfl (Nat.le_of_ble_eq_true rfl) dX8_look_9 ⟨Nat.le_of_ble_eq_true rfl, Nat.le_of_ble_eq_true rfl⟩ rfl (fun H locs hw => ?_)
    refine lv_if_eq (tgt := 35) X.1 X.2.1 dX8_look_12 (by decide) (fun hq => ?_) (fun hq => ?_)
    · replace hf := cd_tk hq hf
      exact w_X8_look_35 X  _ _ _ _ hf hw (lv_sub hl [] rfl)
    · replace hf := cd_fk hq hf
      refine lv_aload_n X.1 X.2.1 dX8_look_15 rfl (lv_at hl 0 rfl) ?_
      refine lv_iload_n X.1 X.2.1 dX8_look_16 rfl (lv_at hl 3 rfl) ?_
      obtain ⟨r6, S5, hS5, hf⟩ := bn2_ok hf
      refine r_callV (As := [.int x3]) (rest := []) (st1 := [.int r6]) (κ := 9) X hw (c_X8_isKnown l D B cy A ad av x3 hw.2.2.2.2.1 hw.2.2.2.2.2 hS5) ⟨rfl, rfl, Nat.le_of_ble_eq_true rfl, Nat.le_of_ble_eq_true rfl⟩ rfl (by decide) (hCk hw.2.2.2.2.2 0 (by decide) rfl) tw_584 tw_585 tw_586 tw_2 tw_587 hd_X8_isKnown rfl hl.1 rfl (Nat.le_of_ble_eq_true rfl) dX8_look_17 ⟨Nat.le_of_ble_eq_true rfl, Nat.le_of_ble_eq_true rfl⟩ rfl (fun H locs hw => ?_)
      refine lv_if_eq (tgt := 35) X.1 X.2.1 dX8_look_20 (by decide) (fun hq => ?_) (fun hq => ?_)
      · replace hf := cd_tk hq hf
        exact w_X8_look_35 X  _ _ _ _ hf hw (lv_sub hl [] rfl)
      · replace hf := cd_fk hq hf
        refine lv_iload X.1 X.2.1 dX8_look_23 (lv_at hl 4 rfl) ?_
        refine lv_if_lt (tgt := 35) X.1 X.2.1 dX8_look_25 (by decide) (fun hq => ?_) (fun hq => ?_)
        · replace hf := cd_tk hq hf
          exact w_X8_look_35 X  _ _ _ _ hf hw (lv_sub hl [] rfl)
        · replace hf := cd_fk hq hf
          refine lv_iload X.1 X.2.1 dX8_look_28 (lv_at hl 4 rfl) ?_
          refine lv_bipush (v := 16) X.1 X.2.1 dX8_look_30 (by decide) ?_
          refine lv_icmp_lt (tgt := 38) X.1 X.2.1 dX8_look_32 (by decide) (fun hq => ?_) (fun hq => ?_)
          · replace hf := cd_tk hq hf
            refine lv_aload_n X.1 X.2.1 dX8_look_38 rfl (lv_at hl 0 rfl) ?_
            refine r_getF X hw (κ := 9) rfl inlX8 6 (by decide) rfl (by decide) tw_32 (hCk hw.2.2.2.2.2 0 (by decide) rfl) (hCr (c := 0) (k := 6) (d := 11) hw.2.2.2.2.2 (by decide)) dX8_look_39 ?_
            refine lv_iload_n X.1 X.2.1 dX8_look_42 rfl (lv_at hl 1 rfl) ?_
            refine lv_iload_n X.1 X.2.1 dX8_look_43 rfl (lv_at hl 3 rfl) ?_
            obtain ⟨S7, hS7, hf⟩ := bn_ok hf
            refine r_callV (As := [.int x1, .int x3]) (rest := []) (st1 := []) (κ := 8) X hw (c_X7_begin l D B cy A ad av x1 x3 hw.2.2.2.2.1 hw.2.2.2.2.2 hS7) ⟨rfl, rfl, Nat.le_of_ble_eq_true rfl, Nat.le_of_ble_eq_true rfl⟩ rfl (by decide) (hCk hw.2.2.2.2.2 11 (by decide) rfl) tw_588 tw_589 tw_590 tw_31 tw_591 hd_X7_begin rfl hl.1 rfl (Nat.le_of_ble_eq_true rfl) dX8_look_44 ⟨Nat.le_of_ble_eq_true rfl, Nat.le_of_ble_eq_true rfl⟩ rfl (fun H locs hw => ?_)
            refine lv_aload_n X.1 X.2.1 dX8_look_47 rfl (lv_at hl 0 rfl) ?_
            refine r_getF X hw (κ := 9) rfl inlX8 6 (by decide) rfl (by decide) tw_32 (hCk hw.2.2.2.2.2 0 (by decide) rfl) (hCr (c := 0) (k := 6) (d := 11) hw.2.2.2.2.2 (by decide)) dX8_look_48 ?_
            refine lv_iload_n X.1 X.2.1 dX8_look_51 rfl (lv_at hl 2 rfl) ?_
            obtain ⟨S8, hS8, hf⟩ := bn_ok hf
            refine r_callV (As := [.int x2]) (rest := []) (st1 := []) (κ := 8) X hw (c_X7_goTo l D B cy A ad av x2 hw.2.2.2.2.1 hw.2.2.2.2.2 hS8) ⟨rfl, rfl, Nat.le_of_ble_eq_true rfl, Nat.le_of_ble_eq_true rfl⟩ rfl (by decide) (hCk hw.2.2.2.2.2 11 (by decide) rfl) tw_716 tw_717 tw_718 tw_31 tw_719 hd_X7_goTo rfl hl.1 rfl (Nat.le_of_ble_eq_true rfl) dX8_look_52 ⟨Nat.le_of_ble_eq_true rfl, Nat.le_of_ble_eq_true rfl⟩ rfl (fun H locs hw => ?_)
            refine lv_aload_n X.1 X.2.1 dX8_look_55 rfl (lv_at hl 0 rfl) ?_
            refine r_getF X hw (κ := 9) rfl inlX8 6 (by decide) rfl (by decide) tw_32 (hCk hw.2.2.2.2.2 0 (by decide) rfl) (hCr (c := 0) (k := 6) (d := 11) hw.2.2.2.2.2 (by decide)) dX8_look_56 ?_
            refine lv_iload X.1 X.2.1 dX8_look_59 (lv_at hl 4 rfl) ?_
            obtain ⟨r10, S9, hS9, hf⟩ := bn2_ok hf
            refine r_callV (As := [.int x4]) (rest := []) (st1 := [.int r10]) (κ := 8) X hw (c_X7_tell l D B cy A ad av x4 hw.2.2.2.2.1 hw.2.2.2.2.2 hS9) ⟨rfl, rfl, Nat.le_of_ble_eq_true rfl, Nat.le_of_ble_eq_true rfl⟩ rfl (by decide) (hCk hw.2.2.2.2.2 11 (by decide) rfl) tw_739 tw_740 tw_741 tw_31 tw_742 hd_X7_tell rfl hl.1 rfl (Nat.le_of_ble_eq_true rfl) dX8_look_61 ⟨Nat.le_of_ble_eq_true rfl, Nat.le_of_ble_eq_true rfl⟩ rfl (fun H locs hw => ?_)
            cases hf
            exact r_iret X hw dX8_look_64
          · replace hf := cd_fk hq hf
            exact w_X8_look_35 X  _ _ _ _ hf hw (lv_sub hl [] rfl)
set_option maxHeartbeats 4000000 in
theorem w_X8_pay_23 {p : Program} {l : Launch} {e : Env} {s : State} {m : MethodId} {args : Array Value} {below : List Frame} {meth : Method} {c : Code} {D : va_G} {B : Nat} {cy : Nat → ClassId} {A : Nat → Prop} {ad av : Nat → Nat} {rv : Int64} {Z : HS} (X : hCX p s m args meth c RX8 cX8_pay 4 (some .long) D cy A ad av)   (S : HS) (H : Heap) (locs : List Loc) (ls : Array Slot) (hf : fn_X8_pay_23 S = some (rv, Z)) (hw : hWd D B cy A true hC S s.heap H locs) (hl : lv_has ls 4 []) : W p l e ({ frames := 7, cells := 0, slots := 0, locals := 152 } : Room) s m args below meth c H locs 0 0 (MQ below (hQo D B cy A true hC Z (some (.long rv))) args s 0 0 A) (F0 m 23 ls []) := by
  unfold fn_X8_pay_23 at hf
  refine lv_ldc2 X.1 X.2.1 X.2.2.2.1 (X.2.2.2.2.1 _ tw_806) dX8_pay_23 ?_
  cases hf
  exact r_lret X hw dX8_pay_26
theorem hd_X8_pay : yX8_pay.cls = RX8 ∧ yX8_pay.cls ≠ "java/lang/invoke/MethodHandle" ∧ yX8_pay.cls ≠ "java/lang/invoke/VarHandle" ∧ (parseMethodDescriptor yX8_pay.desc).map (fun d => d.parameters.length) = some 3 := by decide +kernel
set_option maxHeartbeats 4000000 in
theorem c_X8_pay (l : Launch) (D : va_G) (B : Nat) (cy : Nat → ClassId) (A : Nat → Prop) (ad av : Nat → Nat) (x1 : Int32) (x2 : Int32) (x3 : Int32) {S Z : HS} {rv : Int64} (hfr : hFr S) (hG : hC S) (hf : fn_X8_pay x1 x2 x3 S = some (rv, Z)) : hMet l yX8_pay cX8_pay 4 (some .long) ({ frames := 7, cells := 0, slots := 0, locals := 152 } : Room) D B cy A ad av true hC [.ref (B + 0), .int x1, .int x2, .int x3] S Z (some (.long rv)) 0 0 := by
  refine h_entry (by decide) hfr hG ?_
  intro p e s m below meth c args X hnm hw
  have hl := lv_entry ([.ref (B + 0), .int x1, .int x2, .int x3]) (n := 4) (Nat.le_of_ble_eq_true rfl)
  rw [lg_entry_eq]
  generalize (lg_sl ([.ref (B + 0), .int x1, .int x2, .int x3]) ++ List.replicate (4 - (lg_sl ([.ref (B + 0), .int x1, .int x2, .int x3])).length) Slot.unset).toArray = ls at hl ⊢
  have hl : lv_has ls 4 [(0, .ref (B + 0)), (1, .int x1), (2, .int x2), (3, .int x3)] := hl
  unfold fn_X8_pay at hf
  refine lv_aload_n X.1 X.2.1 dX8_pay_0 rfl (lv_at hl 0 rfl) ?_
  refine lv_iload_n X.1 X.2.1 dX8_pay_1 rfl (lv_at hl 1 rfl) ?_
  obtain ⟨r2, S1, hS1, hf⟩ := bn2_ok hf
  refine r_callV (As := [.int x1]) (rest := []) (st1 := [.int r2]) (κ := 9) X hw (c_X8_isPost l D B cy A ad av x1 hw.2.2.2.2.1 hw.2.2.2.2.2 hS1) ⟨rfl, rfl, Nat.le_of_ble_eq_true rfl, Nat.le_of_ble_eq_true rfl⟩ rfl (by decide) (hCk hw.2.2.2.2.2 0 (by decide) rfl) tw_546 tw_547 tw_548 tw_2 tw_549 hd_X8_isPost rfl hl.1 rfl (Nat.le_of_ble_eq_true rfl) dX8_pay_2 ⟨Nat.le_of_ble_eq_true rfl, Nat.le_of_ble_eq_true rfl⟩ rfl (fun H locs hw => ?_)
  refine lv_if_eq (tgt := 23) X.1 X.2.1 dX8_pay_5 (by decide) (fun hq => ?_) (fun hq => ?_)
  · replace hf := cd_tk hq hf
    exact w_X8_pay_23 X  _ _ _ _ hf hw (lv_sub hl [] rfl)
  · replace hf := cd_fk hq hf
    refine lv_iload_n X.1 X.2.1 dX8_pay_8 rfl (lv_at hl 2 rfl) ?_
    obtain ⟨r4, S3, hS3, hf⟩ := bn2_ok hf
    refine r_callS (As := [.int x2]) (rest := []) (st1 := [.int r4]) X hw (c_X8_isDay l D B cy A ad av x2 hw.2.2.2.2.1 hw.2.2.2.2.2 hS3) ⟨rfl, rfl, Nat.le_of_ble_eq_true rfl, Nat.le_of_ble_eq_true rfl⟩ tw_171 tw_172 tw_2 tw_173 hd_X8_isDay rfl hl.1 rfl (Nat.le_of_ble_eq_true rfl) dX8_pay_9 ⟨Nat.le_of_ble_eq_true rfl, Nat.le_of_ble_eq_true rfl⟩ rfl (fun H locs hw => ?_)
    refine lv_if_eq (tgt := 23) X.1 X.2.1 dX8_pay_12 (by decide) (fun hq => ?_) (fun hq => ?_)
    · replace hf := cd_tk hq hf
      exact w_X8_pay_23 X  _ _ _ _ hf hw (lv_sub hl [] rfl)
    · replace hf := cd_fk hq hf
      refine lv_aload_n X.1 X.2.1 dX8_pay_15 rfl (lv_at hl 0 rfl) ?_
      refine lv_iload_n X.1 X.2.1 dX8_pay_16 rfl (lv_at hl 3 rfl) ?_
      obtain ⟨r6, S5, hS5, hf⟩ := bn2_ok hf
      refine r_callV (As := [.int x3]) (rest := []) (st1 := [.int r6]) (κ := 9) X hw (c_X8_isKnown l D B cy A ad av x3 hw.2.2.2.2.1 hw.2.2.2.2.2 hS5) ⟨rfl, rfl, Nat.le_of_ble_eq_true rfl, Nat.le_of_ble_eq_true rfl⟩ rfl (by decide) (hCk hw.2.2.2.2.2 0 (by decide) rfl) tw_584 tw_585 tw_586 tw_2 tw_587 hd_X8_isKnown rfl hl.1 rfl (Nat.le_of_ble_eq_true rfl) dX8_pay_17 ⟨Nat.le_of_ble_eq_true rfl, Nat.le_of_ble_eq_true rfl⟩ rfl (fun H locs hw => ?_)
      refine lv_if_ne (tgt := 27) X.1 X.2.1 dX8_pay_20 (by decide) (fun hq => ?_) (fun hq => ?_)
      · replace hf := cd_fk hq hf
        refine lv_aload_n X.1 X.2.1 dX8_pay_27 rfl (lv_at hl 0 rfl) ?_
        refine r_getF X hw (κ := 9) rfl inlX8 6 (by decide) rfl (by decide) tw_32 (hCk hw.2.2.2.2.2 0 (by decide) rfl) (hCr (c := 0) (k := 6) (d := 11) hw.2.2.2.2.2 (by decide)) dX8_pay_28 ?_
        refine lv_iload_n X.1 X.2.1 dX8_pay_31 rfl (lv_at hl 1 rfl) ?_
        refine lv_iload_n X.1 X.2.1 dX8_pay_32 rfl (lv_at hl 3 rfl) ?_
        obtain ⟨S7, hS7, hf⟩ := bn_ok hf
        refine r_callV (As := [.int x1, .int x3]) (rest := []) (st1 := []) (κ := 8) X hw (c_X7_begin l D B cy A ad av x1 x3 hw.2.2.2.2.1 hw.2.2.2.2.2 hS7) ⟨rfl, rfl, Nat.le_of_ble_eq_true rfl, Nat.le_of_ble_eq_true rfl⟩ rfl (by decide) (hCk hw.2.2.2.2.2 11 (by decide) rfl) tw_588 tw_589 tw_590 tw_31 tw_591 hd_X7_begin rfl hl.1 rfl (Nat.le_of_ble_eq_true rfl) dX8_pay_33 ⟨Nat.le_of_ble_eq_true rfl, Nat.le_of_ble_eq_true rfl⟩ rfl (fun H locs hw => ?_)
        refine lv_aload_n X.1 X.2.1 dX8_pay_36 rfl (lv_at hl 0 rfl) ?_
        refine r_getF X hw (κ := 9) rfl inlX8 6 (by decide) rfl (by decide) tw_32 (hCk hw.2.2.2.2.2 0 (by decide) rfl) (hCr (c := 0) (k := 6) (d := 11) hw.2.2.2.2.2 (by decide)) dX8_pay_37 ?_
        refine lv_iload_n X.1 X.2.1 dX8_pay_40 rfl (lv_at hl 2 rfl) ?_
        obtain ⟨S8, hS8, hf⟩ := bn_ok hf
        refine r_callV (As := [.int x2]) (rest := []) (st1 := []) (κ := 8) X hw (c_X7_goTo l D B cy A ad av x2 hw.2.2.2.2.1 hw.2.2.2.2.2 hS8) ⟨rfl, rfl, Nat.le_of_ble_eq_true rfl, Nat.le_of_ble_eq_true rfl⟩ rfl (by decide) (hCk hw.2.2.2.2.2 11 (by decide) rfl) tw_716 tw_717 tw_718 tw_31 tw_719 hd_X7_goTo rfl hl.1 rfl (Nat.le_of_ble_eq_true rfl) dX8_pay_41 ⟨Nat.le_of_ble_eq_true rfl, Nat.le_of_ble_eq_true rfl⟩ rfl (fun H locs hw => ?_)
        refine lv_aload_n X.1 X.2.1 dX8_pay_44 rfl (lv_at hl 0 rfl) ?_
        refine r_getF X hw (κ := 9) rfl inlX8 6 (by decide) rfl (by decide) tw_32 (hCk hw.2.2.2.2.2 0 (by decide) rfl) (hCr (c := 0) (k := 6) (d := 11) hw.2.2.2.2.2 (by decide)) dX8_pay_45 ?_
        obtain ⟨r10, S9, hS9, hf⟩ := bn2_ok hf
        refine r_callV (As := []) (rest := []) (st1 := [.long r10]) (κ := 8) X hw (c_X7_payOfDay l D B cy A ad av  hw.2.2.2.2.1 hw.2.2.2.2.2 hS9) ⟨rfl, rfl, Nat.le_of_ble_eq_true rfl, Nat.le_of_ble_eq_true rfl⟩ rfl (by decide) (hCk hw.2.2.2.2.2 11 (by decide) rfl) tw_807 tw_808 tw_809 tw_31 tw_810 hd_X7_payOfDay rfl hl.1 rfl (Nat.le_of_ble_eq_true rfl) dX8_pay_48 ⟨Nat.le_of_ble_eq_true rfl, Nat.le_of_ble_eq_true rfl⟩ rfl (fun H locs hw => ?_)
        cases hf
        exact r_lret X hw dX8_pay_51
      · replace hf := cd_tk hq hf
        exact w_X8_pay_23 X  _ _ _ _ hf hw (lv_sub hl [] rfl)
theorem hd_X8_dueOfMonths : yX8_dueOfMonths.cls = RX8 ∧ yX8_dueOfMonths.cls ≠ "java/lang/invoke/MethodHandle" ∧ yX8_dueOfMonths.cls ≠ "java/lang/invoke/VarHandle" ∧ (parseMethodDescriptor yX8_dueOfMonths.desc).map (fun d => d.parameters.length) = some 4 := by decide +kernel
set_option maxHeartbeats 4000000 in
theorem c_X8_dueOfMonths (l : Launch) (D : va_G) (B : Nat) (cy : Nat → ClassId) (A : Nat → Prop) (ad av : Nat → Nat) (x1 : Int32) (x2 : Int32) (x3 : Int32) (x4 : Int32) {S Z : HS} {rv : Int64} (hfr : hFr S) (hG : hC S) (hf : fn_X8_dueOfMonths x1 x2 x3 x4 S = some (rv, Z)) : hMet l yX8_dueOfMonths cX8_dueOfMonths 5 (some .long) ({ frames := 7, cells := 0, slots := 0, locals := 156 } : Room) D B cy A ad av true hC [.ref (B + 0), .int x1, .int x2, .int x3, .int x4] S Z (some (.long rv)) 0 0 := by
  refine h_entry (by decide) hfr hG ?_
  intro p e s m below meth c args X hnm hw
  have hl := lv_entry ([.ref (B + 0), .int x1, .int x2, .int x3, .int x4]) (n := 5) (Nat.le_of_ble_eq_true rfl)
  rw [lg_entry_eq]
  generalize (lg_sl ([.ref (B + 0), .int x1, .int x2, .int x3, .int x4]) ++ List.replicate (5 - (lg_sl ([.ref (B + 0), .int x1, .int x2, .int x3, .int x4])).length) Slot.unset).toArray = ls at hl ⊢
  have hl : lv_has ls 5 [(0, .ref (B + 0)), (1, .int x1), (2, .int x2), (3, .int x3), (4, .int x4)] := hl
  unfold fn_X8_dueOfMonths at hf
  refine lv_aload_n X.1 X.2.1 dX8_dueOfMonths_0 rfl (lv_at hl 0 rfl) ?_
  refine r_getF X hw (κ := 9) rfl inlX8 6 (by decide) rfl (by decide) tw_32 (hCk hw.2.2.2.2.2 0 (by decide) rfl) (hCr (c := 0) (k := 6) (d := 11) hw.2.2.2.2.2 (by decide)) dX8_dueOfMonths_1 ?_
  refine lv_iload_n X.1 X.2.1 dX8_dueOfMonths_4 rfl (lv_at hl 1 rfl) ?_
  refine lv_iload X.1 X.2.1 dX8_dueOfMonths_5 (lv_at hl 4 rfl) ?_
  obtain ⟨S1, hS1, hf⟩ := bn_ok hf
  refine r_callV (As := [.int x1, .int x4]) (rest := []) (st1 := []) (κ := 8) X hw (c_X7_begin l D B cy A ad av x1 x4 hw.2.2.2.2.1 hw.2.2.2.2.2 hS1) ⟨rfl, rfl, Nat.le_of_ble_eq_true rfl, Nat.le_of_ble_eq_true rfl⟩ rfl (by decide) (hCk hw.2.2.2.2.2 11 (by decide) rfl) tw_588 tw_589 tw_590 tw_31 tw_591 hd_X7_begin rfl hl.1 rfl (Nat.le_of_ble_eq_true rfl) dX8_dueOfMonths_7 ⟨Nat.le_of_ble_eq_true rfl, Nat.le_of_ble_eq_true rfl⟩ rfl (fun H locs hw => ?_)
  refine lv_aload_n X.1 X.2.1 dX8_dueOfMonths_10 rfl (lv_at hl 0 rfl) ?_
  refine r_getF X hw (κ := 9) rfl inlX8 6 (by decide) rfl (by decide) tw_32 (hCk hw.2.2.2.2.2 0 (by decide) rfl) (hCr (c := 0) (k := 6) (d := 11) hw.2.2.2.2.2 (by decide)) dX8_dueOfMonths_11 ?_
  refine lv_iload_n X.1 X.2.1 dX8_dueOfMonths_14 rfl (lv_at hl 2 rfl) ?_
  refine lv_bipush (v := 30) X.1 X.2.1 dX8_dueOfMonths_15 (by decide) ?_
  refine lv_imul X.1 X.2.1 dX8_dueOfMonths_17 ?_
  obtain ⟨S2, hS2, hf⟩ := bn_ok hf
  refine r_callV (As := [.int (x2 * 30)]) (rest := []) (st1 := []) (κ := 8) X hw (c_X7_goTo l D B cy A ad av (x2 * 30) hw.2.2.2.2.1 hw.2.2.2.2.2 hS2) ⟨rfl, rfl, Nat.le_of_ble_eq_true rfl, Nat.le_of_ble_eq_true rfl⟩ rfl (by decide) (hCk hw.2.2.2.2.2 11 (by decide) rfl) tw_716 tw_717 tw_718 tw_31 tw_719 hd_X7_goTo rfl hl.1 rfl (Nat.le_of_ble_eq_true rfl) dX8_dueOfMonths_18 ⟨Nat.le_of_ble_eq_true rfl, Nat.le_of_ble_eq_true rfl⟩ rfl (fun H locs hw => ?_)
  refine lv_aload_n X.1 X.2.1 dX8_dueOfMonths_21 rfl (lv_at hl 0 rfl) ?_
  refine r_getF X hw (κ := 9) rfl inlX8 6 (by decide) rfl (by decide) tw_32 (hCk hw.2.2.2.2.2 0 (by decide) rfl) (hCr (c := 0) (k := 6) (d := 11) hw.2.2.2.2.2 (by decide)) dX8_dueOfMonths_22 ?_
  refine lv_iload_n X.1 X.2.1 dX8_dueOfMonths_25 rfl (lv_at hl 3 rfl) ?_
  refine lv_iload_n X.1 X.2.1 dX8_dueOfMonths_26 rfl (lv_at hl 2 rfl) ?_
  refine lv_isub X.1 X.2.1 dX8_dueOfMonths_27 ?_
  refine lv_iconst (v := 1) X.1 X.2.1 dX8_dueOfMonths_28 (by decide) ?_
  refine lv_iadd X.1 X.2.1 dX8_dueOfMonths_29 ?_
  refine lv_bipush (v := 30) X.1 X.2.1 dX8_dueOfMonths_30 (by decide) ?_
  refine lv_imul X.1 X.2.1 dX8_dueOfMonths_32 ?_
  obtain ⟨r4, S3, hS3, hf⟩ := bn2_ok hf
  refine r_callV (As := [.int (((x3 - x2) + 1) * 30)]) (rest := []) (st1 := [.long r4]) (κ := 8) X hw (c_X7_payOfDays l D B cy A ad av (((x3 - x2) + 1) * 30) hw.2.2.2.2.1 hw.2.2.2.2.2 hS3) ⟨rfl, rfl, Nat.le_of_ble_eq_true rfl, Nat.le_of_ble_eq_true rfl⟩ rfl (by decide) (hCk hw.2.2.2.2.2 11 (by decide) rfl) tw_828 tw_829 tw_830 tw_31 tw_831 hd_X7_payOfDays rfl hl.1 rfl (Nat.le_of_ble_eq_true rfl) dX8_dueOfMonths_33 ⟨Nat.le_of_ble_eq_true rfl, Nat.le_of_ble_eq_true rfl⟩ rfl (fun H locs hw => ?_)
  cases hf
  exact r_lret X hw dX8_dueOfMonths_36
set_option maxHeartbeats 4000000 in
theorem w_X8_due_23 {p : Program} {l : Launch} {e : Env} {s : State} {m : MethodId} {args : Array Value} {below : List Frame} {meth : Method} {c : Code} {D : va_G} {B : Nat} {cy : Nat → ClassId} {A : Nat → Prop} {ad av : Nat → Nat} {rv : Int64} {Z : HS} (X : hCX p s m args meth c RX8 cX8_due 4 (some .long) D cy A ad av)   (S : HS) (H : Heap) (locs : List Loc) (ls : Array Slot) (hf : fn_X8_due_23 S = some (rv, Z)) (hw : hWd D B cy A true hC S s.heap H locs) (hl : lv_has ls 4 []) : W p l e ({ frames := 8, cells := 0, slots := 0, locals := 180 } : Room) s m args below meth c H locs 0 0 (MQ below (hQo D B cy A true hC Z (some (.long rv))) args s 0 0 A) (F0 m 23 ls []) := by
  unfold fn_X8_due_23 at hf
  refine lv_ldc2 X.1 X.2.1 X.2.2.2.1 (X.2.2.2.2.1 _ tw_806) dX8_due_23 ?_
  cases hf
  exact r_lret X hw dX8_due_26
theorem hd_X8_due : yX8_due.cls = RX8 ∧ yX8_due.cls ≠ "java/lang/invoke/MethodHandle" ∧ yX8_due.cls ≠ "java/lang/invoke/VarHandle" ∧ (parseMethodDescriptor yX8_due.desc).map (fun d => d.parameters.length) = some 3 := by decide +kernel
set_option maxHeartbeats 4000000 in
theorem c_X8_due (l : Launch) (D : va_G) (B : Nat) (cy : Nat → ClassId) (A : Nat → Prop) (ad av : Nat → Nat) (x1 : Int32) (x2 : Int32) (x3 : Int32) {S Z : HS} {rv : Int64} (hfr : hFr S) (hG : hC S) (hf : fn_X8_due x1 x2 x3 S = some (rv, Z)) : hMet l yX8_due cX8_due 4 (some .long) ({ frames := 8, cells := 0, slots := 0, locals := 180 } : Room) D B cy A ad av true hC [.ref (B + 0), .int x1, .int x2, .int x3] S Z (some (.long rv)) 0 0 := by
  refine h_entry (by decide) hfr hG ?_
  intro p e s m below meth c args X hnm hw
  have hl := lv_entry ([.ref (B + 0), .int x1, .int x2, .int x3]) (n := 4) (Nat.le_of_ble_eq_true rfl)
  rw [lg_entry_eq]
  generalize (lg_sl ([.ref (B + 0), .int x1, .int x2, .int x3]) ++ List.replicate (4 - (lg_sl ([.ref (B + 0), .int x1, .int x2, .int x3])).length) Slot.unset).toArray = ls at hl ⊢
  have hl : lv_has ls 4 [(0, .ref (B + 0)), (1, .int x1), (2, .int x2), (3, .int x3)] := hl
  unfold fn_X8_due at hf
  refine lv_aload_n X.1 X.2.1 dX8_due_0 rfl (lv_at hl 0 rfl) ?_
  refine lv_iload_n X.1 X.2.1 dX8_due_1 rfl (lv_at hl 1 rfl) ?_
  obtain ⟨r2, S1, hS1, hf⟩ := bn2_ok hf
  refine r_callV (As := [.int x1]) (rest := []) (st1 := [.int r2]) (κ := 9) X hw (c_X8_isPost l D B cy A ad av x1 hw.2.2.2.2.1 hw.2.2.2.2.2 hS1) ⟨rfl, rfl, Nat.le_of_ble_eq_true rfl, Nat.le_of_ble_eq_true rfl⟩ rfl (by decide) (hCk hw.2.2.2.2.2 0 (by decide) rfl) tw_546 tw_547 tw_548 tw_2 tw_549 hd_X8_isPost rfl hl.1 rfl (Nat.le_of_ble_eq_true rfl) dX8_due_2 ⟨Nat.le_of_ble_eq_true rfl, Nat.le_of_ble_eq_true rfl⟩ rfl (fun H locs hw => ?_)
  refine lv_if_eq (tgt := 23) X.1 X.2.1 dX8_due_5 (by decide) (fun hq => ?_) (fun hq => ?_)
  · replace hf := cd_tk hq hf
    exact w_X8_due_23 X  _ _ _ _ hf hw (lv_sub hl [] rfl)
  · replace hf := cd_fk hq hf
    refine lv_iload_n X.1 X.2.1 dX8_due_8 rfl (lv_at hl 2 rfl) ?_
    obtain ⟨r4, S3, hS3, hf⟩ := bn2_ok hf
    refine r_callS (As := [.int x2]) (rest := []) (st1 := [.int r4]) X hw (c_X8_isMonth l D B cy A ad av x2 hw.2.2.2.2.1 hw.2.2.2.2.2 hS3) ⟨rfl, rfl, Nat.le_of_ble_eq_true rfl, Nat.le_of_ble_eq_true rfl⟩ tw_821 tw_822 tw_2 tw_823 hd_X8_isMonth rfl hl.1 rfl (Nat.le_of_ble_eq_true rfl) dX8_due_9 ⟨Nat.le_of_ble_eq_true rfl, Nat.le_of_ble_eq_true rfl⟩ rfl (fun H locs hw => ?_)
    refine lv_if_eq (tgt := 23) X.1 X.2.1 dX8_due_12 (by decide) (fun hq => ?_) (fun hq => ?_)
    · replace hf := cd_tk hq hf
      exact w_X8_due_23 X  _ _ _ _ hf hw (lv_sub hl [] rfl)
    · replace hf := cd_fk hq hf
      refine lv_aload_n X.1 X.2.1 dX8_due_15 rfl (lv_at hl 0 rfl) ?_
      refine lv_iload_n X.1 X.2.1 dX8_due_16 rfl (lv_at hl 3 rfl) ?_
      obtain ⟨r6, S5, hS5, hf⟩ := bn2_ok hf
      refine r_callV (As := [.int x3]) (rest := []) (st1 := [.int r6]) (κ := 9) X hw (c_X8_isKnown l D B cy A ad av x3 hw.2.2.2.2.1 hw.2.2.2.2.2 hS5) ⟨rfl, rfl, Nat.le_of_ble_eq_true rfl, Nat.le_of_ble_eq_true rfl⟩ rfl (by decide) (hCk hw.2.2.2.2.2 0 (by decide) rfl) tw_584 tw_585 tw_586 tw_2 tw_587 hd_X8_isKnown rfl hl.1 rfl (Nat.le_of_ble_eq_true rfl) dX8_due_17 ⟨Nat.le_of_ble_eq_true rfl, Nat.le_of_ble_eq_true rfl⟩ rfl (fun H locs hw => ?_)
      refine lv_if_ne (tgt := 27) X.1 X.2.1 dX8_due_20 (by decide) (fun hq => ?_) (fun hq => ?_)
      · replace hf := cd_fk hq hf
        refine lv_aload_n X.1 X.2.1 dX8_due_27 rfl (lv_at hl 0 rfl) ?_
        refine lv_iload_n X.1 X.2.1 dX8_due_28 rfl (lv_at hl 1 rfl) ?_
        refine lv_iload_n X.1 X.2.1 dX8_due_29 rfl (lv_at hl 2 rfl) ?_
        refine lv_iload_n X.1 X.2.1 dX8_due_30 rfl (lv_at hl 2 rfl) ?_
        refine lv_iload_n X.1 X.2.1 dX8_due_31 rfl (lv_at hl 3 rfl) ?_
        obtain ⟨r8, S7, hS7, hf⟩ := bn2_ok hf
        refine r_callV (As := [.int x1, .int x2, .int x2, .int x3]) (rest := []) (st1 := [.long r8]) (κ := 9) X hw (c_X8_dueOfMonths l D B cy A ad av x1 x2 x2 x3 hw.2.2.2.2.1 hw.2.2.2.2.2 hS7) ⟨rfl, rfl, Nat.le_of_ble_eq_true rfl, Nat.le_of_ble_eq_true rfl⟩ rfl (by decide) (hCk hw.2.2.2.2.2 0 (by decide) rfl) tw_824 tw_825 tw_826 tw_2 tw_827 hd_X8_dueOfMonths rfl hl.1 rfl (Nat.le_of_ble_eq_true rfl) dX8_due_32 ⟨Nat.le_of_ble_eq_true rfl, Nat.le_of_ble_eq_true rfl⟩ rfl (fun H locs hw => ?_)
        cases hf
        exact r_lret X hw dX8_due_35
      · replace hf := cd_tk hq hf
        exact w_X8_due_23 X  _ _ _ _ hf hw (lv_sub hl [] rfl)
set_option maxHeartbeats 4000000 in
theorem w_X8_settle_64 {p : Program} {l : Launch} {e : Env} {s : State} {m : MethodId} {args : Array Value} {below : List Frame} {meth : Method} {c : Code} {D : va_G} {B : Nat} {cy : Nat → ClassId} {A : Nat → Prop} {ad av : Nat → Nat} {Z : HS} (X : hCX p s m args meth c RX8 cX8_settle 8 none D cy A ad av)   (S : HS) (H : Heap) (locs : List Loc) (ls : Array Slot) (hf : fn_X8_settle_64 S = some Z) (hw : hWd D B cy A true hC S s.heap H locs) (hl : lv_has ls 8 []) : W p l e ({ frames := 2, cells := 0, slots := 0, locals := 52 } : Room) s m args below meth c H locs 0 0 (MQ below (hQo D B cy A true hC Z none) args s 0 0 A) (F0 m 64 ls []) := by
  unfold fn_X8_settle_64 at hf
  cases hf
  exact r_vret X hw dX8_settle_64
set_option maxHeartbeats 4000000 in
theorem w_X8_settle_23 {p : Program} {l : Launch} {e : Env} {s : State} {m : MethodId} {args : Array Value} {below : List Frame} {meth : Method} {c : Code} {D : va_G} {B : Nat} {cy : Nat → ClassId} {A : Nat → Prop} {ad av : Nat → Nat} {Z : HS} (X : hCX p s m args meth c RX8 cX8_settle 8 none D cy A ad av)   (S : HS) (H : Heap) (locs : List Loc) (ls : Array Slot) (hf : fn_X8_settle_23 S = some Z) (hw : hWd D B cy A true hC S s.heap H locs) (hl : lv_has ls 8 []) : W p l e ({ frames := 2, cells := 0, slots := 0, locals := 52 } : Room) s m args below meth c H locs 0 0 (MQ below (hQo D B cy A true hC Z none) args s 0 0 A) (F0 m 23 ls []) := by
  unfold fn_X8_settle_23 at hf
  cases hf
  exact r_vret X hw dX8_settle_23
theorem hd_X8_settle : yX8_settle.cls = RX8 ∧ yX8_settle.cls ≠ "java/lang/invoke/MethodHandle" ∧ yX8_settle.cls ≠ "java/lang/invoke/VarHandle" ∧ (parseMethodDescriptor yX8_settle.desc).map (fun d => d.parameters.length) = some 3 := by decide +kernel
set_option maxHeartbeats 4000000 in
theorem c_X8_settle (l : Launch) (D : va_G) (B : Nat) (cy : Nat → ClassId) (A : Nat → Prop) (ad av : Nat → Nat) (x1 : Int32) (x2 : Int32) (x3 : Int64) {S Z : HS} (hfr : hFr S) (hG : hC S) (hf : fn_X8_settle x1 x2 x3 S = some Z) : hMet l yX8_settle cX8_settle 8 none ({ frames := 2, cells := 0, slots := 0, locals := 52 } : Room) D B cy A ad av true hC [.ref (B + 0), .int x1, .int x2, .long x3] S Z none 0 0 := by
  refine h_entry (by decide) hfr hG ?_
  intro p e s m below meth c args X hnm hw
  have hl := lv_entry ([.ref (B + 0), .int x1, .int x2, .long x3]) (n := 8) (Nat.le_of_ble_eq_true rfl)
  rw [lg_entry_eq]
  generalize (lg_sl ([.ref (B + 0), .int x1, .int x2, .long x3]) ++ List.replicate (8 - (lg_sl ([.ref (B + 0), .int x1, .int x2, .long x3])).length) Slot.unset).toArray = ls at hl ⊢
  have hl : lv_has ls 8 [(0, .ref (B + 0)), (1, .int x1), (2, .int x2), (3, .long x3)] := hl
  unfold fn_X8_settle at hf
  refine lv_iload_n X.1 X.2.1 dX8_settle_0 rfl (lv_at hl 1 rfl) ?_
  refine lv_bipush (v := 40) X.1 X.2.1 dX8_settle_1 (by decide) ?_
  refine lv_imul X.1 X.2.1 dX8_settle_3 ?_
  refine lv_iload_n X.1 X.2.1 dX8_settle_4 rfl (lv_at hl 2 rfl) ?_
  refine lv_iadd X.1 X.2.1 dX8_settle_5 ?_
  obtain ⟨v1, ev1, hf⟩ := bn_ok hf
  replace ev1 := Option.some.inj ev1
  refine lv_ren ev1 ?_
  refine lv_istore (lv' := [(5, .int v1), (0, .ref (B + 0)), (1, .int x1), (2, .int x2), (3, .long x3)]) X.1 X.2.1 dX8_settle_6 hl (by decide) rfl (fun ls hl => ?_)
  refine lv_iload X.1 X.2.1 dX8_settle_8 (lv_at hl 0 rfl) ?_
  refine lv_if_lt (tgt := 23) X.1 X.2.1 dX8_settle_10 (by decide) (fun hq => ?_) (fun hq => ?_)
  · replace hf := cd_tk hq hf
    exact w_X8_settle_23 X  _ _ _ _ hf hw (lv_sub hl [] rfl)
  · replace hf := cd_fk hq hf
    refine lv_iload X.1 X.2.1 dX8_settle_13 (lv_at hl 0 rfl) ?_
    refine lv_aload_n X.1 X.2.1 dX8_settle_15 rfl (lv_at hl 1 rfl) ?_
    refine r_getF X hw (κ := 9) rfl inlX8 7 (by decide) rfl (by decide) tw_34 (hCk hw.2.2.2.2.2 0 (by decide) rfl) (hCr (c := 0) (k := 7) (d := 15) hw.2.2.2.2.2 (by decide)) dX8_settle_16 ?_
    refine r_alen (κ := 22) X hw (hCk hw.2.2.2.2.2 15 (by decide) rfl) (by decide) (hCn hw.2.2.2.2.2 15 (by decide) rfl) dX8_settle_19 ?_
    refine lv_icmp_lt (tgt := 24) X.1 X.2.1 dX8_settle_20 (by decide) (fun hq => ?_) (fun hq => ?_)
    · replace hf := cd_tk hq hf
      refine lv_lload_n X.1 X.2.1 dX8_settle_24 rfl (lv_at hl 4 rfl) ?_
      refine lv_aload_n X.1 X.2.1 dX8_settle_25 rfl (lv_at hl 1 rfl) ?_
      refine r_getF X hw (κ := 9) rfl inlX8 7 (by decide) rfl (by decide) tw_34 (hCk hw.2.2.2.2.2 0 (by decide) rfl) (hCr (c := 0) (k := 7) (d := 15) hw.2.2.2.2.2 (by decide)) dX8_settle_26 ?_
      refine lv_iload X.1 X.2.1 dX8_settle_29 (lv_at hl 0 rfl) ?_
      obtain ⟨g2, hf⟩ := gd_ok hf
      refine r_lald X hw (hCk hw.2.2.2.2.2 15 (by decide) rfl) (hCn hw.2.2.2.2.2 15 (by decide) rfl) g2 dX8_settle_31 ?_
      refine lv_lsub X.1 X.2.1 dX8_settle_32 ?_
      obtain ⟨v3, ev3, hf⟩ := bn_ok hf
      replace ev3 := Option.some.inj ev3
      refine lv_renl ev3 ?_
      refine lv_lstore (lv' := [(6, .long v3), (5, .int v1), (0, .ref (B + 0)), (1, .int x1), (2, .int x2), (3, .long x3)]) X.1 X.2.1 dX8_settle_33 hl (by decide) rfl (fun ls hl => ?_)
      refine lv_lload X.1 X.2.1 dX8_settle_35 (lv_at hl 0 rfl) ?_
      refine lv_lconst (v := 0) X.1 X.2.1 dX8_settle_37 (by decide) ?_
      refine W.lcmp X.1 X.2.1 dX8_settle_38 ?_
      refine lv_if_eq (tgt := 64) X.1 X.2.1 dX8_settle_39 (by decide) (fun hq => ?_) (fun hq => ?_)
      · replace hf := cd_tk hq hf
        exact w_X8_settle_64 X  _ _ _ _ hf hw (lv_sub hl [] rfl)
      · replace hf := cd_fk hq hf
        refine lv_aload_n X.1 X.2.1 dX8_settle_42 rfl (lv_at hl 2 rfl) ?_
        refine r_getF X hw (κ := 9) rfl inlX8 7 (by decide) rfl (by decide) tw_34 (hCk hw.2.2.2.2.2 0 (by decide) rfl) (hCr (c := 0) (k := 7) (d := 15) hw.2.2.2.2.2 (by decide)) dX8_settle_43 ?_
        refine lv_iload X.1 X.2.1 dX8_settle_46 (lv_at hl 1 rfl) ?_
        refine lv_lload_n X.1 X.2.1 dX8_settle_48 rfl (lv_at hl 5 rfl) ?_
        obtain ⟨g4, hf⟩ := gd_ok hf
        obtain ⟨S5, eS5, hf⟩ := bn_ok hf
        replace eS5 := Option.some.inj eS5
        refine r_last X hw (hCk hw.2.2.2.2.2 15 (by decide) rfl) (hCn hw.2.2.2.2.2 15 (by decide) rfl) g4 hw.2.2.2.2.2 dX8_settle_49 (fun H locs hw => ?_)
        rw [eS5] at hw
        refine lv_aload_n X.1 X.2.1 dX8_settle_50 rfl (lv_at hl 2 rfl) ?_
        refine r_getF X hw (κ := 9) rfl inlX8 8 (by decide) rfl (by decide) tw_38 (hCk hw.2.2.2.2.2 0 (by decide) rfl) (hCr (c := 0) (k := 8) (d := 16) hw.2.2.2.2.2 (by decide)) dX8_settle_51 ?_
        refine lv_iload_n X.1 X.2.1 dX8_settle_54 rfl (lv_at hl 3 rfl) ?_
        refine lv_i2l X.1 X.2.1 dX8_settle_55 rfl ?_
        refine lv_iload_n X.1 X.2.1 dX8_settle_56 rfl (lv_at hl 4 rfl) ?_
        refine lv_i2l X.1 X.2.1 dX8_settle_57 rfl ?_
        refine lv_lload X.1 X.2.1 dX8_settle_58 (lv_at hl 0 rfl) ?_
        refine lv_lconst (v := 0) X.1 X.2.1 dX8_settle_60 (by decide) ?_
        obtain ⟨S6, hS6, hf⟩ := bn_ok hf
        refine r_callV (As := [.long (x1.toInt64), .long (x2.toInt64), .long v3, .long 0]) (rest := []) (st1 := []) (κ := 6) X hw (c_X5_add l D B cy A ad av 16 (x1.toInt64) (x2.toInt64) v3 0 hw.2.2.2.2.1 hw.2.2.2.2.2 hS6) ⟨rfl, rfl, Nat.le_of_ble_eq_true rfl, Nat.le_of_ble_eq_true rfl⟩ rfl (by decide) (hCk hw.2.2.2.2.2 16 (by decide) rfl) tw_852 tw_853 tw_854 tw_37 tw_855 hd_X5_add rfl hl.1 rfl (Nat.le_of_ble_eq_true rfl) dX8_settle_61 ⟨Nat.le_of_ble_eq_true rfl, Nat.le_of_ble_eq_true rfl⟩ rfl (fun H locs hw => ?_)
        exact w_X8_settle_64 X  _ _ _ _ hf hw (lv_sub hl [] rfl)
    · replace hf := cd_fk hq hf
      exact w_X8_settle_23 X  _ _ _ _ hf hw (lv_sub hl [] rfl)
set_option maxHeartbeats 4000000 in
theorem w_X8_run_39 {p : Program} {l : Launch} {e : Env} {s : State} {m : MethodId} {args : Array Value} {below : List Frame} {meth : Method} {c : Code} {D : va_G} {B : Nat} {cy : Nat → ClassId} {A : Nat → Prop} {ad av : Nat → Nat} {rv : Int32} {Z : HS} (X : hCX p s m args meth c RX8 cX8_run 4 (some .int) D cy A ad av) (k17 : Int32 → Int32 → HS → Option (Int32 × HS)) (hk17 : ∀ (x1 : Int32) (x2 : Int32) (S : HS) (H : Heap) (locs : List Loc) (ls : Array Slot), k17 x1 x2 S = some (rv, Z) → hWd D B cy A true hC S s.heap H locs → lv_has ls 4 [(0, .ref (B + 0)), (1, .int x1), (2, .int x2)] → W p l e ({ frames := 7, cells := 0, slots := 0, locals := 156 } : Room) s m args below meth c H locs 0 0 (MQ below (hQo D B cy A true hC Z (some (.int rv))) args s 0 0 A) (F0 m 17 ls [])) : ∀ (n : Nat) (x1 : Int32) (x2 : Int32) (x3 : Int32) (S : HS) (H : Heap) (locs : List Loc) (ls : Array Slot), fn_X8_run_39 k17 n x1 x2 x3 S = some (rv, Z) → hWd D B cy A true hC S s.heap H locs → lv_has ls 4 [(0, .ref (B + 0)), (1, .int x1), (2, .int x2), (3, .int x3)] → W p l e ({ frames := 7, cells := 0, slots := 0, locals := 156 } : Room) s m args below meth c H locs 0 0 (MQ below (hQo D B cy A true hC Z (some (.int rv))) args s 0 0 A) (F0 m 39 ls []) := by
  intro n
  induction n with
  | zero =>
    intro x1 x2 x3 S H locs ls hf
    cases hf
  | succ n ih =>
    intro x1 x2 x3 S H locs ls hf hw hl
    rw [fn_X8_run_39] at hf
    refine lv_iload_n X.1 X.2.1 dX8_run_39 rfl (lv_at hl 3 rfl) ?_
    refine lv_iload_n X.1 X.2.1 dX8_run_40 rfl (lv_at hl 1 rfl) ?_
    refine lv_icmp_ge (tgt := 65) X.1 X.2.1 dX8_run_41 (by decide) (fun hq => ?_) (fun hq => ?_)
    · replace hf := cd_tk hq hf
      obtain ⟨v1, ev1, hf⟩ := bn_ok hf
      replace ev1 := Option.some.inj ev1
      refine lv_iinc (v := v1) (lv' := [(2, .int v1), (0, .ref (B + 0)), (1, .int x1), (3, .int x3)]) X.1 X.2.1 dX8_run_65 hl (k := 2) rfl ev1 (by decide) rfl (fun ls hl => ?_)
      refine lv_goto (tgt := 17) X.1 X.2.1 dX8_run_68 (by decide) ?_
      exact hk17 _ _ _ _ _ _ hf hw (lv_sub hl [1, 2, 0] rfl)
    · replace hf := cd_fk hq hf
      refine lv_aload_n X.1 X.2.1 dX8_run_44 rfl (lv_at hl 0 rfl) ?_
      refine lv_iload_n X.1 X.2.1 dX8_run_45 rfl (lv_at hl 2 rfl) ?_
      refine lv_iload_n X.1 X.2.1 dX8_run_46 rfl (lv_at hl 3 rfl) ?_
      refine lv_aload_n X.1 X.2.1 dX8_run_47 rfl (lv_at hl 0 rfl) ?_
      refine r_getF X hw (κ := 9) rfl inlX8 6 (by decide) rfl (by decide) tw_32 (hCk hw.2.2.2.2.2 0 (by decide) rfl) (hCr (c := 0) (k := 6) (d := 11) hw.2.2.2.2.2 (by decide)) dX8_run_48 ?_
      refine lv_bipush (v := 30) X.1 X.2.1 dX8_run_51 (by decide) ?_
      obtain ⟨r3, S2, hS2, hf⟩ := bn2_ok hf
      refine r_callV (As := [.int 30]) (rest := [.int x3, .int x2, .ref (B + 0)]) (st1 := [.long r3, .int x3, .int x2, .ref (B + 0)]) (κ := 8) X hw (c_X7_payOfDays l D B cy A ad av 30 hw.2.2.2.2.1 hw.2.2.2.2.2 hS2) ⟨rfl, rfl, Nat.le_of_ble_eq_true rfl, Nat.le_of_ble_eq_true rfl⟩ rfl (by decide) (hCk hw.2.2.2.2.2 11 (by decide) rfl) tw_828 tw_829 tw_830 tw_31 tw_831 hd_X7_payOfDays rfl hl.1 rfl (Nat.le_of_ble_eq_true rfl) dX8_run_53 ⟨Nat.le_of_ble_eq_true rfl, Nat.le_of_ble_eq_true rfl⟩ rfl (fun H locs hw => ?_)
      obtain ⟨S4, hS4, hf⟩ := bn_ok hf
      refine r_callV (As := [.int x2, .int x3, .long r3]) (rest := []) (st1 := []) (κ := 9) X hw (c_X8_settle l D B cy A ad av x2 x3 r3 hw.2.2.2.2.1 hw.2.2.2.2.2 hS4) ⟨rfl, rfl, Nat.le_of_ble_eq_true rfl, Nat.le_of_ble_eq_true rfl⟩ rfl (by decide) (hCk hw.2.2.2.2.2 0 (by decide) rfl) tw_848 tw_849 tw_850 tw_2 tw_851 hd_X8_settle rfl hl.1 rfl (Nat.le_of_ble_eq_true rfl) dX8_run_56 ⟨Nat.le_of_ble_eq_true rfl, Nat.le_of_ble_eq_true rfl⟩ rfl (fun H locs hw => ?_)
      obtain ⟨v5, ev5, hf⟩ := bn_ok hf
      replace ev5 := Option.some.inj ev5
      refine lv_iinc (v := v5) (lv' := [(3, .int v5), (0, .ref (B + 0)), (1, .int x1), (2, .int x2)]) X.1 X.2.1 dX8_run_59 hl (k := 3) rfl ev5 (by decide) rfl (fun ls hl => ?_)
      refine lv_goto (tgt := 39) X.1 X.2.1 dX8_run_62 (by decide) ?_
      exact ih _ _ _ _ _ _ _ hf hw (lv_sub hl [1, 2, 3, 0] rfl)
set_option maxHeartbeats 4000000 in
theorem w_X8_run_17 {p : Program} {l : Launch} {e : Env} {s : State} {m : MethodId} {args : Array Value} {below : List Frame} {meth : Method} {c : Code} {D : va_G} {B : Nat} {cy : Nat → ClassId} {A : Nat → Prop} {ad av : Nat → Nat} {rv : Int32} {Z : HS} (X : hCX p s m args meth c RX8 cX8_run 4 (some .int) D cy A ad av)  : ∀ (n : Nat) (x1 : Int32) (x2 : Int32) (S : HS) (H : Heap) (locs : List Loc) (ls : Array Slot), fn_X8_run_17 n x1 x2 S = some (rv, Z) → hWd D B cy A true hC S s.heap H locs → lv_has ls 4 [(0, .ref (B + 0)), (1, .int x1), (2, .int x2)] → W p l e ({ frames := 7, cells := 0, slots := 0, locals := 156 } : Room) s m args below meth c H locs 0 0 (MQ below (hQo D B cy A true hC Z (some (.int rv))) args s 0 0 A) (F0 m 17 ls []) := by
  intro n
  induction n with
  | zero =>
    intro x1 x2 S H locs ls hf
    cases hf
  | succ n ih =>
    intro x1 x2 S H locs ls hf hw hl
    rw [fn_X8_run_17] at hf
    refine lv_iload_n X.1 X.2.1 dX8_run_17 rfl (lv_at hl 2 rfl) ?_
    refine lv_aload_n X.1 X.2.1 dX8_run_18 rfl (lv_at hl 0 rfl) ?_
    refine r_getI X hw (κ := 9) rfl inlX8 16 (by decide) rfl (by decide) tw_533 (hCk hw.2.2.2.2.2 0 (by decide) rfl) dX8_run_19 ?_
    refine lv_icmp_ge (tgt := 71) X.1 X.2.1 dX8_run_22 (by decide) (fun hq => ?_) (fun hq => ?_)
    · replace hf := cd_tk hq hf
      refine lv_aload_n X.1 X.2.1 dX8_run_71 rfl (lv_at hl 0 rfl) ?_
      refine lv_dup X.1 X.2.1 dX8_run_72 rfl ?_
      refine r_getI X hw (κ := 9) rfl inlX8 17 (by decide) rfl (by decide) tw_841 (hCk hw.2.2.2.2.2 0 (by decide) rfl) dX8_run_73 ?_
      refine lv_iconst (v := 1) X.1 X.2.1 dX8_run_76 (by decide) ?_
      refine lv_iadd X.1 X.2.1 dX8_run_77 ?_
      obtain ⟨S1, eS1, hf⟩ := bn_ok hf
      replace eS1 := Option.some.inj eS1
      refine r_putI X hw (κ := 9) rfl inlX8 tyX8 tyX8_ok nmX8 17 (by decide) rfl (by decide) tw_841 (Or.inl rfl) (hCk hw.2.2.2.2.2 0 (by decide) rfl) rfl rfl hw.2.2.2.2.2 dX8_run_78 (fun H locs hw => ?_)
      rw [eS1] at hw
      refine lv_aload_n X.1 X.2.1 dX8_run_81 rfl (lv_at hl 0 rfl) ?_
      refine r_getF X hw (κ := 9) rfl inlX8 8 (by decide) rfl (by decide) tw_38 (hCk hw.2.2.2.2.2 0 (by decide) rfl) (hCr (c := 0) (k := 8) (d := 16) hw.2.2.2.2.2 (by decide)) dX8_run_82 ?_
      refine r_getI X hw (κ := 6) rfl inlX5 2 (by decide) rfl (by decide) tw_842 (hCk hw.2.2.2.2.2 16 (by decide) rfl) dX8_run_85 ?_
      cases hf
      exact r_iret X hw dX8_run_88
    · replace hf := cd_fk hq hf
      refine lv_aload_n X.1 X.2.1 dX8_run_25 rfl (lv_at hl 0 rfl) ?_
      refine r_getF X hw (κ := 9) rfl inlX8 6 (by decide) rfl (by decide) tw_32 (hCk hw.2.2.2.2.2 0 (by decide) rfl) (hCr (c := 0) (k := 6) (d := 11) hw.2.2.2.2.2 (by decide)) dX8_run_26 ?_
      refine lv_iload_n X.1 X.2.1 dX8_run_29 rfl (lv_at hl 2 rfl) ?_
      refine lv_aload_n X.1 X.2.1 dX8_run_30 rfl (lv_at hl 0 rfl) ?_
      refine r_getI X hw (κ := 9) rfl inlX8 13 (by decide) rfl (by decide) tw_168 (hCk hw.2.2.2.2.2 0 (by decide) rfl) dX8_run_31 ?_
      obtain ⟨S2, hS2, hf⟩ := bn_ok hf
      refine r_callV (As := [.int x2, .int (gI S 0 13)]) (rest := []) (st1 := []) (κ := 8) X hw (c_X7_begin l D B cy A ad av x2 (gI S 0 13) hw.2.2.2.2.1 hw.2.2.2.2.2 hS2) ⟨rfl, rfl, Nat.le_of_ble_eq_true rfl, Nat.le_of_ble_eq_true rfl⟩ rfl (by decide) (hCk hw.2.2.2.2.2 11 (by decide) rfl) tw_588 tw_589 tw_590 tw_31 tw_591 hd_X7_begin rfl hl.1 rfl (Nat.le_of_ble_eq_true rfl) dX8_run_34 ⟨Nat.le_of_ble_eq_true rfl, Nat.le_of_ble_eq_true rfl⟩ rfl (fun H locs hw => ?_)
      refine lv_iconst (v := 0) X.1 X.2.1 dX8_run_37 (by decide) ?_
      refine lv_istore_n (lv' := [(3, .int 0), (0, .ref (B + 0)), (1, .int x1), (2, .int x2)]) X.1 X.2.1 dX8_run_38 rfl hl (by decide) rfl (fun ls hl => ?_)
      exact w_X8_run_39 X (fn_X8_run_17 n) ih _ _ _ _ _ _ _ _ hf hw (lv_sub hl [1, 2, 3, 0] rfl)
theorem hd_X8_run : yX8_run.cls = RX8 ∧ yX8_run.cls ≠ "java/lang/invoke/MethodHandle" ∧ yX8_run.cls ≠ "java/lang/invoke/VarHandle" ∧ (parseMethodDescriptor yX8_run.desc).map (fun d => d.parameters.length) = some 0 := by decide +kernel
set_option maxHeartbeats 4000000 in
theorem c_X8_run (l : Launch) (D : va_G) (B : Nat) (cy : Nat → ClassId) (A : Nat → Prop) (ad av : Nat → Nat)  {S Z : HS} {rv : Int32} (hfr : hFr S) (hG : hC S) (hf : fn_X8_run S = some (rv, Z)) : hMet l yX8_run cX8_run 4 (some .int) ({ frames := 7, cells := 0, slots := 0, locals := 156 } : Room) D B cy A ad av true hC [.ref (B + 0)] S Z (some (.int rv)) 0 0 := by
  refine h_entry (by decide) hfr hG ?_
  intro p e s m below meth c args X hnm hw
  have hl := lv_entry ([.ref (B + 0)]) (n := 4) (Nat.le_of_ble_eq_true rfl)
  rw [lg_entry_eq]
  generalize (lg_sl ([.ref (B + 0)]) ++ List.replicate (4 - (lg_sl ([.ref (B + 0)])).length) Slot.unset).toArray = ls at hl ⊢
  have hl : lv_has ls 4 [(0, .ref (B + 0))] := hl
  unfold fn_X8_run at hf
  refine lv_aload_n X.1 X.2.1 dX8_run_0 rfl (lv_at hl 0 rfl) ?_
  refine r_getF X hw (κ := 9) rfl inlX8 8 (by decide) rfl (by decide) tw_38 (hCk hw.2.2.2.2.2 0 (by decide) rfl) (hCr (c := 0) (k := 8) (d := 16) hw.2.2.2.2.2 (by decide)) dX8_run_1 ?_
  obtain ⟨S1, hS1, hf⟩ := bn_ok hf
  refine r_callV (As := []) (rest := []) (st1 := []) (κ := 6) X hw (c_X5_clear l D B cy A ad av 16 hw.2.2.2.2.1 hw.2.2.2.2.2 hS1) ⟨rfl, rfl, Nat.le_of_ble_eq_true rfl, Nat.le_of_ble_eq_true rfl⟩ rfl (by decide) (hCk hw.2.2.2.2.2 16 (by decide) rfl) tw_843 tw_844 tw_845 tw_37 tw_846 hd_X5_clear rfl hl.1 rfl (Nat.le_of_ble_eq_true rfl) dX8_run_4 ⟨Nat.le_of_ble_eq_true rfl, Nat.le_of_ble_eq_true rfl⟩ rfl (fun H locs hw => ?_)
  refine lv_aload_n X.1 X.2.1 dX8_run_7 rfl (lv_at hl 0 rfl) ?_
  refine r_getI X hw (κ := 9) rfl inlX8 13 (by decide) rfl (by decide) tw_168 (hCk hw.2.2.2.2.2 0 (by decide) rfl) dX8_run_8 ?_
  refine lv_bipush (v := 30) X.1 X.2.1 dX8_run_11 (by decide) ?_
  refine lv_idiv X.1 X.2.1 dX8_run_13 (by decide) ?_
  obtain ⟨v2, ev2, hf⟩ := bn_ok hf
  replace ev2 := Option.some.inj ev2
  refine lv_ren ev2 ?_
  refine lv_istore_n (lv' := [(1, .int v2), (0, .ref (B + 0))]) X.1 X.2.1 dX8_run_14 rfl hl (by decide) rfl (fun ls hl => ?_)
  refine lv_iconst (v := 0) X.1 X.2.1 dX8_run_15 (by decide) ?_
  refine lv_istore_n (lv' := [(2, .int 0), (1, .int v2), (0, .ref (B + 0))]) X.1 X.2.1 dX8_run_16 rfl hl (by decide) rfl (fun ls hl => ?_)
  exact w_X8_run_17 X  _ _ _ _ _ _ _ hf hw (lv_sub hl [2, 1, 0] rfl)
