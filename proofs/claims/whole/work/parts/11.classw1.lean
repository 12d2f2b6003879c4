set_option maxHeartbeats 4000000 in
theorem w_J7_fill_53178_5 {p : Program} {l : Launch} {e : Env} {s : State} {m : MethodId} {args : Array Value} {below : List Frame} {meth : Method} {c : Code} {D : va_G} {B : Nat} {cy : Nat → ClassId} {A : Nat → Prop} {ad av : Nat → Nat} {Z : HS} (X : hCX p s m args meth c RJ7 cJ7_fill_53178 4 none D cy A ad av)  : ∀ (n : Nat) (x0 : Nat) (x1 : Int32) (x2 : Int32) (x3 : Int32) (S : HS) (H : Heap) (locs : List Loc) (ls : Array Slot), fn_J7_fill_53178_5 n x0 x1 x2 x3 S = some Z → hWd D B cy A true hC S s.heap H locs → lv_has ls 4 [(0, .ref (B + x0)), (1, .int x1), (2, .int x2), (3, .int x3)] → W p l e ({ frames := 0, cells := 0, slots := 0, locals := 0 } : Room) s m args below meth c H locs 0 0 (MQ below (hQo D B cy A true hC Z none) args s 0 0 A) (F0 m 5 ls []) := by
  intro n
  induction n with
  | zero =>
    intro x0 x1 x2 x3 S H locs ls hf
    cases hf
  | succ n ih =>
    intro x0 x1 x2 x3 S H locs ls hf hw hl
    rw [fn_J7_fill_53178_5] at hf
    refine lv_iload_n X.1 X.2.1 dJ7_fill_53178_5 rfl (lv_at hl 2 rfl) ?_
    refine lv_iload_n X.1 X.2.1 dJ7_fill_53178_6 rfl (lv_at hl 3 rfl) ?_
    refine lv_icmp_ge (tgt := 20) X.1 X.2.1 dJ7_fill_53178_7 (by decide) (fun hq => ?_) (fun hq => ?_)
    · replace hf := cd_tk hq hf
      cases hf
      exact r_vret X hw dJ7_fill_53178_20
    · replace hf := cd_fk hq hf
      refine lv_aload_n X.1 X.2.1 dJ7_fill_53178_10 rfl (lv_at hl 0 rfl) ?_
      refine lv_iload_n X.1 X.2.1 dJ7_fill_53178_11 rfl (lv_at hl 2 rfl) ?_
      refine lv_iload_n X.1 X.2.1 dJ7_fill_53178_12 rfl (lv_at hl 1 rfl) ?_
      obtain ⟨g1, hf⟩ := gd_ok hf
      obtain ⟨g2, hf⟩ := gd_ok hf
      obtain ⟨S3, eS3, hf⟩ := bn_ok hf
      replace eS3 := Option.some.inj eS3
      refine r_iast X hw g1 rfl g2 hw.2.2.2.2.2 dJ7_fill_53178_13 (fun H locs hw => ?_)
      rw [eS3] at hw
      obtain ⟨v4, ev4, hf⟩ := bn_ok hf
      replace ev4 := Option.some.inj ev4
      refine lv_iinc (v := v4) (lv' := [(2, .int v4), (0, .ref (B + x0)), (1, .int x1), (3, .int x3)]) X.1 X.2.1 dJ7_fill_53178_14 hl (k := 2) rfl ev4 (by decide) rfl (fun ls hl => ?_)
      refine lv_goto (tgt := 5) X.1 X.2.1 dJ7_fill_53178_17 (by decide) ?_
      exact ih _ _ _ _ _ _ _ _ hf hw (lv_sub hl [1, 2, 0, 3] rfl)
theorem hd_J7_fill_53178 : yJ7_fill_53178.cls ≠ "java/lang/invoke/MethodHandle" ∧ yJ7_fill_53178.cls ≠ "java/lang/invoke/VarHandle" ∧ (parseMethodDescriptor yJ7_fill_53178.desc).map (fun d => d.parameters.length) = some 2 := by decide +kernel
set_option maxHeartbeats 4000000 in
theorem c_J7_fill_53178 (l : Launch) (D : va_G) (B : Nat) (cy : Nat → ClassId) (A : Nat → Prop) (ad av : Nat → Nat) (x0 : Nat) (x1 : Int32) {S Z : HS} (hfr : hFr S) (hG : hC S) (hf : fn_J7_fill_53178 x0 x1 S = some Z) : hMet l yJ7_fill_53178 cJ7_fill_53178 4 none ({ frames := 0, cells := 0, slots := 0, locals := 0 } : Room) D B cy A ad av true hC [.ref (B + x0), .int x1] S Z none 0 0 := by
  refine h_entry (by decide) hfr hG ?_
  intro p e s m below meth c args X hnm hw
  have hl := lv_entry ([.ref (B + x0), .int x1]) (n := 4) (Nat.le_of_ble_eq_true rfl)
  rw [lg_entry_eq]
  generalize (lg_sl ([.ref (B + x0), .int x1]) ++ List.replicate (4 - (lg_sl ([.ref (B + x0), .int x1])).length) Slot.unset).toArray = ls at hl ⊢
  have hl : lv_has ls 4 [(0, .ref (B + x0)), (1, .int x1)] := hl
  unfold fn_J7_fill_53178 at hf
  refine lv_iconst (v := 0) X.1 X.2.1 dJ7_fill_53178_0 (by decide) ?_
  refine lv_istore_n (lv' := [(2, .int 0), (0, .ref (B + x0)), (1, .int x1)]) X.1 X.2.1 dJ7_fill_53178_1 rfl hl (by decide) rfl (fun ls hl => ?_)
  refine lv_aload_n X.1 X.2.1 dJ7_fill_53178_2 rfl (lv_at hl 1 rfl) ?_
  obtain ⟨g1, hf⟩ := gd_ok hf
  refine r_alen (κ := 21) X hw g1 (by decide) rfl dJ7_fill_53178_3 ?_
  obtain ⟨v2, ev2, hf⟩ := bn_ok hf
  replace ev2 := Option.some.inj ev2
  refine lv_ren ev2 ?_
  refine lv_istore_n (lv' := [(3, .int v2), (2, .int 0), (0, .ref (B + x0)), (1, .int x1)]) X.1 X.2.1 dJ7_fill_53178_4 rfl hl (by decide) rfl (fun ls hl => ?_)
  exact w_J7_fill_53178_5 X  _ _ _ _ _ _ _ _ _ hf hw (lv_sub hl [2, 3, 1, 0] rfl)
theorem hd_X5_clear : yX5_clear.cls = RX5 ∧ yX5_clear.cls ≠ "java/lang/invoke/MethodHandle" ∧ yX5_clear.cls ≠ "java/lang/invoke/VarHandle" ∧ (parseMethodDescriptor yX5_clear.desc).map (fun d => d.parameters.length) = some 0 := by decide +kernel
set_option maxHeartbeats 4000000 in
theorem c_X5_clear (l : Launch) (D : va_G) (B : Nat) (cy : Nat → ClassId) (A : Nat → Prop) (ad av : Nat → Nat) (x0 : Nat) {S Z : HS} (hfr : hFr S) (hG : hC S) (hf : fn_X5_clear x0 S = some Z) : hMet l yX5_clear cX5_clear 1 none ({ frames := 0, cells := 0, slots := 0, locals := 0 } : Room) D B cy A ad av true hC [.ref (B + x0)] S Z none 0 0 := by
  refine h_entry (by decide) hfr hG ?_
  intro p e s m below meth c args X hnm hw
  have hl := lv_entry ([.ref (B + x0)]) (n := 1) (Nat.le_of_ble_eq_true rfl)
  rw [lg_entry_eq]
  generalize (lg_sl ([.ref (B + x0)]) ++ List.replicate (1 - (lg_sl ([.ref (B + x0)])).length) Slot.unset).toArray = ls at hl ⊢
  have hl : lv_has ls 1 [(0, .ref (B + x0))] := hl
  unfold fn_X5_clear at hf
  refine lv_aload_n X.1 X.2.1 dX5_clear_0 rfl (lv_at hl 0 rfl) ?_
  refine lv_iconst (v := 0) X.1 X.2.1 dX5_clear_1 (by decide) ?_
  obtain ⟨g1, hf⟩ := gd_ok hf
  obtain ⟨S2, eS2, hf⟩ := bn_ok hf
  replace eS2 := Option.some.inj eS2
  refine r_putI X hw (κ := 6) rfl inlX5 tyX5 tyX5_ok nmX5 2 (by decide) rfl (by decide) tw_847 (Or.inl rfl) g1 rfl rfl hw.2.2.2.2.2 dX5_clear_2 (fun H locs hw => ?_)
  rw [eS2] at hw
  cases hf
  exact r_vret X hw dX5_clear_5
set_option maxHeartbeats 4000000 in
theorem w_X5_cell_58 {p : Program} {l : Launch} {e : Env} {s : State} {m : MethodId} {args : Array Value} {below : List Frame} {meth : Method} {c : Code} {D : va_G} {B : Nat} {cy : Nat → ClassId} {A : Nat → Prop} {ad av : Nat → Nat} {rv : Int64} {Z : HS} (X : hCX p s m args meth c RX5 cX5_cell 4 (some .long) D cy A ad av)  (y0 : Int64) (S : HS) (H : Heap) (locs : List Loc) (ls : Array Slot) (hf : fn_X5_cell_58 y0 S = some (rv, Z)) (hw : hWd D B cy A true hC S s.heap H locs) (hl : lv_has ls 4 []) : W p l e ({ frames := 0, cells := 0, slots := 0, locals := 0 } : Room) s m args below meth c H locs 0 0 (MQ below (hQo D B cy A true hC Z (some (.long rv))) args s 0 0 A) (F0 m 58 ls [.long y0]) := by
  unfold fn_X5_cell_58 at hf
  cases hf
  exact r_lret X hw dX5_cell_58
set_option maxHeartbeats 4000000 in
theorem w_X5_cell_24 {p : Program} {l : Launch} {e : Env} {s : State} {m : MethodId} {args : Array Value} {below : List Frame} {meth : Method} {c : Code} {D : va_G} {B : Nat} {cy : Nat → ClassId} {A : Nat → Prop} {ad av : Nat → Nat} {rv : Int64} {Z : HS} (X : hCX p s m args meth c RX5 cX5_cell 4 (some .long) D cy A ad av)   (S : HS) (H : Heap) (locs : List Loc) (ls : Array Slot) (hf : fn_X5_cell_24 S = some (rv, Z)) (hw : hWd D B cy A true hC S s.heap H locs) (hl : lv_has ls 4 []) : W p l e ({ frames := 0, cells := 0, slots := 0, locals := 0 } : Room) s m args below meth c H locs 0 0 (MQ below (hQo D B cy A true hC Z (some (.long rv))) args s 0 0 A) (F0 m 24 ls []) := by
  unfold fn_X5_cell_24 at hf
  refine lv_ldc2 X.1 X.2.1 X.2.2.2.1 (X.2.2.2.2.1 _ tw_874) dX5_cell_24 ?_
  cases hf
  exact r_lret X hw dX5_cell_27
theorem hd_X5_cell : yX5_cell.cls = RX5 ∧ yX5_cell.cls ≠ "java/lang/invoke/MethodHandle" ∧ yX5_cell.cls ≠ "java/lang/invoke/VarHandle" ∧ (parseMethodDescriptor yX5_cell.desc).map (fun d => d.parameters.length) = some 2 := by decide +kernel
set_option maxHeartbeats 4000000 in
theorem c_X5_cell (l : Launch) (D : va_G) (B : Nat) (cy : Nat → ClassId) (A : Nat → Prop) (ad av : Nat → Nat) (x0 : Nat) (x1 : Int32) (x2 : Int32) {S Z : HS} {rv : Int64} (hfr : hFr S) (hG : hC S) (hf : fn_X5_cell x0 x1 x2 S = some (rv, Z)) : hMet l yX5_cell cX5_cell 4 (some .long) ({ frames := 0, cells := 0, slots := 0, locals := 0 } : Room) D B cy A ad av true hC [.ref (B + x0), .int x1, .int x2] S Z (some (.long rv)) 0 0 := by
  refine h_entry (by decide) hfr hG ?_
  intro p e s m below meth c args X hnm hw
  have hl := lv_entry ([.ref (B + x0), .int x1, .int x2]) (n := 4) (Nat.le_of_ble_eq_true rfl)
  rw [lg_entry_eq]
  generalize (lg_sl ([.ref (B + x0), .int x1, .int x2]) ++ List.replicate (4 - (lg_sl ([.ref (B + x0), .int x1, .int x2])).length) Slot.unset).toArray = ls at hl ⊢
  have hl : lv_has ls 4 [(0, .ref (B + x0)), (1, .int x1), (2, .int x2)] := hl
  unfold fn_X5_cell at hf
  refine lv_iload_n X.1 X.2.1 dX5_cell_0 rfl (lv_at hl 1 rfl) ?_
  refine lv_if_lt (tgt := 24) X.1 X.2.1 dX5_cell_1 (by decide) (fun hq => ?_) (fun hq => ?_)
  · replace hf := cd_tk hq hf
    exact w_X5_cell_24 X  _ _ _ _ hf hw (lv_sub hl [] rfl)
  · replace hf := cd_fk hq hf
    refine lv_iload_n X.1 X.2.1 dX5_cell_4 rfl (lv_at hl 1 rfl) ?_
    refine lv_aload_n X.1 X.2.1 dX5_cell_5 rfl (lv_at hl 0 rfl) ?_
    obtain ⟨g1, hf⟩ := gd_ok hf
    refine r_getI X hw (κ := 6) rfl inlX5 2 (by decide) rfl (by decide) tw_847 g1 dX5_cell_6 ?_
    refine lv_icmp_ge (tgt := 24) X.1 X.2.1 dX5_cell_9 (by decide) (fun hq => ?_) (fun hq => ?_)
    · replace hf := cd_tk hq hf
      exact w_X5_cell_24 X  _ _ _ _ hf hw (lv_sub hl [] rfl)
    · replace hf := cd_fk hq hf
      refine lv_iload_n X.1 X.2.1 dX5_cell_12 rfl (lv_at hl 2 rfl) ?_
      refine lv_if_lt (tgt := 24) X.1 X.2.1 dX5_cell_13 (by decide) (fun hq => ?_) (fun hq => ?_)
      · replace hf := cd_tk hq hf
        exact w_X5_cell_24 X  _ _ _ _ hf hw (lv_sub hl [] rfl)
      · replace hf := cd_fk hq hf
        refine lv_iload_n X.1 X.2.1 dX5_cell_16 rfl (lv_at hl 2 rfl) ?_
        refine lv_aload_n X.1 X.2.1 dX5_cell_17 rfl (lv_at hl 0 rfl) ?_
        obtain ⟨g2, hf⟩ := gd_ok hf
        refine r_getI X hw (κ := 6) rfl inlX5 0 (by decide) rfl (by decide) tw_94 g2 dX5_cell_18 ?_
        refine lv_icmp_lt (tgt := 28) X.1 X.2.1 dX5_cell_21 (by decide) (fun hq => ?_) (fun hq => ?_)
        · replace hf := cd_tk hq hf
          refine lv_iload_n X.1 X.2.1 dX5_cell_28 rfl (lv_at hl 1 rfl) ?_
          refine lv_aload_n X.1 X.2.1 dX5_cell_29 rfl (lv_at hl 0 rfl) ?_
          obtain ⟨g3, hf⟩ := gd_ok hf
          refine r_getI X hw (κ := 6) rfl inlX5 0 (by decide) rfl (by decide) tw_94 g3 dX5_cell_30 ?_
          refine lv_imul X.1 X.2.1 dX5_cell_33 ?_
          refine lv_iload_n X.1 X.2.1 dX5_cell_34 rfl (lv_at hl 2 rfl) ?_
          refine lv_iadd X.1 X.2.1 dX5_cell_35 ?_
          obtain ⟨v4, ev4, hf⟩ := bn_ok hf
          replace ev4 := Option.some.inj ev4
          refine lv_ren ev4 ?_
          refine lv_istore_n (lv' := [(3, .int v4), (0, .ref (B + x0)), (1, .int x1), (2, .int x2)]) X.1 X.2.1 dX5_cell_36 rfl hl (by decide) rfl (fun ls hl => ?_)
          refine lv_iload_n X.1 X.2.1 dX5_cell_37 rfl (lv_at hl 0 rfl) ?_
          refine lv_aload_n X.1 X.2.1 dX5_cell_38 rfl (lv_at hl 1 rfl) ?_
          obtain ⟨g5, hf⟩ := gd_ok hf
          refine r_getR X hw (κ := 6) rfl inlX5 1 (by decide) rfl (by decide) tw_99 g5 dX5_cell_39 ?_
          obtain ⟨c6, ec6, hf⟩ := bn_ok hf
          rw [ec6]
          obtain ⟨g7, hf⟩ := gd_ok hf
          refine r_alen (κ := 22) X hw g7 (by decide) rfl dX5_cell_42 ?_
          refine lv_icmp_ge (tgt := 55) X.1 X.2.1 dX5_cell_43 (by decide) (fun hq => ?_) (fun hq => ?_)
          · replace hf := cd_tk hq hf
            refine lv_ldc2 X.1 X.2.1 X.2.2.2.1 (X.2.2.2.2.1 _ tw_874) dX5_cell_55 ?_
            exact w_X5_cell_58 X  _ _ _ _ _ hf hw (lv_sub hl [] rfl)
          · replace hf := cd_fk hq hf
            refine lv_aload_n X.1 X.2.1 dX5_cell_46 rfl (lv_at hl 1 rfl) ?_
            obtain ⟨g8, hf⟩ := gd_ok hf
            refine r_getR X hw (κ := 6) rfl inlX5 1 (by decide) rfl (by decide) tw_99 g8 dX5_cell_47 ?_
            refine lv_iload_n X.1 X.2.1 dX5_cell_50 rfl (lv_at hl 0 rfl) ?_
            obtain ⟨c9, ec9, hf⟩ := bn_ok hf
            rw [ec9]
            obtain ⟨g10, hf⟩ := gd_ok hf
            obtain ⟨g11, hf⟩ := gd_ok hf
            refine r_lald X hw g10 rfl g11 dX5_cell_51 ?_
            refine lv_goto (tgt := 58) X.1 X.2.1 dX5_cell_52 (by decide) ?_
            exact w_X5_cell_58 X  _ _ _ _ _ hf hw (lv_sub hl [] rfl)
        · replace hf := cd_fk hq hf
          exact w_X5_cell_24 X  _ _ _ _ hf hw (lv_sub hl [] rfl)
set_option maxHeartbeats 4000000 in
theorem w_X5_put_39 {p : Program} {l : Launch} {e : Env} {s : State} {m : MethodId} {args : Array Value} {below : List Frame} {meth : Method} {c : Code} {D : va_G} {B : Nat} {cy : Nat → ClassId} {A : Nat → Prop} {ad av : Nat → Nat} {Z : HS} (X : hCX p s m args meth c RX5 cX5_put 5 none D cy A ad av)   (S : HS) (H : Heap) (locs : List Loc) (ls : Array Slot) (hf : fn_X5_put_39 S = some Z) (hw : hWd D B cy A true hC S s.heap H locs) (hl : lv_has ls 5 []) : W p l e ({ frames := 0, cells := 0, slots := 0, locals := 0 } : Room) s m args below meth c H locs 0 0 (MQ below (hQo D B cy A true hC Z none) args s 0 0 A) (F0 m 39 ls []) := by
  unfold fn_X5_put_39 at hf
  cases hf
  exact r_vret X hw dX5_put_39
theorem hd_X5_put : yX5_put.cls = RX5 ∧ yX5_put.cls ≠ "java/lang/invoke/MethodHandle" ∧ yX5_put.cls ≠ "java/lang/invoke/VarHandle" ∧ (parseMethodDescriptor yX5_put.desc).map (fun d => d.parameters.length) = some 2 := by decide +kernel
set_option maxHeartbeats 4000000 in
theorem c_X5_put (l : Launch) (D : va_G) (B : Nat) (cy : Nat → ClassId) (A : Nat → Prop) (ad av : Nat → Nat) (x0 : Nat) (x1 : Int32) (x2 : Int64) {S Z : HS} (hfr : hFr S) (hG : hC S) (hf : fn_X5_put x0 x1 x2 S = some Z) : hMet l yX5_put cX5_put 5 none ({ frames := 0, cells := 0, slots := 0, locals := 0 } : Room) D B cy A ad av true hC [.ref (B + x0), .int x1, .long x2] S Z none 0 0 := by
  refine h_entry (by decide) hfr hG ?_
  intro p e s m below meth c args X hnm hw
  have hl := lv_entry ([.ref (B + x0), .int x1, .long x2]) (n := 5) (Nat.le_of_ble_eq_true rfl)
  rw [lg_entry_eq]
  generalize (lg_sl ([.ref (B + x0), .int x1, .long x2]) ++ List.replicate (5 - (lg_sl ([.ref (B + x0), .int x1, .long x2])).length) Slot.unset).toArray = ls at hl ⊢
  have hl : lv_has ls 5 [(0, .ref (B + x0)), (1, .int x1), (2, .long x2)] := hl
  unfold fn_X5_put at hf
  refine lv_aload_n X.1 X.2.1 dX5_put_0 rfl (lv_at hl 0 rfl) ?_
  obtain ⟨g1, hf⟩ := gd_ok hf
  refine r_getI X hw (κ := 6) rfl inlX5 2 (by decide) rfl (by decide) tw_847 g1 dX5_put_1 ?_
  refine lv_aload_n X.1 X.2.1 dX5_put_4 rfl (lv_at hl 0 rfl) ?_
  obtain ⟨g2, hf⟩ := gd_ok hf
  refine r_getI X hw (κ := 6) rfl inlX5 0 (by decide) rfl (by decide) tw_94 g2 dX5_put_5 ?_
  refine lv_imul X.1 X.2.1 dX5_put_8 ?_
  refine lv_iload_n X.1 X.2.1 dX5_put_9 rfl (lv_at hl 1 rfl) ?_
  refine lv_iadd X.1 X.2.1 dX5_put_10 ?_
  obtain ⟨v3, ev3, hf⟩ := bn_ok hf
  replace ev3 := Option.some.inj ev3
  refine lv_ren ev3 ?_
  refine lv_istore (lv' := [(4, .int v3), (0, .ref (B + x0)), (1, .int x1), (2, .long x2)]) X.1 X.2.1 dX5_put_11 hl (by decide) rfl (fun ls hl => ?_)
  refine lv_iload_n X.1 X.2.1 dX5_put_13 rfl (lv_at hl 2 rfl) ?_
  refine lv_aload_n X.1 X.2.1 dX5_put_14 rfl (lv_at hl 1 rfl) ?_
  obtain ⟨g4, hf⟩ := gd_ok hf
  refine r_getI X hw (κ := 6) rfl inlX5 0 (by decide) rfl (by decide) tw_94 g4 dX5_put_15 ?_
  refine lv_icmp_ge (tgt := 39) X.1 X.2.1 dX5_put_18 (by decide) (fun hq => ?_) (fun hq => ?_)
  · replace hf := cd_tk hq hf
    exact w_X5_put_39 X  _ _ _ _ hf hw (lv_sub hl [] rfl)
  · replace hf := cd_fk hq hf
    refine lv_iload X.1 X.2.1 dX5_put_21 (lv_at hl 0 rfl) ?_
    refine lv_aload_n X.1 X.2.1 dX5_put_23 rfl (lv_at hl 1 rfl) ?_
    obtain ⟨g5, hf⟩ := gd_ok hf
    refine r_getR X hw (κ := 6) rfl inlX5 1 (by decide) rfl (by decide) tw_99 g5 dX5_put_24 ?_
    obtain ⟨c6, ec6, hf⟩ := bn_ok hf
    rw [ec6]
    obtain ⟨g7, hf⟩ := gd_ok hf
    refine r_alen (κ := 22) X hw g7 (by decide) rfl dX5_put_27 ?_
    refine lv_icmp_ge (tgt := 39) X.1 X.2.1 dX5_put_28 (by decide) (fun hq => ?_) (fun hq => ?_)
    · replace hf := cd_tk hq hf
      exact w_X5_put_39 X  _ _ _ _ hf hw (lv_sub hl [] rfl)
    · replace hf := cd_fk hq hf
      refine lv_aload_n X.1 X.2.1 dX5_put_31 rfl (lv_at hl 1 rfl) ?_
      obtain ⟨g8, hf⟩ := gd_ok hf
      refine r_getR X hw (κ := 6) rfl inlX5 1 (by decide) rfl (by decide) tw_99 g8 dX5_put_32 ?_
      refine lv_iload X.1 X.2.1 dX5_put_35 (lv_at hl 0 rfl) ?_
      refine lv_lload_n X.1 X.2.1 dX5_put_37 rfl (lv_at hl 3 rfl) ?_
      obtain ⟨c9, ec9, hf⟩ := bn_ok hf
      rw [ec9]
      obtain ⟨g10, hf⟩ := gd_ok hf
      obtain ⟨g11, hf⟩ := gd_ok hf
      obtain ⟨S12, eS12, hf⟩ := bn_ok hf
      replace eS12 := Option.some.inj eS12
      refine r_last X hw g10 rfl g11 hw.2.2.2.2.2 dX5_put_38 (fun H locs hw => ?_)
      rw [eS12] at hw
      exact w_X5_put_39 X  _ _ _ _ hf hw (lv_sub hl [] rfl)
theorem hd_X5_add : yX5_add.cls = RX5 ∧ yX5_add.cls ≠ "java/lang/invoke/MethodHandle" ∧ yX5_add.cls ≠ "java/lang/invoke/VarHandle" ∧ (parseMethodDescriptor yX5_add.desc).map (fun d => d.parameters.length) = some 4 := by decide +kernel
set_option maxHeartbeats 4000000 in
theorem c_X5_add (l : Launch) (D : va_G) (B : Nat) (cy : Nat → ClassId) (A : Nat → Prop) (ad av : Nat → Nat) (x0 : Nat) (x1 : Int64) (x3 : Int64) (x5 : Int64) (x7 : Int64) {S Z : HS} (hfr : hFr S) (hG : hC S) (hf : fn_X5_add x0 x1 x3 x5 x7 S = some Z) : hMet l yX5_add cX5_add 9 none ({ frames := 1, cells := 0, slots := 0, locals := 24 } : Room) D B cy A ad av true hC [.ref (B + x0), .long x1, .long x3, .long x5, .long x7] S Z none 0 0 := by
  refine h_entry (by decide) hfr hG ?_
  intro p e s m below meth c args X hnm hw
  have hl := lv_entry ([.ref (B + x0), .long x1, .long x3, .long x5, .long x7]) (n := 9) (Nat.le_of_ble_eq_true rfl)
  rw [lg_entry_eq]
  generalize (lg_sl ([.ref (B + x0), .long x1, .long x3, .long x5, .long x7]) ++ List.replicate (9 - (lg_sl ([.ref (B + x0), .long x1, .long x3, .long x5, .long x7])).length) Slot.unset).toArray = ls at hl ⊢
  have hl : lv_has ls 9 [(0, .ref (B + x0)), (1, .long x1), (3, .long x3), (5, .long x5), (7, .long x7)] := hl
  unfold fn_X5_add at hf
  refine lv_aload_n X.1 X.2.1 dX5_add_0 rfl (lv_at hl 0 rfl) ?_
  obtain ⟨g1, hf⟩ := gd_ok hf
  refine r_getI X hw (κ := 6) rfl inlX5 2 (by decide) rfl (by decide) tw_847 g1 dX5_add_1 ?_
  refine lv_iconst (v := 1) X.1 X.2.1 dX5_add_4 (by decide) ?_
  refine lv_iadd X.1 X.2.1 dX5_add_5 ?_
  refine lv_aload_n X.1 X.2.1 dX5_add_6 rfl (lv_at hl 0 rfl) ?_
  obtain ⟨g2, hf⟩ := gd_ok hf
  refine r_getI X hw (κ := 6) rfl inlX5 0 (by decide) rfl (by decide) tw_94 g2 dX5_add_7 ?_
  refine lv_imul X.1 X.2.1 dX5_add_10 ?_
  refine lv_aload_n X.1 X.2.1 dX5_add_11 rfl (lv_at hl 0 rfl) ?_
  obtain ⟨g3, hf⟩ := gd_ok hf
  refine r_getR X hw (κ := 6) rfl inlX5 1 (by decide) rfl (by decide) tw_99 g3 dX5_add_12 ?_
  obtain ⟨c4, ec4, hf⟩ := bn_ok hf
  rw [ec4]
  obtain ⟨g5, hf⟩ := gd_ok hf
  refine r_alen (κ := 22) X hw g5 (by decide) rfl dX5_add_15 ?_
  refine lv_icmp_le (tgt := 20) X.1 X.2.1 dX5_add_16 (by decide) (fun hq => ?_) (fun hq => ?_)
  · replace hf := cd_tk hq hf
    refine lv_aload_n X.1 X.2.1 dX5_add_20 rfl (lv_at hl 0 rfl) ?_
    refine lv_iconst (v := 0) X.1 X.2.1 dX5_add_21 (by decide) ?_
    refine lv_lload_n X.1 X.2.1 dX5_add_22 rfl (lv_at hl 1 rfl) ?_
    obtain ⟨g6, hf⟩ := gd_ok hf
    obtain ⟨S7, hS7, hf⟩ := bn_ok hf
    refine r_callV (As := [.int 0, .long x1]) (rest := []) (st1 := []) (κ := 6) X hw (c_X5_put l D B cy A ad av x0 0 x1 hw.2.2.2.2.1 hw.2.2.2.2.2 hS7) ⟨rfl, rfl, Nat.le_of_ble_eq_true rfl, Nat.le_of_ble_eq_true rfl⟩ rfl (by decide) g6 tw_856 tw_857 tw_858 tw_37 tw_859 hd_X5_put rfl hl.1 rfl (Nat.le_of_ble_eq_true rfl) dX5_add_23 ⟨Nat.le_of_ble_eq_true rfl, Nat.le_of_ble_eq_true rfl⟩ rfl (fun H locs hw => ?_)
    refine lv_aload_n X.1 X.2.1 dX5_add_26 rfl (lv_at hl 0 rfl) ?_
    refine lv_iconst (v := 1) X.1 X.2.1 dX5_add_27 (by decide) ?_
    refine lv_lload_n X.1 X.2.1 dX5_add_28 rfl (lv_at hl 2 rfl) ?_
    obtain ⟨g8, hf⟩ := gd_ok hf
    obtain ⟨S9, hS9, hf⟩ := bn_ok hf
    refine r_callV (As := [.int 1, .long x3]) (rest := []) (st1 := []) (κ := 6) X hw (c_X5_put l D B cy A ad av x0 1 x3 hw.2.2.2.2.1 hw.2.2.2.2.2 hS9) ⟨rfl, rfl, Nat.le_of_ble_eq_true rfl, Nat.le_of_ble_eq_true rfl⟩ rfl (by decide) g8 tw_856 tw_857 tw_858 tw_37 tw_859 hd_X5_put rfl hl.1 rfl (Nat.le_of_ble_eq_true rfl) dX5_add_29 ⟨Nat.le_of_ble_eq_true rfl, Nat.le_of_ble_eq_true rfl⟩ rfl (fun H locs hw => ?_)
    refine lv_aload_n X.1 X.2.1 dX5_add_32 rfl (lv_at hl 0 rfl) ?_
    refine lv_iconst (v := 2) X.1 X.2.1 dX5_add_33 (by decide) ?_
    refine lv_lload X.1 X.2.1 dX5_add_34 (lv_at hl 3 rfl) ?_
    obtain ⟨g10, hf⟩ := gd_ok hf
    obtain ⟨S11, hS11, hf⟩ := bn_ok hf
    refine r_callV (As := [.int 2, .long x5]) (rest := []) (st1 := []) (κ := 6) X hw (c_X5_put l D B cy A ad av x0 2 x5 hw.2.2.2.2.1 hw.2.2.2.2.2 hS11) ⟨rfl, rfl, Nat.le_of_ble_eq_true rfl, Nat.le_of_ble_eq_true rfl⟩ rfl (by decide) g10 tw_856 tw_857 tw_858 tw_37 tw_859 hd_X5_put rfl hl.1 rfl (Nat.le_of_ble_eq_true rfl) dX5_add_36 ⟨Nat.le_of_ble_eq_true rfl, Nat.le_of_ble_eq_true rfl⟩ rfl (fun H locs hw => ?_)
    refine lv_aload_n X.1 X.2.1 dX5_add_39 rfl (lv_at hl 0 rfl) ?_
    refine lv_iconst (v := 3) X.1 X.2.1 dX5_add_40 (by decide) ?_
    refine lv_lload X.1 X.2.1 dX5_add_41 (lv_at hl 4 rfl) ?_
    obtain ⟨g12, hf⟩ := gd_ok hf
    obtain ⟨S13, hS13, hf⟩ := bn_ok hf
    refine r_callV (As := [.int 3, .long x7]) (rest := []) (st1 := []) (κ := 6) X hw (c_X5_put l D B cy A ad av x0 3 x7 hw.2.2.2.2.1 hw.2.2.2.2.2 hS13) ⟨rfl, rfl, Nat.le_of_ble_eq_true rfl, Nat.le_of_ble_eq_true rfl⟩ rfl (by decide) g12 tw_856 tw_857 tw_858 tw_37 tw_859 hd_X5_put rfl hl.1 rfl (Nat.le_of_ble_eq_true rfl) dX5_add_43 ⟨Nat.le_of_ble_eq_true rfl, Nat.le_of_ble_eq_true rfl⟩ rfl (fun H locs hw => ?_)
    refine lv_aload_n X.1 X.2.1 dX5_add_46 rfl (lv_at hl 0 rfl) ?_
    refine lv_dup X.1 X.2.1 dX5_add_47 rfl ?_
    obtain ⟨g14, hf⟩ := gd_ok hf
    refine r_getI X hw (κ := 6) rfl inlX5 2 (by decide) rfl (by decide) tw_847 g14 dX5_add_48 ?_
    refine lv_iconst (v := 1) X.1 X.2.1 dX5_add_51 (by decide) ?_
    refine lv_iadd X.1 X.2.1 dX5_add_52 ?_
    obtain ⟨g15, hf⟩ := gd_ok hf
    obtain ⟨S16, eS16, hf⟩ := bn_ok hf
    replace eS16 := Option.some.inj eS16
    refine r_putI X hw (κ := 6) rfl inlX5 tyX5 tyX5_ok nmX5 2 (by decide) rfl (by decide) tw_847 (Or.inl rfl) g15 rfl rfl hw.2.2.2.2.2 dX5_add_53 (fun H locs hw => ?_)
    rw [eS16] at hw
    cases hf
    exact r_vret X hw dX5_add_56
  · replace hf := cd_fk hq hf
    cases hf
    exact r_vret X hw dX5_add_19
theorem hd_X2_key : yX2_key.cls = RX2 ∧ yX2_key.cls ≠ "java/lang/invoke/MethodHandle" ∧ yX2_key.cls ≠ "java/lang/invoke/VarHandle" ∧ (parseMethodDescriptor yX2_key.desc).map (fun d => d.parameters.length) = some 0 := by decide +kernel
set_option maxHeartbeats 4000000 in
theorem c_X2_key (l : Launch) (D : va_G) (B : Nat) (cy : Nat → ClassId) (A : Nat → Prop) (ad av : Nat → Nat) (x0 : Nat) {S Z : HS} {rv : Int32} (hfr : hFr S) (hG : hC S) (hf : fn_X2_key x0 S = some (rv, Z)) : hMet l yX2_key cX2_key 1 (some .int) ({ frames := 0, cells := 0, slots := 0, locals := 0 } : Room) D B cy A ad av true hC [.ref (B + x0)] S Z (some (.int rv)) 0 0 := by
  refine h_entry (by decide) hfr hG ?_
  intro p e s m below meth c args X hnm hw
  have hl := lv_entry ([.ref (B + x0)]) (n := 1) (Nat.le_of_ble_eq_true rfl)
  rw [lg_entry_eq]
  generalize (lg_sl ([.ref (B + x0)]) ++ List.replicate (1 - (lg_sl ([.ref (B + x0)])).length) Slot.unset).toArray = ls at hl ⊢
  have hl : lv_has ls 1 [(0, .ref (B + x0))] := hl
  unfold fn_X2_key at hf
  refine lv_aload_n X.1 X.2.1 dX2_key_0 rfl (lv_at hl 0 rfl) ?_
  obtain ⟨g1, hf⟩ := gd_ok hf
  refine r_getI X hw (κ := 3) rfl inlX2 0 (by decide) rfl (by decide) tw_288 g1 dX2_key_1 ?_
  refine lv_bipush (v := 26) X.1 X.2.1 dX2_key_4 (by decide) ?_
  refine lv_imul X.1 X.2.1 dX2_key_6 ?_
  refine lv_aload_n X.1 X.2.1 dX2_key_7 rfl (lv_at hl 0 rfl) ?_
  obtain ⟨g2, hf⟩ := gd_ok hf
  refine r_getI X hw (κ := 3) rfl inlX2 4 (by decide) rfl (by decide) tw_353 g2 dX2_key_8 ?_
  refine lv_iadd X.1 X.2.1 dX2_key_11 ?_
  cases hf
  exact r_iret X hw dX2_key_12
set_option maxHeartbeats 4000000 in
theorem w_X2_holds_86 {p : Program} {l : Launch} {e : Env} {s : State} {m : MethodId} {args : Array Value} {below : List Frame} {meth : Method} {c : Code} {D : va_G} {B : Nat} {cy : Nat → ClassId} {A : Nat → Prop} {ad av : Nat → Nat} {rv : Int32} {Z : HS} (X : hCX p s m args meth c RX2 cX2_holds 3 (some .boolean) D cy A ad av)  (y0 : Int32) (S : HS) (H : Heap) (locs : List Loc) (ls : Array Slot) (hf : fn_X2_holds_86 y0 S = some (rv, Z)) (hw : hWd D B cy A true hC S s.heap H locs) (hl : lv_has ls 3 []) : W p l e ({ frames := 0, cells := 0, slots := 0, locals := 0 } : Room) s m args below meth c H locs 0 0 (MQ below (hQo D B cy A true hC Z (some (.int rv))) args s 0 0 A) (F0 m 86 ls [.int y0]) := by
  unfold fn_X2_holds_86 at hf
  obtain ⟨g1, hf⟩ := gd_ok hf
  cases hf
  exact r_zret X hw g1 dX2_holds_86
set_option maxHeartbeats 4000000 in
theorem w_X2_holds_47 {p : Program} {l : Launch} {e : Env} {s : State} {m : MethodId} {args : Array Value} {below : List Frame} {meth : Method} {c : Code} {D : va_G} {B : Nat} {cy : Nat → ClassId} {A : Nat → Prop} {ad av : Nat → Nat} {rv : Int32} {Z : HS} (X : hCX p s m args meth c RX2 cX2_holds 3 (some .boolean) D cy A ad av)  (y0 : Int32) (S : HS) (H : Heap) (locs : List Loc) (ls : Array Slot) (hf : fn_X2_holds_47 y0 S = some (rv, Z)) (hw : hWd D B cy A true hC S s.heap H locs) (hl : lv_has ls 3 []) : W p l e ({ frames := 0, cells := 0, slots := 0, locals := 0 } : Room) s m args below meth c H locs 0 0 (MQ below (hQo D B cy A true hC Z (some (.int rv))) args s 0 0 A) (F0 m 47 ls [.int y0]) := by
  unfold fn_X2_holds_47 at hf
  obtain ⟨g1, hf⟩ := gd_ok hf
  cases hf
  exact r_zret X hw g1 dX2_holds_47
set_option maxHeartbeats 4000000 in
theorem w_X2_holds_16 {p : Program} {l : Launch} {e : Env} {s : State} {m : MethodId} {args : Array Value} {below : List Frame} {meth : Method} {c : Code} {D : va_G} {B : Nat} {cy : Nat → ClassId} {A : Nat → Prop} {ad av : Nat → Nat} {rv : Int32} {Z : HS} (X : hCX p s m args meth c RX2 cX2_holds 3 (some .boolean) D cy A ad av)   (S : HS) (H : Heap) (locs : List Loc) (ls : Array Slot) (hf : fn_X2_holds_16 S = some (rv, Z)) (hw : hWd D B cy A true hC S s.heap H locs) (hl : lv_has ls 3 []) : W p l e ({ frames := 0, cells := 0, slots := 0, locals := 0 } : Room) s m args below meth c H locs 0 0 (MQ below (hQo D B cy A true hC Z (some (.int rv))) args s 0 0 A) (F0 m 16 ls []) := by
  unfold fn_X2_holds_16 at hf
  refine lv_iconst (v := 1) X.1 X.2.1 dX2_holds_16 (by decide) ?_
  cases hf
  exact r_zret X hw (by decide) dX2_holds_17
theorem hd_X2_holds : yX2_holds.cls = RX2 ∧ yX2_holds.cls ≠ "java/lang/invoke/MethodHandle" ∧ yX2_holds.cls ≠ "java/lang/invoke/VarHandle" ∧ (parseMethodDescriptor yX2_holds.desc).map (fun d => d.parameters.length) = some 1 := by decide +kernel
set_option maxHeartbeats 4000000 in
theorem c_X2_holds (l : Launch) (D : va_G) (B : Nat) (cy : Nat → ClassId) (A : Nat → Prop) (ad av : Nat → Nat) (x0 : Nat) {S Z : HS} {rv : Int32} (hfr : hFr S) (hG : hC S) (hf : fn_X2_holds x0 S = some (rv, Z)) : hMet l yX2_holds cX2_holds 3 (some .boolean) ({ frames := 0, cells := 0, slots := 0, locals := 0 } : Room) D B cy A ad av true hC [.ref (B + x0), .ref (B + 13)] S Z (some (.int rv)) 0 0 := by
  refine h_entry (by decide) hfr hG ?_
  intro p e s m below meth c args X hnm hw
  have hl := lv_entry ([.ref (B + x0), .ref (B + 13)]) (n := 3) (Nat.le_of_ble_eq_true rfl)
  rw [lg_entry_eq]
  generalize (lg_sl ([.ref (B + x0), .ref (B + 13)]) ++ List.replicate (3 - (lg_sl ([.ref (B + x0), .ref (B + 13)])).length) Slot.unset).toArray = ls at hl ⊢
  have hl : lv_has ls 3 [(0, .ref (B + x0)), (1, .ref (B + 13))] := hl
  unfold fn_X2_holds at hf
  refine lv_aload_n X.1 X.2.1 dX2_holds_0 rfl (lv_at hl 0 rfl) ?_
  obtain ⟨g1, hf⟩ := gd_ok hf
  refine r_getI X hw (κ := 3) rfl inlX2 5 (by decide) rfl (by decide) tw_287 g1 dX2_holds_1 ?_
  refine lv_if_lt (tgt := 16) X.1 X.2.1 dX2_holds_4 (by decide) (fun hq => ?_) (fun hq => ?_)
  · replace hf := cd_tk hq hf
    exact w_X2_holds_16 X  _ _ _ _ hf hw (lv_sub hl [] rfl)
  · replace hf := cd_fk hq hf
    refine lv_aload_n X.1 X.2.1 dX2_holds_7 rfl (lv_at hl 0 rfl) ?_
    obtain ⟨g2, hf⟩ := gd_ok hf
    refine r_getI X hw (κ := 3) rfl inlX2 5 (by decide) rfl (by decide) tw_287 g2 dX2_holds_8 ?_
    refine lv_aload_n X.1 X.2.1 dX2_holds_11 rfl (lv_at hl 1 rfl) ?_
    refine r_alen (κ := 21) X hw (hCk hw.2.2.2.2.2 13 (by decide) rfl) (by decide) (hCn hw.2.2.2.2.2 13 (by decide) rfl) dX2_holds_12 ?_
    refine lv_icmp_lt (tgt := 18) X.1 X.2.1 dX2_holds_13 (by decide) (fun hq => ?_) (fun hq => ?_)
    · replace hf := cd_tk hq hf
      refine lv_aload_n X.1 X.2.1 dX2_holds_18 rfl (lv_at hl 1 rfl) ?_
      refine lv_aload_n X.1 X.2.1 dX2_holds_19 rfl (lv_at hl 0 rfl) ?_
      obtain ⟨g3, hf⟩ := gd_ok hf
      refine r_getI X hw (κ := 3) rfl inlX2 5 (by decide) rfl (by decide) tw_287 g3 dX2_holds_20 ?_
      obtain ⟨g4, hf⟩ := gd_ok hf
      refine r_iald X hw (hCk hw.2.2.2.2.2 13 (by decide) rfl) (hCn hw.2.2.2.2.2 13 (by decide) rfl) g4 dX2_holds_23 ?_
      obtain ⟨v5, ev5, hf⟩ := bn_ok hf
      replace ev5 := Option.some.inj ev5
      refine lv_ren ev5 ?_
      refine lv_istore_n (lv' := [(2, .int v5), (0, .ref (B + x0)), (1, .ref (B + 13))]) X.1 X.2.1 dX2_holds_24 rfl hl (by decide) rfl (fun ls hl => ?_)
      refine lv_aload_n X.1 X.2.1 dX2_holds_25 rfl (lv_at hl 1 rfl) ?_
      obtain ⟨g6, hf⟩ := gd_ok hf
      refine r_getI X hw (κ := 3) rfl inlX2 6 (by decide) rfl (by decide) tw_670 g6 dX2_holds_26 ?_
      refine lv_bipush (v := 60) X.1 X.2.1 dX2_holds_29 (by decide) ?_
      refine lv_icmp_ne (tgt := 48) X.1 X.2.1 dX2_holds_31 (by decide) (fun hq => ?_) (fun hq => ?_)
      · replace hf := cd_fk hq hf
        refine lv_aload_n X.1 X.2.1 dX2_holds_48 rfl (lv_at hl 1 rfl) ?_
        obtain ⟨g7, hf⟩ := gd_ok hf
        refine r_getI X hw (κ := 3) rfl inlX2 6 (by decide) rfl (by decide) tw_670 g7 dX2_holds_49 ?_
        refine lv_bipush (v := 62) X.1 X.2.1 dX2_holds_52 (by decide) ?_
        refine lv_icmp_ne (tgt := 73) X.1 X.2.1 dX2_holds_54 (by decide) (fun hq => ?_) (fun hq => ?_)
        · replace hf := cd_fk hq hf
          refine lv_iload_n X.1 X.2.1 dX2_holds_73 rfl (lv_at hl 0 rfl) ?_
          refine lv_aload_n X.1 X.2.1 dX2_holds_74 rfl (lv_at hl 1 rfl) ?_
          obtain ⟨g8, hf⟩ := gd_ok hf
          refine r_getI X hw (κ := 3) rfl inlX2 7 (by decide) rfl (by decide) tw_671 g8 dX2_holds_75 ?_
          refine lv_icmp_ne (tgt := 85) X.1 X.2.1 dX2_holds_78 (by decide) (fun hq => ?_) (fun hq => ?_)
          · replace hf := cd_fk hq hf
            refine lv_iconst (v := 0) X.1 X.2.1 dX2_holds_85 (by decide) ?_
            exact w_X2_holds_86 X  _ _ _ _ _ hf hw (lv_sub hl [] rfl)
          · replace hf := cd_tk hq hf
            refine lv_iconst (v := 1) X.1 X.2.1 dX2_holds_81 (by decide) ?_
            refine lv_goto (tgt := 86) X.1 X.2.1 dX2_holds_82 (by decide) ?_
            exact w_X2_holds_86 X  _ _ _ _ _ hf hw (lv_sub hl [] rfl)
        · replace hf := cd_tk hq hf
          refine lv_iload_n X.1 X.2.1 dX2_holds_57 rfl (lv_at hl 0 rfl) ?_
          refine lv_aload_n X.1 X.2.1 dX2_holds_58 rfl (lv_at hl 1 rfl) ?_
          obtain ⟨g9, hf⟩ := gd_ok hf
          refine r_getI X hw (κ := 3) rfl inlX2 7 (by decide) rfl (by decide) tw_671 g9 dX2_holds_59 ?_
          refine lv_icmp_le (tgt := 69) X.1 X.2.1 dX2_holds_62 (by decide) (fun hq => ?_) (fun hq => ?_)
          · replace hf := cd_tk hq hf
            refine lv_iconst (v := 0) X.1 X.2.1 dX2_holds_69 (by decide) ?_
            refine lv_goto (tgt := 86) X.1 X.2.1 dX2_holds_70 (by decide) ?_
            exact w_X2_holds_86 X  _ _ _ _ _ hf hw (lv_sub hl [] rfl)
          · replace hf := cd_fk hq hf
            refine lv_iconst (v := 1) X.1 X.2.1 dX2_holds_65 (by decide) ?_
            refine lv_goto (tgt := 86) X.1 X.2.1 dX2_holds_66 (by decide) ?_
            exact w_X2_holds_86 X  _ _ _ _ _ hf hw (lv_sub hl [] rfl)
      · replace hf := cd_tk hq hf
        refine lv_iload_n X.1 X.2.1 dX2_holds_34 rfl (lv_at hl 0 rfl) ?_
        refine lv_aload_n X.1 X.2.1 dX2_holds_35 rfl (lv_at hl 1 rfl) ?_
        obtain ⟨g10, hf⟩ := gd_ok hf
        refine r_getI X hw (κ := 3) rfl inlX2 7 (by decide) rfl (by decide) tw_671 g10 dX2_holds_36 ?_
        refine lv_icmp_ge (tgt := 46) X.1 X.2.1 dX2_holds_39 (by decide) (fun hq => ?_) (fun hq => ?_)
        · replace hf := cd_tk hq hf
          refine lv_iconst (v := 0) X.1 X.2.1 dX2_holds_46 (by decide) ?_
          exact w_X2_holds_47 X  _ _ _ _ _ hf hw (lv_sub hl [] rfl)
        · replace hf := cd_fk hq hf
          refine lv_iconst (v := 1) X.1 X.2.1 dX2_holds_42 (by decide) ?_
          refine lv_goto (tgt := 47) X.1 X.2.1 dX2_holds_43 (by decide) ?_
          exact w_X2_holds_47 X  _ _ _ _ _ hf hw (lv_sub hl [] rfl)
    · replace hf := cd_fk hq hf
      exact w_X2_holds_16 X  _ _ _ _ hf hw (lv_sub hl [] rfl)
set_option maxHeartbeats 4000000 in
theorem w_X2_addToScale_32 {p : Program} {l : Launch} {e : Env} {s : State} {m : MethodId} {args : Array Value} {below : List Frame} {meth : Method} {c : Code} {D : va_G} {B : Nat} {cy : Nat → ClassId} {A : Nat → Prop} {ad av : Nat → Nat} {Z : HS} (X : hCX p s m args meth c RX2 cX2_addToScale 2 none D cy A ad av)   (S : HS) (H : Heap) (locs : List Loc) (ls : Array Slot) (hf : fn_X2_addToScale_32 S = some Z) (hw : hWd D B cy A true hC S s.heap H locs) (hl : lv_has ls 2 []) : W p l e ({ frames := 0, cells := 0, slots := 0, locals := 0 } : Room) s m args below meth c H locs 0 0 (MQ below (hQo D B cy A true hC Z none) args s 0 0 A) (F0 m 32 ls []) := by
  unfold fn_X2_addToScale_32 at hf
  cases hf
  exact r_vret X hw dX2_addToScale_32
theorem hd_X2_addToScale : yX2_addToScale.cls = RX2 ∧ yX2_addToScale.cls ≠ "java/lang/invoke/MethodHandle" ∧ yX2_addToScale.cls ≠ "java/lang/invoke/VarHandle" ∧ (parseMethodDescriptor yX2_addToScale.desc).map (fun d => d.parameters.length) = some 1 := by decide +kernel
set_option maxHeartbeats 4000000 in
theorem c_X2_addToScale (l : Launch) (D : va_G) (B : Nat) (cy : Nat → ClassId) (A : Nat → Prop) (ad av : Nat → Nat) (x0 : Nat) (x1 : Int32) {S Z : HS} (hfr : hFr S) (hG : hC S) (hf : fn_X2_addToScale x0 x1 S = some Z) : hMet l yX2_addToScale cX2_addToScale 2 none ({ frames := 0, cells := 0, slots := 0, locals := 0 } : Room) D B cy A ad av true hC [.ref (B + x0), .int x1] S Z none 0 0 := by
  refine h_entry (by decide) hfr hG ?_
  intro p e s m below meth c args X hnm hw
  have hl := lv_entry ([.ref (B + x0), .int x1]) (n := 2) (Nat.le_of_ble_eq_true rfl)
  rw [lg_entry_eq]
  generalize (lg_sl ([.ref (B + x0), .int x1]) ++ List.replicate (2 - (lg_sl ([.ref (B + x0), .int x1])).length) Slot.unset).toArray = ls at hl ⊢
  have hl : lv_has ls 2 [(0, .ref (B + x0)), (1, .int x1)] := hl
  unfold fn_X2_addToScale at hf
  refine lv_aload_n X.1 X.2.1 dX2_addToScale_0 rfl (lv_at hl 0 rfl) ?_
  obtain ⟨g1, hf⟩ := gd_ok hf
  refine r_getI X hw (κ := 3) rfl inlX2 3 (by decide) rfl (by decide) tw_339 g1 dX2_addToScale_1 ?_
  refine lv_aload_n X.1 X.2.1 dX2_addToScale_4 rfl (lv_at hl 0 rfl) ?_
  obtain ⟨g2, hf⟩ := gd_ok hf
  refine r_getR X hw (κ := 3) rfl inlX2 2 (by decide) rfl (by decide) tw_290 g2 dX2_addToScale_5 ?_
  obtain ⟨c3, ec3, hf⟩ := bn_ok hf
  rw [ec3]
  obtain ⟨g4, hf⟩ := gd_ok hf
  refine r_alen (κ := 21) X hw g4 (by decide) rfl dX2_addToScale_8 ?_
  refine lv_icmp_ge (tgt := 32) X.1 X.2.1 dX2_addToScale_9 (by decide) (fun hq => ?_) (fun hq => ?_)
  · replace hf := cd_tk hq hf
    exact w_X2_addToScale_32 X  _ _ _ _ hf hw (lv_sub hl [] rfl)
  · replace hf := cd_fk hq hf
    refine lv_aload_n X.1 X.2.1 dX2_addToScale_12 rfl (lv_at hl 0 rfl) ?_
    obtain ⟨g5, hf⟩ := gd_ok hf
    refine r_getR X hw (κ := 3) rfl inlX2 2 (by decide) rfl (by decide) tw_290 g5 dX2_addToScale_13 ?_
    refine lv_aload_n X.1 X.2.1 dX2_addToScale_16 rfl (lv_at hl 0 rfl) ?_
    obtain ⟨g6, hf⟩ := gd_ok hf
    refine r_getI X hw (κ := 3) rfl inlX2 3 (by decide) rfl (by decide) tw_339 g6 dX2_addToScale_17 ?_
    refine lv_iload_n X.1 X.2.1 dX2_addToScale_20 rfl (lv_at hl 1 rfl) ?_
    obtain ⟨c7, ec7, hf⟩ := bn_ok hf
    rw [ec7]
    obtain ⟨g8, hf⟩ := gd_ok hf
    obtain ⟨g9, hf⟩ := gd_ok hf
    obtain ⟨S10, eS10, hf⟩ := bn_ok hf
    replace eS10 := Option.some.inj eS10
    refine r_iast X hw g8 rfl g9 hw.2.2.2.2.2 dX2_addToScale_21 (fun H locs hw => ?_)
    rw [eS10] at hw
    refine lv_aload_n X.1 X.2.1 dX2_addToScale_22 rfl (lv_at hl 0 rfl) ?_
    refine lv_dup X.1 X.2.1 dX2_addToScale_23 rfl ?_
    obtain ⟨g11, hf⟩ := gd_ok hf
    refine r_getI X hw (κ := 3) rfl inlX2 3 (by decide) rfl (by decide) tw_339 g11 dX2_addToScale_24 ?_
    refine lv_iconst (v := 1) X.1 X.2.1 dX2_addToScale_27 (by decide) ?_
    refine lv_iadd X.1 X.2.1 dX2_addToScale_28 ?_
    obtain ⟨g12, hf⟩ := gd_ok hf
    obtain ⟨S13, eS13, hf⟩ := bn_ok hf
    replace eS13 := Option.some.inj eS13
    refine r_putI X hw (κ := 3) rfl inlX2 tyX2 tyX2_ok nmX2 3 (by decide) rfl (by decide) tw_339 (Or.inl rfl) g12 rfl rfl hw.2.2.2.2.2 dX2_addToScale_29 (fun H locs hw => ?_)
    rw [eS13] at hw
    exact w_X2_addToScale_32 X  _ _ _ _ hf hw (lv_sub hl [] rfl)
set_option maxHeartbeats 4000000 in
theorem w_X2_scaleNumber_31 {p : Program} {l : Launch} {e : Env} {s : State} {m : MethodId} {args : Array Value} {below : List Frame} {meth : Method} {c : Code} {D : va_G} {B : Nat} {cy : Nat → ClassId} {A : Nat → Prop} {ad av : Nat → Nat} {rv : Int32} {Z : HS} (X : hCX p s m args meth c RX2 cX2_scaleNumber 2 (some .int) D cy A ad av)  (y0 : Int32) (S : HS) (H : Heap) (locs : List Loc) (ls : Array Slot) (hf : fn_X2_scaleNumber_31 y0 S = some (rv, Z)) (hw : hWd D B cy A true hC S s.heap H locs) (hl : lv_has ls 2 []) : W p l e ({ frames := 0, cells := 0, slots := 0, locals := 0 } : Room) s m args below meth c H locs 0 0 (MQ below (hQo D B cy A true hC Z (some (.int rv))) args s 0 0 A) (F0 m 31 ls [.int y0]) := by
  unfold fn_X2_scaleNumber_31 at hf
  cases hf
  exact r_iret X hw dX2_scaleNumber_31
set_option maxHeartbeats 4000000 in
theorem w_X2_scaleNumber_30 {p : Program} {l : Launch} {e : Env} {s : State} {m : MethodId} {args : Array Value} {below : List Frame} {meth : Method} {c : Code} {D : va_G} {B : Nat} {cy : Nat → ClassId} {A : Nat → Prop} {ad av : Nat → Nat} {rv : Int32} {Z : HS} (X : hCX p s m args meth c RX2 cX2_scaleNumber 2 (some .int) D cy A ad av)   (S : HS) (H : Heap) (locs : List Loc) (ls : Array Slot) (hf : fn_X2_scaleNumber_30 S = some (rv, Z)) (hw : hWd D B cy A true hC S s.heap H locs) (hl : lv_has ls 2 []) : W p l e ({ frames := 0, cells := 0, slots := 0, locals := 0 } : Room) s m args below meth c H locs 0 0 (MQ below (hQo D B cy A true hC Z (some (.int rv))) args s 0 0 A) (F0 m 30 ls []) := by
  unfold fn_X2_scaleNumber_30 at hf
  refine lv_iconst (v := 0) X.1 X.2.1 dX2_scaleNumber_30 (by decide) ?_
  exact w_X2_scaleNumber_31 X  _ _ _ _ _ hf hw (lv_sub hl [] rfl)
theorem hd_X2_scaleNumber : yX2_scaleNumber.cls = RX2 ∧ yX2_scaleNumber.cls ≠ "java/lang/invoke/MethodHandle" ∧ yX2_scaleNumber.cls ≠ "java/lang/invoke/VarHandle" ∧ (parseMethodDescriptor yX2_scaleNumber.desc).map (fun d => d.parameters.length) = some 1 := by decide +kernel
set_option maxHeartbeats 4000000 in
theorem c_X2_scaleNumber (l : Launch) (D : va_G) (B : Nat) (cy : Nat → ClassId) (A : Nat → Prop) (ad av : Nat → Nat) (x0 : Nat) (x1 : Int32) {S Z : HS} {rv : Int32} (hfr : hFr S) (hG : hC S) (hf : fn_X2_scaleNumber x0 x1 S = some (rv, Z)) : hMet l yX2_scaleNumber cX2_scaleNumber 2 (some .int) ({ frames := 0, cells := 0, slots := 0, locals := 0 } : Room) D B cy A ad av true hC [.ref (B + x0), .int x1] S Z (some (.int rv)) 0 0 := by
  refine h_entry (by decide) hfr hG ?_
  intro p e s m below meth c args X hnm hw
  have hl := lv_entry ([.ref (B + x0), .int x1]) (n := 2) (Nat.le_of_ble_eq_true rfl)
  rw [lg_entry_eq]
  generalize (lg_sl ([.ref (B + x0), .int x1]) ++ List.replicate (2 - (lg_sl ([.ref (B + x0), .int x1])).length) Slot.unset).toArray = ls at hl ⊢
  have hl : lv_has ls 2 [(0, .ref (B + x0)), (1, .int x1)] := hl
  unfold fn_X2_scaleNumber at hf
  refine lv_iload_n X.1 X.2.1 dX2_scaleNumber_0 rfl (lv_at hl 1 rfl) ?_
  refine lv_if_lt (tgt := 30) X.1 X.2.1 dX2_scaleNumber_1 (by decide) (fun hq => ?_) (fun hq => ?_)
  · replace hf := cd_tk hq hf
    exact w_X2_scaleNumber_30 X  _ _ _ _ hf hw (lv_sub hl [] rfl)
  · replace hf := cd_fk hq hf
    refine lv_iload_n X.1 X.2.1 dX2_scaleNumber_4 rfl (lv_at hl 1 rfl) ?_
    refine lv_aload_n X.1 X.2.1 dX2_scaleNumber_5 rfl (lv_at hl 0 rfl) ?_
    obtain ⟨g1, hf⟩ := gd_ok hf
    refine r_getI X hw (κ := 3) rfl inlX2 3 (by decide) rfl (by decide) tw_339 g1 dX2_scaleNumber_6 ?_
    refine lv_icmp_ge (tgt := 30) X.1 X.2.1 dX2_scaleNumber_9 (by decide) (fun hq => ?_) (fun hq => ?_)
    · replace hf := cd_tk hq hf
      exact w_X2_scaleNumber_30 X  _ _ _ _ hf hw (lv_sub hl [] rfl)
    · replace hf := cd_fk hq hf
      refine lv_iload_n X.1 X.2.1 dX2_scaleNumber_12 rfl (lv_at hl 1 rfl) ?_
      refine lv_aload_n X.1 X.2.1 dX2_scaleNumber_13 rfl (lv_at hl 0 rfl) ?_
      obtain ⟨g2, hf⟩ := gd_ok hf
      refine r_getR X hw (κ := 3) rfl inlX2 2 (by decide) rfl (by decide) tw_290 g2 dX2_scaleNumber_14 ?_
      obtain ⟨c3, ec3, hf⟩ := bn_ok hf
      rw [ec3]
      obtain ⟨g4, hf⟩ := gd_ok hf
      refine r_alen (κ := 21) X hw g4 (by decide) rfl dX2_scaleNumber_17 ?_
      refine lv_icmp_ge (tgt := 30) X.1 X.2.1 dX2_scaleNumber_18 (by decide) (fun hq => ?_) (fun hq => ?_)
      · replace hf := cd_tk hq hf
        exact w_X2_scaleNumber_30 X  _ _ _ _ hf hw (lv_sub hl [] rfl)
      · replace hf := cd_fk hq hf
        refine lv_aload_n X.1 X.2.1 dX2_scaleNumber_21 rfl (lv_at hl 0 rfl) ?_
        obtain ⟨g5, hf⟩ := gd_ok hf
        refine r_getR X hw (κ := 3) rfl inlX2 2 (by decide) rfl (by decide) tw_290 g5 dX2_scaleNumber_22 ?_
        refine lv_iload_n X.1 X.2.1 dX2_scaleNumber_25 rfl (lv_at hl 1 rfl) ?_
        obtain ⟨c6, ec6, hf⟩ := bn_ok hf
        rw [ec6]
        obtain ⟨g7, hf⟩ := gd_ok hf
        obtain ⟨g8, hf⟩ := gd_ok hf
        refine r_iald X hw g7 rfl g8 dX2_scaleNumber_26 ?_
        refine lv_goto (tgt := 31) X.1 X.2.1 dX2_scaleNumber_27 (by decide) ?_
        exact w_X2_scaleNumber_31 X  _ _ _ _ _ hf hw (lv_sub hl [] rfl)
set_option maxHeartbeats 4000000 in
theorem w_X6_clear_2 {p : Program} {l : Launch} {e : Env} {s : State} {m : MethodId} {args : Array Value} {below : List Frame} {meth : Method} {c : Code} {D : va_G} {B : Nat} {cy : Nat → ClassId} {A : Nat → Prop} {ad av : Nat → Nat} {Z : HS} (X : hCX p s m args meth c RX6 cX6_clear 2 none D cy A ad av)  : ∀ (n : Nat) (x1 : Int32) (S : HS) (H : Heap) (locs : List Loc) (ls : Array Slot), fn_X6_clear_2 n x1 S = some Z → hWd D B cy A true hC S s.heap H locs → lv_has ls 2 [(0, .ref (B + 7)), (1, .int x1)] → W p l e ({ frames := 1, cells := 0, slots := 0, locals := 23 } : Room) s m args below meth c H locs 0 0 (MQ below (hQo D B cy A true hC Z none) args s 0 0 A) (F0 m 2 ls []) := by
  intro n
  induction n with
  | zero =>
    intro x1 S H locs ls hf
    cases hf
  | succ n ih =>
    intro x1 S H locs ls hf hw hl
    rw [fn_X6_clear_2] at hf
    refine lv_iload_n X.1 X.2.1 dX6_clear_2 rfl (lv_at hl 1 rfl) ?_
    refine lv_aload_n X.1 X.2.1 dX6_clear_3 rfl (lv_at hl 0 rfl) ?_
    refine r_getF X hw (κ := 7) rfl inlX6 0 (by decide) rfl (by decide) tw_70 (hCk hw.2.2.2.2.2 7 (by decide) rfl) (hCr (c := 7) (k := 0) (d := 8) hw.2.2.2.2.2 (by decide)) dX6_clear_4 ?_
    refine r_alen (κ := 24) X hw (hCk hw.2.2.2.2.2 8 (by decide) rfl) (by decide) (hCn hw.2.2.2.2.2 8 (by decide) rfl) dX6_clear_7 ?_
    refine lv_icmp_ge (tgt := 24) X.1 X.2.1 dX6_clear_8 (by decide) (fun hq => ?_) (fun hq => ?_)
    · replace hf := cd_tk hq hf
      refine lv_aload_n X.1 X.2.1 dX6_clear_24 rfl (lv_at hl 0 rfl) ?_
      refine r_getF X hw (κ := 7) rfl inlX6 2 (by decide) rfl (by decide) tw_72 (hCk hw.2.2.2.2.2 7 (by decide) rfl) (hCr (c := 7) (k := 2) (d := 10) hw.2.2.2.2.2 (by decide)) dX6_clear_25 ?_
      refine lv_iconst (v := 0) X.1 X.2.1 dX6_clear_28 (by decide) ?_
      obtain ⟨S1, hS1, hf⟩ := bn_ok hf
      refine r_callS (As := [.ref (B + 10), .int 0]) (rest := []) (st1 := []) X hw (c_J7_fill_53178 l D B cy A ad av 10 0 hw.2.2.2.2.1 hw.2.2.2.2.2 hS1) ⟨rfl, rfl, Nat.le_of_ble_eq_true rfl, Nat.le_of_ble_eq_true rfl⟩ tw_606 tw_607 tw_389 tw_608 hd_J7_fill_53178 rfl hl.1 rfl (Nat.le_of_ble_eq_true rfl) dX6_clear_29 ⟨Nat.le_of_ble_eq_true rfl, Nat.le_of_ble_eq_true rfl⟩ rfl (fun H locs hw => ?_)
      cases hf
      exact r_vret X hw dX6_clear_32
    · replace hf := cd_fk hq hf
      refine lv_aload_n X.1 X.2.1 dX6_clear_11 rfl (lv_at hl 0 rfl) ?_
      refine r_getF X hw (κ := 7) rfl inlX6 0 (by decide) rfl (by decide) tw_70 (hCk hw.2.2.2.2.2 7 (by decide) rfl) (hCr (c := 7) (k := 0) (d := 8) hw.2.2.2.2.2 (by decide)) dX6_clear_12 ?_
      refine lv_iload_n X.1 X.2.1 dX6_clear_15 rfl (lv_at hl 1 rfl) ?_
      refine lv_null X.1 X.2.1 dX6_clear_16 ?_
      obtain ⟨g2, hf⟩ := gd_ok hf
      obtain ⟨S3, eS3, hf⟩ := bn_ok hf
      replace eS3 := Option.some.inj eS3
      refine r_aastN X hw (hCk hw.2.2.2.2.2 8 (by decide) rfl) (hCn hw.2.2.2.2.2 8 (by decide) rfl) g2 (hC_sR hw.2.2.2.2.2 (hCk hw.2.2.2.2.2 8 (by decide) rfl) (by decide)) dX6_clear_17 (fun H locs hw => ?_)
      rw [eS3] at hw
      obtain ⟨v4, ev4, hf⟩ := bn_ok hf
      replace ev4 := Option.some.inj ev4
      refine lv_iinc (v := v4) (lv' := [(1, .int v4), (0, .ref (B + 7))]) X.1 X.2.1 dX6_clear_18 hl (k := 1) rfl ev4 (by decide) rfl (fun ls hl => ?_)
      refine lv_goto (tgt := 2) X.1 X.2.1 dX6_clear_21 (by decide) ?_
      exact ih _ _ _ _ _ hf hw (lv_sub hl [1, 0] rfl)
theorem hd_X6_clear : yX6_clear.cls = RX6 ∧ yX6_clear.cls ≠ "java/lang/invoke/MethodHandle" ∧ yX6_clear.cls ≠ "java/lang/invoke/VarHandle" ∧ (parseMethodDescriptor yX6_clear.desc).map (fun d => d.parameters.length) = some 0 := by decide +kernel
set_option maxHeartbeats 4000000 in
theorem c_X6_clear (l : Launch) (D : va_G) (B : Nat) (cy : Nat → ClassId) (A : Nat → Prop) (ad av : Nat → Nat)  {S Z : HS} (hfr : hFr S) (hG : hC S) (hf : fn_X6_clear S = some Z) : hMet l yX6_clear cX6_clear 2 none ({ frames := 1, cells := 0, slots := 0, locals := 23 } : Room) D B cy A ad av true hC [.ref (B + 7)] S Z none 0 0 := by
  refine h_entry (by decide) hfr hG ?_
  intro p e s m below meth c args X hnm hw
  have hl := lv_entry ([.ref (B + 7)]) (n := 2) (Nat.le_of_ble_eq_true rfl)
  rw [lg_entry_eq]
  generalize (lg_sl ([.ref (B + 7)]) ++ List.replicate (2 - (lg_sl ([.ref (B + 7)])).length) Slot.unset).toArray = ls at hl ⊢
  have hl : lv_has ls 2 [(0, .ref (B + 7))] := hl
  unfold fn_X6_clear at hf
  refine lv_iconst (v := 0) X.1 X.2.1 dX6_clear_0 (by decide) ?_
  refine lv_istore_n (lv' := [(1, .int 0), (0, .ref (B + 7))]) X.1 X.2.1 dX6_clear_1 rfl hl (by decide) rfl (fun ls hl => ?_)
  exact w_X6_clear_2 X  _ _ _ _ _ _ hf hw (lv_sub hl [1, 0] rfl)
set_option maxHeartbeats 4000000 in
theorem w_X6_take_74 {p : Program} {l : Launch} {e : Env} {s : State} {m : MethodId} {args : Array Value} {below : List Frame} {meth : Method} {c : Code} {D : va_G} {B : Nat} {cy : Nat → ClassId} {A : Nat → Prop} {ad av : Nat → Nat} {Z : HS} (X : hCX p s m args meth c RX6 cX6_take 5 none D cy A ad av) (k2 : Nat → Int32 → HS → Option HS) (hk2 : ∀ (x1 : Nat) (x2 : Int32) (S : HS) (H : Heap) (locs : List Loc) (ls : Array Slot), k2 x1 x2 S = some Z → hWd D B cy A true hC S s.heap H locs → lv_has ls 5 [(0, .ref (B + 7)), (1, .ref (B + x1)), (2, .int x2)] → W p l e ({ frames := 3, cells := 0, slots := 0, locals := 64 } : Room) s m args below meth c H locs 0 0 (MQ below (hQo D B cy A true hC Z none) args s 0 0 A) (F0 m 2 ls [])) (x1 : Nat) (x2 : Int32) (S : HS) (H : Heap) (locs : List Loc) (ls : Array Slot) (hf : fn_X6_take_74 k2 x1 x2 S = some Z) (hw : hWd D B cy A true hC S s.heap H locs) (hl : lv_has ls 5 [(0, .ref (B + 7)), (1, .ref (B + x1)), (2, .int x2)]) : W p l e ({ frames := 3, cells := 0, slots := 0, locals := 64 } : Room) s m args below meth c H locs 0 0 (MQ below (hQo D B cy A true hC Z none) args s 0 0 A) (F0 m 74 ls []) := by
  unfold fn_X6_take_74 at hf
  obtain ⟨v1, ev1, hf⟩ := bn_ok hf
  replace ev1 := Option.some.inj ev1
  refine lv_iinc (v := v1) (lv' := [(2, .int v1), (0, .ref (B + 7)), (1, .ref (B + x1))]) X.1 X.2.1 dX6_take_74 hl (k := 2) rfl ev1 (by decide) rfl (fun ls hl => ?_)
  refine lv_goto (tgt := 2) X.1 X.2.1 dX6_take_77 (by decide) ?_
  exact hk2 _ _ _ _ _ _ hf hw (lv_sub hl [1, 2, 0] rfl)
set_option maxHeartbeats 4000000 in
theorem w_X6_take_2 {p : Program} {l : Launch} {e : Env} {s : State} {m : MethodId} {args : Array Value} {below : List Frame} {meth : Method} {c : Code} {D : va_G} {B : Nat} {cy : Nat → ClassId} {A : Nat → Prop} {ad av : Nat → Nat} {Z : HS} (X : hCX p s m args meth c RX6 cX6_take 5 none D cy A ad av)  : ∀ (n : Nat) (x1 : Nat) (x2 : Int32) (S : HS) (H : Heap) (locs : List Loc) (ls : Array Slot), fn_X6_take_2 n x1 x2 S = some Z → hWd D B cy A true hC S s.heap H locs → lv_has ls 5 [(0, .ref (B + 7)), (1, .ref (B + x1)), (2, .int x2)] → W p l e ({ frames := 3, cells := 0, slots := 0, locals := 64 } : Room) s m args below meth c H locs 0 0 (MQ below (hQo D B cy A true hC Z none) args s 0 0 A) (F0 m 2 ls []) := by
  intro n
  induction n with
  | zero =>
    intro x1 x2 S H locs ls hf
    cases hf
  | succ n ih =>
    intro x1 x2 S H locs ls hf hw hl
    rw [fn_X6_take_2] at hf
    refine lv_iload_n X.1 X.2.1 dX6_take_2 rfl (lv_at hl 2 rfl) ?_
    refine lv_aload_n X.1 X.2.1 dX6_take_3 rfl (lv_at hl 1 rfl) ?_
    obtain ⟨g1, hf⟩ := gd_ok hf
    refine r_getR X hw (κ := 1) rfl inlX0 3 (by decide) rfl (by decide) tw_627 g1 dX6_take_4 ?_
    obtain ⟨c2, ec2, hf⟩ := bn_ok hf
    rw [ec2]
    obtain ⟨g3, hf⟩ := gd_ok hf
    obtain ⟨r5, S4, hS4, hf⟩ := bn2_ok hf
    refine r_callV (As := []) (rest := [.int x2]) (st1 := [.int r5, .int x2]) (κ := 0) X hw (c_Jl_size l D B cy A ad av _ _ c2 hw.2.2.2.2.1 hw.2.2.2.2.2 hS4) ⟨rfl, rfl, Nat.le_of_ble_eq_true rfl, Nat.le_of_ble_eq_true rfl⟩ rfl (by decide) g3 tw_630 tw_175 tw_176 tw_20 tw_177 hd_Jl_size rfl hl.1 rfl (Nat.le_of_ble_eq_true rfl) dX6_take_7 ⟨Nat.le_of_ble_eq_true rfl, Nat.le_of_ble_eq_true rfl⟩ rfl (fun H locs hw => ?_)
    refine lv_icmp_ge (tgt := 80) X.1 X.2.1 dX6_take_10 (by decide) (fun hq => ?_) (fun hq => ?_)
    · replace hf := cd_tk hq hf
      cases hf
      exact r_vret X hw dX6_take_80
    · replace hf := cd_fk hq hf
      refine lv_aload_n X.1 X.2.1 dX6_take_13 rfl (lv_at hl 1 rfl) ?_
      obtain ⟨g6, hf⟩ := gd_ok hf
      refine r_getR X hw (κ := 1) rfl inlX0 3 (by decide) rfl (by decide) tw_627 g6 dX6_take_14 ?_
      refine lv_iload_n X.1 X.2.1 dX6_take_17 rfl (lv_at hl 2 rfl) ?_
      obtain ⟨c7, ec7, hf⟩ := bn_ok hf
      rw [ec7]
      obtain ⟨g8, hf⟩ := gd_ok hf
      obtain ⟨r10, S9, hS9, hf⟩ := bn2_ok hf
      refine r_callV (As := [.int x2]) (rest := []) (st1 := [va_rf (Option.map (B + ·) r10)]) (κ := 0) X hw (c_Jl_get l D B cy A ad av _ _ c7 x2 hw.2.2.2.2.1 hw.2.2.2.2.2 hS9) ⟨rfl, rfl, Nat.le_of_ble_eq_true rfl, Nat.le_of_ble_eq_true rfl⟩ rfl (by decide) g8 tw_631 tw_420 tw_421 tw_20 tw_422 hd_Jl_get rfl hl.1 rfl (Nat.le_of_ble_eq_true rfl) dX6_take_18 ⟨Nat.le_of_ble_eq_true rfl, Nat.le_of_ble_eq_true rfl⟩ rfl (fun H locs hw => ?_)
      obtain ⟨c11, ec11, hf⟩ := bn_ok hf
      rw [ec11]
      obtain ⟨g12, hf⟩ := gd_ok hf
      refine r_cast X hw (κ := 3) rfl (by decide) tw_69 g12 dX6_take_21 ?_
      refine lv_astore_n (lv' := [(3, .ref (B + c11)), (0, .ref (B + 7)), (1, .ref (B + x1)), (2, .int x2)]) X.1 X.2.1 dX6_take_24 rfl hl (by decide) rfl (fun ls hl => ?_)
      refine lv_aload_n X.1 X.2.1 dX6_take_25 rfl (lv_at hl 0 rfl) ?_
      obtain ⟨g13, hf⟩ := gd_ok hf
      obtain ⟨r15, S14, hS14, hf⟩ := bn2_ok hf
      refine r_callV (As := []) (rest := []) (st1 := [.int r15]) (κ := 3) X hw (c_X2_key l D B cy A ad av c11 hw.2.2.2.2.1 hw.2.2.2.2.2 hS14) ⟨rfl, rfl, Nat.le_of_ble_eq_true rfl, Nat.le_of_ble_eq_true rfl⟩ rfl (by decide) g13 tw_632 tw_350 tw_351 tw_281 tw_352 hd_X2_key rfl hl.1 rfl (Nat.le_of_ble_eq_true rfl) dX6_take_26 ⟨Nat.le_of_ble_eq_true rfl, Nat.le_of_ble_eq_true rfl⟩ rfl (fun H locs hw => ?_)
      refine lv_istore (lv' := [(4, .int r15), (3, .ref (B + c11)), (0, .ref (B + 7)), (1, .ref (B + x1)), (2, .int x2)]) X.1 X.2.1 dX6_take_29 hl (by decide) rfl (fun ls hl => ?_)
      refine lv_iload X.1 X.2.1 dX6_take_31 (lv_at hl 0 rfl) ?_
      refine lv_if_lt (tgt := 74) X.1 X.2.1 dX6_take_33 (by decide) (fun hq => ?_) (fun hq => ?_)
      · replace hf := cd_tk hq hf
        exact w_X6_take_74 X (fn_X6_take_2 n) ih _ _ _ _ _ _ hf hw (lv_sub hl [2, 3, 4] rfl)
      · replace hf := cd_fk hq hf
        refine lv_iload X.1 X.2.1 dX6_take_36 (lv_at hl 0 rfl) ?_
        refine lv_sipush (v := 156) X.1 X.2.1 dX6_take_38 (by decide) ?_
        refine lv_icmp_ge (tgt := 74) X.1 X.2.1 dX6_take_41 (by decide) (fun hq => ?_) (fun hq => ?_)
        · replace hf := cd_tk hq hf
          exact w_X6_take_74 X (fn_X6_take_2 n) ih _ _ _ _ _ _ hf hw (lv_sub hl [2, 3, 4] rfl)
        · replace hf := cd_fk hq hf
          refine lv_aload_n X.1 X.2.1 dX6_take_44 rfl (lv_at hl 2 rfl) ?_
          refine r_getF X hw (κ := 7) rfl inlX6 0 (by decide) rfl (by decide) tw_70 (hCk hw.2.2.2.2.2 7 (by decide) rfl) (hCr (c := 7) (k := 0) (d := 8) hw.2.2.2.2.2 (by decide)) dX6_take_45 ?_
          refine lv_iload X.1 X.2.1 dX6_take_48 (lv_at hl 0 rfl) ?_
          refine lv_aload_n X.1 X.2.1 dX6_take_50 rfl (lv_at hl 1 rfl) ?_
          obtain ⟨g16, hf⟩ := gd_ok hf
          obtain ⟨g17, hf⟩ := gd_ok hf
          obtain ⟨S18, eS18, hf⟩ := bn_ok hf
          replace eS18 := Option.some.inj eS18
          refine r_aastL X hw (hCk hw.2.2.2.2.2 8 (by decide) rfl) (hCn hw.2.2.2.2.2 8 (by decide) rfl) g16 g17 (hC_sR hw.2.2.2.2.2 (hCk hw.2.2.2.2.2 8 (by decide) rfl) (by decide)) dX6_take_51 (fun H locs hw => ?_)
          rw [eS18] at hw
          refine lv_aload_n X.1 X.2.1 dX6_take_52 rfl (lv_at hl 2 rfl) ?_
          refine r_getF X hw (κ := 7) rfl inlX6 1 (by decide) rfl (by decide) tw_71 (hCk hw.2.2.2.2.2 7 (by decide) rfl) (hCr (c := 7) (k := 1) (d := 9) hw.2.2.2.2.2 (by decide)) dX6_take_53 ?_
          refine lv_iload X.1 X.2.1 dX6_take_56 (lv_at hl 0 rfl) ?_
          refine lv_aload_n X.1 X.2.1 dX6_take_58 rfl (lv_at hl 3 rfl) ?_
          obtain ⟨g19, hf⟩ := gd_ok hf
          refine r_getI X hw (κ := 1) rfl inlX0 0 (by decide) rfl (by decide) tw_629 g19 dX6_take_59 ?_
          obtain ⟨g20, hf⟩ := gd_ok hf
          obtain ⟨S21, eS21, hf⟩ := bn_ok hf
          replace eS21 := Option.some.inj eS21
          refine r_iast X hw (hCk hw.2.2.2.2.2 9 (by decide) rfl) (hCn hw.2.2.2.2.2 9 (by decide) rfl) g20 hw.2.2.2.2.2 dX6_take_62 (fun H locs hw => ?_)
          rw [eS21] at hw
          refine lv_aload_n X.1 X.2.1 dX6_take_63 rfl (lv_at hl 2 rfl) ?_
          refine r_getF X hw (κ := 7) rfl inlX6 2 (by decide) rfl (by decide) tw_72 (hCk hw.2.2.2.2.2 7 (by decide) rfl) (hCr (c := 7) (k := 2) (d := 10) hw.2.2.2.2.2 (by decide)) dX6_take_64 ?_
          refine lv_iload X.1 X.2.1 dX6_take_67 (lv_at hl 0 rfl) ?_
          refine lv_dup2_11 X.1 X.2.1 dX6_take_69 rfl rfl ?_
          obtain ⟨g22, hf⟩ := gd_ok hf
          refine r_iald X hw (hCk hw.2.2.2.2.2 10 (by decide) rfl) (hCn hw.2.2.2.2.2 10 (by decide) rfl) g22 dX6_take_70 ?_
          refine lv_iconst (v := 1) X.1 X.2.1 dX6_take_71 (by decide) ?_
          refine lv_iadd X.1 X.2.1 dX6_take_72 ?_
          obtain ⟨g23, hf⟩ := gd_ok hf
          obtain ⟨S24, eS24, hf⟩ := bn_ok hf
          replace eS24 := Option.some.inj eS24
          refine r_iast X hw (hCk hw.2.2.2.2.2 10 (by decide) rfl) (hCn hw.2.2.2.2.2 10 (by decide) rfl) g23 hw.2.2.2.2.2 dX6_take_73 (fun H locs hw => ?_)
          rw [eS24] at hw
          exact w_X6_take_74 X (fn_X6_take_2 n) ih _ _ _ _ _ _ hf hw (lv_sub hl [2, 3, 4] rfl)
theorem hd_X6_take : yX6_take.cls = RX6 ∧ yX6_take.cls ≠ "java/lang/invoke/MethodHandle" ∧ yX6_take.cls ≠ "java/lang/invoke/VarHandle" ∧ (parseMethodDescriptor yX6_take.desc).map (fun d => d.parameters.length) = some 1 := by decide +kernel
set_option maxHeartbeats 4000000 in
theorem c_X6_take (l : Launch) (D : va_G) (B : Nat) (cy : Nat → ClassId) (A : Nat → Prop) (ad av : Nat → Nat) (x1 : Nat) {S Z : HS} (hfr : hFr S) (hG : hC S) (hf : fn_X6_take x1 S = some Z) : hMet l yX6_take cX6_take 5 none ({ frames := 3, cells := 0, slots := 0, locals := 64 } : Room) D B cy A ad av true hC [.ref (B + 7), .ref (B + x1)] S Z none 0 0 := by
  refine h_entry (by decide) hfr hG ?_
  intro p e s m below meth c args X hnm hw
  have hl := lv_entry ([.ref (B + 7), .ref (B + x1)]) (n := 5) (Nat.le_of_ble_eq_true rfl)
  rw [lg_entry_eq]
  generalize (lg_sl ([.ref (B + 7), .ref (B + x1)]) ++ List.replicate (5 - (lg_sl ([.ref (B + 7), .ref (B + x1)])).length) Slot.unset).toArray = ls at hl ⊢
  have hl : lv_has ls 5 [(0, .ref (B + 7)), (1, .ref (B + x1))] := hl
  unfold fn_X6_take at hf
  refine lv_iconst (v := 0) X.1 X.2.1 dX6_take_0 (by decide) ?_
  refine lv_istore_n (lv' := [(2, .int 0), (0, .ref (B + 7)), (1, .ref (B + x1))]) X.1 X.2.1 dX6_take_1 rfl hl (by decide) rfl (fun ls hl => ?_)
  exact w_X6_take_2 X  _ _ _ _ _ _ _ hf hw (lv_sub hl [1, 2, 0] rfl)
set_option maxHeartbeats 4000000 in
theorem w_X6_winnerOf_23 {p : Program} {l : Launch} {e : Env} {s : State} {m : MethodId} {args : Array Value} {below : List Frame} {meth : Method} {c : Code} {D : va_G} {B : Nat} {cy : Nat → ClassId} {A : Nat → Prop} {ad av : Nat → Nat} {rv : Option Nat} {Z : HS} (X : hCX p s m args meth c RX6 cX6_winnerOf 2 (some (.object "PayScales$Line")) D cy A ad av)  (y0 : Option Nat) (S : HS) (H : Heap) (locs : List Loc) (ls : Array Slot) (hf : fn_X6_winnerOf_23 y0 S = some (rv, Z)) (hw : hWd D B cy A true hC S s.heap H locs) (hl : lv_has ls 2 []) : W p l e ({ frames := 0, cells := 0, slots := 0, locals := 0 } : Room) s m args below meth c H locs 0 0 (MQ below (hQo D B cy A true hC Z (some (va_rf (rv.map (B + ·))))) args s 0 0 A) (F0 m 23 ls [va_rf (Option.map (B + ·) y0)]) := by
  unfold fn_X6_winnerOf_23 at hf
  cases hf
  exact r_aret X (by first | exact Or.inl ⟨_, rfl⟩ | exact Or.inr ⟨_, rfl⟩) hw dX6_winnerOf_23
set_option maxHeartbeats 4000000 in
theorem w_X6_winnerOf_22 {p : Program} {l : Launch} {e : Env} {s : State} {m : MethodId} {args : Array Value} {below : List Frame} {meth : Method} {c : Code} {D : va_G} {B : Nat} {cy : Nat → ClassId} {A : Nat → Prop} {ad av : Nat → Nat} {rv : Option Nat} {Z : HS} (X : hCX p s m args meth c RX6 cX6_winnerOf 2 (some (.object "PayScales$Line")) D cy A ad av)   (S : HS) (H : Heap) (locs : List Loc) (ls : Array Slot) (hf : fn_X6_winnerOf_22 S = some (rv, Z)) (hw : hWd D B cy A true hC S s.heap H locs) (hl : lv_has ls 2 []) : W p l e ({ frames := 0, cells := 0, slots := 0, locals := 0 } : Room) s m args below meth c H locs 0 0 (MQ below (hQo D B cy A true hC Z (some (va_rf (rv.map (B + ·))))) args s 0 0 A) (F0 m 22 ls []) := by
  unfold fn_X6_winnerOf_22 at hf
  refine lv_null X.1 X.2.1 dX6_winnerOf_22 ?_
  exact w_X6_winnerOf_23 X  _ _ _ _ _ hf hw (lv_sub hl [] rfl)
theorem hd_X6_winnerOf : yX6_winnerOf.cls = RX6 ∧ yX6_winnerOf.cls ≠ "java/lang/invoke/MethodHandle" ∧ yX6_winnerOf.cls ≠ "java/lang/invoke/VarHandle" ∧ (parseMethodDescriptor yX6_winnerOf.desc).map (fun d => d.parameters.length) = some 1 := by decide +kernel
set_option maxHeartbeats 4000000 in
theorem c_X6_winnerOf (l : Launch) (D : va_G) (B : Nat) (cy : Nat → ClassId) (A : Nat → Prop) (ad av : Nat → Nat) (x1 : Int32) {S Z : HS} {rv : Option Nat} (hfr : hFr S) (hG : hC S) (hf : fn_X6_winnerOf x1 S = some (rv, Z)) : hMet l yX6_winnerOf cX6_winnerOf 2 (some (.object "PayScales$Line")) ({ frames := 0, cells := 0, slots := 0, locals := 0 } : Room) D B cy A ad av true hC [.ref (B + 7), .int x1] S Z (some (va_rf (rv.map (B + ·)))) 0 0 := by
  refine h_entry (by decide) hfr hG ?_
  intro p e s m below meth c args X hnm hw
  have hl := lv_entry ([.ref (B + 7), .int x1]) (n := 2) (Nat.le_of_ble_eq_true rfl)
  rw [lg_entry_eq]
  generalize (lg_sl ([.ref (B + 7), .int x1]) ++ List.replicate (2 - (lg_sl ([.ref (B + 7), .int x1])).length) Slot.unset).toArray = ls at hl ⊢
  have hl : lv_has ls 2 [(0, .ref (B + 7)), (1, .int x1)] := hl
  unfold fn_X6_winnerOf at hf
  refine lv_iload_n X.1 X.2.1 dX6_winnerOf_0 rfl (lv_at hl 1 rfl) ?_
  refine lv_if_lt (tgt := 22) X.1 X.2.1 dX6_winnerOf_1 (by decide) (fun hq => ?_) (fun hq => ?_)
  · replace hf := cd_tk hq hf
    exact w_X6_winnerOf_22 X  _ _ _ _ hf hw (lv_sub hl [] rfl)
  · replace hf := cd_fk hq hf
    refine lv_iload_n X.1 X.2.1 dX6_winnerOf_4 rfl (lv_at hl 1 rfl) ?_
    refine lv_aload_n X.1 X.2.1 dX6_winnerOf_5 rfl (lv_at hl 0 rfl) ?_
    refine r_getF X hw (κ := 7) rfl inlX6 0 (by decide) rfl (by decide) tw_70 (hCk hw.2.2.2.2.2 7 (by decide) rfl) (hCr (c := 7) (k := 0) (d := 8) hw.2.2.2.2.2 (by decide)) dX6_winnerOf_6 ?_
    refine r_alen (κ := 24) X hw (hCk hw.2.2.2.2.2 8 (by decide) rfl) (by decide) (hCn hw.2.2.2.2.2 8 (by decide) rfl) dX6_winnerOf_9 ?_
    refine lv_icmp_ge (tgt := 22) X.1 X.2.1 dX6_winnerOf_10 (by decide) (fun hq => ?_) (fun hq => ?_)
    · replace hf := cd_tk hq hf
      exact w_X6_winnerOf_22 X  _ _ _ _ hf hw (lv_sub hl [] rfl)
    · replace hf := cd_fk hq hf
      refine lv_aload_n X.1 X.2.1 dX6_winnerOf_13 rfl (lv_at hl 0 rfl) ?_
      refine r_getF X hw (κ := 7) rfl inlX6 0 (by decide) rfl (by decide) tw_70 (hCk hw.2.2.2.2.2 7 (by decide) rfl) (hCr (c := 7) (k := 0) (d := 8) hw.2.2.2.2.2 (by decide)) dX6_winnerOf_14 ?_
      refine lv_iload_n X.1 X.2.1 dX6_winnerOf_17 rfl (lv_at hl 1 rfl) ?_
      obtain ⟨g1, hf⟩ := gd_ok hf
      refine r_aald (κ := 24) X hw (hCk hw.2.2.2.2.2 8 (by decide) rfl) (by omega) (hCn hw.2.2.2.2.2 8 (by decide) rfl) g1 dX6_winnerOf_18 ?_
      refine lv_goto (tgt := 23) X.1 X.2.1 dX6_winnerOf_19 (by decide) ?_
      exact w_X6_winnerOf_23 X  _ _ _ _ _ hf hw (lv_sub hl [] rfl)
set_option maxHeartbeats 4000000 in
theorem w_X6_agreementOf_23 {p : Program} {l : Launch} {e : Env} {s : State} {m : MethodId} {args : Array Value} {below : List Frame} {meth : Method} {c : Code} {D : va_G} {B : Nat} {cy : Nat → ClassId} {A : Nat → Prop} {ad av : Nat → Nat} {rv : Int32} {Z : HS} (X : hCX p s m args meth c RX6 cX6_agreementOf 2 (some .int) D cy A ad av)  (y0 : Int32) (S : HS) (H : Heap) (locs : List Loc) (ls : Array Slot) (hf : fn_X6_agreementOf_23 y0 S = some (rv, Z)) (hw : hWd D B cy A true hC S s.heap H locs) (hl : lv_has ls 2 []) : W p l e ({ frames := 0, cells := 0, slots := 0, locals := 0 } : Room) s m args below meth c H locs 0 0 (MQ below (hQo D B cy A true hC Z (some (.int rv))) args s 0 0 A) (F0 m 23 ls [.int y0]) := by
  unfold fn_X6_agreementOf_23 at hf
  cases hf
  exact r_iret X hw dX6_agreementOf_23
set_option maxHeartbeats 4000000 in
theorem w_X6_agreementOf_22 {p : Program} {l : Launch} {e : Env} {s : State} {m : MethodId} {args : Array Value} {below : List Frame} {meth : Method} {c : Code} {D : va_G} {B : Nat} {cy : Nat → ClassId} {A : Nat → Prop} {ad av : Nat → Nat} {rv : Int32} {Z : HS} (X : hCX p s m args meth c RX6 cX6_agreementOf 2 (some .int) D cy A ad av)   (S : HS) (H : Heap) (locs : List Loc) (ls : Array Slot) (hf : fn_X6_agreementOf_22 S = some (rv, Z)) (hw : hWd D B cy A true hC S s.heap H locs) (hl : lv_has ls 2 []) : W p l e ({ frames := 0, cells := 0, slots := 0, locals := 0 } : Room) s m args below meth c H locs 0 0 (MQ below (hQo D B cy A true hC Z (some (.int rv))) args s 0 0 A) (F0 m 22 ls []) := by
  unfold fn_X6_agreementOf_22 at hf
  refine lv_iconst (v := (-1)) X.1 X.2.1 dX6_agreementOf_22 (by decide) ?_
  exact w_X6_agreementOf_23 X  _ _ _ _ _ hf hw (lv_sub hl [] rfl)
theorem hd_X6_agreementOf : yX6_agreementOf.cls = RX6 ∧ yX6_agreementOf.cls ≠ "java/lang/invoke/MethodHandle" ∧ yX6_agreementOf.cls ≠ "java/lang/invoke/VarHandle" ∧ (parseMethodDescriptor yX6_agreementOf.desc).map (fun d => d.parameters.length) = some 1 := by decide +kernel
set_option maxHeartbeats 4000000 in
theorem c_X6_agreementOf (l : Launch) (D : va_G) (B : Nat) (cy : Nat → ClassId) (A : Nat → Prop) (ad av : Nat → Nat) (x1 : Int32) {S Z : HS} {rv : Int32} (hfr : hFr S) (hG : hC S) (hf : fn_X6_agreementOf x1 S = some (rv, Z)) : hMet l yX6_agreementOf cX6_agreementOf 2 (some .int) ({ frames := 0, cells := 0, slots := 0, locals := 0 } : Room) D B cy A ad av true hC [.ref (B + 7), .int x1] S Z (some (.int rv)) 0 0 := by
  refine h_entry (by decide) hfr hG ?_
  intro p e s m below meth c args X hnm hw
  have hl := lv_entry ([.ref (B + 7), .int x1]) (n := 2) (Nat.le_of_ble_eq_true rfl)
  rw [lg_entry_eq]
  generalize (lg_sl ([.ref (B + 7), .int x1]) ++ List.replicate (2 - (lg_sl ([.ref (B + 7), .int x1])).length) Slot.unset).toArray = ls at hl ⊢
  have hl : lv_has ls 2 [(0, .ref (B + 7)), (1, .int x1)] := hl
  unfold fn_X6_agreementOf at hf
  refine lv_iload_n X.1 X.2.1 dX6_agreementOf_0 rfl (lv_at hl 1 rfl) ?_
  refine lv_if_lt (tgt := 22) X.1 X.2.1 dX6_agreementOf_1 (by decide) (fun hq => ?_) (fun hq => ?_)
  · replace hf := cd_tk hq hf
    exact w_X6_agreementOf_22 X  _ _ _ _ hf hw (lv_sub hl [] rfl)
  · replace hf := cd_fk hq hf
    refine lv_iload_n X.1 X.2.1 dX6_agreementOf_4 rfl (lv_at hl 1 rfl) ?_
    refine lv_aload_n X.1 X.2.1 dX6_agreementOf_5 rfl (lv_at hl 0 rfl) ?_
    refine r_getF X hw (κ := 7) rfl inlX6 1 (by decide) rfl (by decide) tw_71 (hCk hw.2.2.2.2.2 7 (by decide) rfl) (hCr (c := 7) (k := 1) (d := 9) hw.2.2.2.2.2 (by decide)) dX6_agreementOf_6 ?_
    refine r_alen (κ := 21) X hw (hCk hw.2.2.2.2.2 9 (by decide) rfl) (by decide) (hCn hw.2.2.2.2.2 9 (by decide) rfl) dX6_agreementOf_9 ?_
    refine lv_icmp_ge (tgt := 22) X.1 X.2.1 dX6_agreementOf_10 (by decide) (fun hq => ?_) (fun hq => ?_)
    · replace hf := cd_tk hq hf
      exact w_X6_agreementOf_22 X  _ _ _ _ hf hw (lv_sub hl [] rfl)
    · replace hf := cd_fk hq hf
      refine lv_aload_n X.1 X.2.1 dX6_agreementOf_13 rfl (lv_at hl 0 rfl) ?_
      refine r_getF X hw (κ := 7) rfl inlX6 1 (by decide) rfl (by decide) tw_71 (hCk hw.2.2.2.2.2 7 (by decide) rfl) (hCr (c := 7) (k := 1) (d := 9) hw.2.2.2.2.2 (by decide)) dX6_agreementOf_14 ?_
      refine lv_iload_n X.1 X.2.1 dX6_agreementOf_17 rfl (lv_at hl 1 rfl) ?_
      obtain ⟨g1, hf⟩ := gd_ok hf
      refine r_iald X hw (hCk hw.2.2.2.2.2 9 (by decide) rfl) (hCn hw.2.2.2.2.2 9 (by decide) rfl) g1 dX6_agreementOf_18 ?_
      refine lv_goto (tgt := 23) X.1 X.2.1 dX6_agreementOf_19 (by decide) ?_
      exact w_X6_agreementOf_23 X  _ _ _ _ _ hf hw (lv_sub hl [] rfl)
set_option maxHeartbeats 4000000 in
theorem w_X6_linesOf_23 {p : Program} {l : Launch} {e : Env} {s : State} {m : MethodId} {args : Array Value} {below : List Frame} {meth : Method} {c : Code} {D : va_G} {B : Nat} {cy : Nat → ClassId} {A : Nat → Prop} {ad av : Nat → Nat} {rv : Int32} {Z : HS} (X : hCX p s m args meth c RX6 cX6_linesOf 2 (some .int) D cy A ad av)  (y0 : Int32) (S : HS) (H : Heap) (locs : List Loc) (ls : Array Slot) (hf : fn_X6_linesOf_23 y0 S = some (rv, Z)) (hw : hWd D B cy A true hC S s.heap H locs) (hl : lv_has ls 2 []) : W p l e ({ frames := 0, cells := 0, slots := 0, locals := 0 } : Room) s m args below meth c H locs 0 0 (MQ below (hQo D B cy A true hC Z (some (.int rv))) args s 0 0 A) (F0 m 23 ls [.int y0]) := by
  unfold fn_X6_linesOf_23 at hf
  cases hf
  exact r_iret X hw dX6_linesOf_23
set_option maxHeartbeats 4000000 in
theorem w_X6_linesOf_22 {p : Program} {l : Launch} {e : Env} {s : State} {m : MethodId} {args : Array Value} {below : List Frame} {meth : Method} {c : Code} {D : va_G} {B : Nat} {cy : Nat → ClassId} {A : Nat → Prop} {ad av : Nat → Nat} {rv : Int32} {Z : HS} (X : hCX p s m args meth c RX6 cX6_linesOf 2 (some .int) D cy A ad av)   (S : HS) (H : Heap) (locs : List Loc) (ls : Array Slot) (hf : fn_X6_linesOf_22 S = some (rv, Z)) (hw : hWd D B cy A true hC S s.heap H locs) (hl : lv_has ls 2 []) : W p l e ({ frames := 0, cells := 0, slots := 0, locals := 0 } : Room) s m args below meth c H locs 0 0 (MQ below (hQo D B cy A true hC Z (some (.int rv))) args s 0 0 A) (F0 m 22 ls []) := by
  unfold fn_X6_linesOf_22 at hf
  refine lv_iconst (v := 0) X.1 X.2.1 dX6_linesOf_22 (by decide) ?_
  exact w_X6_linesOf_23 X  _ _ _ _ _ hf hw (lv_sub hl [] rfl)
theorem hd_X6_linesOf : yX6_linesOf.cls = RX6 ∧ yX6_linesOf.cls ≠ "java/lang/invoke/MethodHandle" ∧ yX6_linesOf.cls ≠ "java/lang/invoke/VarHandle" ∧ (parseMethodDescriptor yX6_linesOf.desc).map (fun d => d.parameters.length) = some 1 := by decide +kernel
set_option maxHeartbeats 4000000 in
theorem c_X6_linesOf (l : Launch) (D : va_G) (B : Nat) (cy : Nat → ClassId) (A : Nat → Prop) (ad av : Nat → Nat) (x1 : Int32) {S Z : HS} {rv : Int32} (hfr : hFr S) (hG : hC S) (hf : fn_X6_linesOf x1 S = some (rv, Z)) : hMet l yX6_linesOf cX6_linesOf 2 (some .int) ({ frames := 0, cells := 0, slots := 0, locals := 0 } : Room) D B cy A ad av true hC [.ref (B + 7), .int x1] S Z (some (.int rv)) 0 0 := by
  refine h_entry (by decide) hfr hG ?_
  intro p e s m below meth c args X hnm hw
  have hl := lv_entry ([.ref (B + 7), .int x1]) (n := 2) (Nat.le_of_ble_eq_true rfl)
  rw [lg_entry_eq]
  generalize (lg_sl ([.ref (B + 7), .int x1]) ++ List.replicate (2 - (lg_sl ([.ref (B + 7), .int x1])).length) Slot.unset).toArray = ls at hl ⊢
  have hl : lv_has ls 2 [(0, .ref (B + 7)), (1, .int x1)] := hl
  unfold fn_X6_linesOf at hf
  refine lv_iload_n X.1 X.2.1 dX6_linesOf_0 rfl (lv_at hl 1 rfl) ?_
  refine lv_if_lt (tgt := 22) X.1 X.2.1 dX6_linesOf_1 (by decide) (fun hq => ?_) (fun hq => ?_)
  · replace hf := cd_tk hq hf
    exact w_X6_linesOf_22 X  _ _ _ _ hf hw (lv_sub hl [] rfl)
  · replace hf := cd_fk hq hf
    refine lv_iload_n X.1 X.2.1 dX6_linesOf_4 rfl (lv_at hl 1 rfl) ?_
    refine lv_aload_n X.1 X.2.1 dX6_linesOf_5 rfl (lv_at hl 0 rfl) ?_
    refine r_getF X hw (κ := 7) rfl inlX6 2 (by decide) rfl (by decide) tw_72 (hCk hw.2.2.2.2.2 7 (by decide) rfl) (hCr (c := 7) (k := 2) (d := 10) hw.2.2.2.2.2 (by decide)) dX6_linesOf_6 ?_
    refine r_alen (κ := 21) X hw (hCk hw.2.2.2.2.2 10 (by decide) rfl) (by decide) (hCn hw.2.2.2.2.2 10 (by decide) rfl) dX6_linesOf_9 ?_
    refine lv_icmp_ge (tgt := 22) X.1 X.2.1 dX6_linesOf_10 (by decide) (fun hq => ?_) (fun hq => ?_)
    · replace hf := cd_tk hq hf
      exact w_X6_linesOf_22 X  _ _ _ _ hf hw (lv_sub hl [] rfl)
    · replace hf := cd_fk hq hf
      refine lv_aload_n X.1 X.2.1 dX6_linesOf_13 rfl (lv_at hl 0 rfl) ?_
      refine r_getF X hw (κ := 7) rfl inlX6 2 (by decide) rfl (by decide) tw_72 (hCk hw.2.2.2.2.2 7 (by decide) rfl) (hCr (c := 7) (k := 2) (d := 10) hw.2.2.2.2.2 (by decide)) dX6_linesOf_14 ?_
      refine lv_iload_n X.1 X.2.1 dX6_linesOf_17 rfl (lv_at hl 1 rfl) ?_
      obtain ⟨g1, hf⟩ := gd_ok hf
      refine r_iald X hw (hCk hw.2.2.2.2.2 10 (by decide) rfl) (hCn hw.2.2.2.2.2 10 (by decide) rfl) g1 dX6_linesOf_18 ?_
      refine lv_goto (tgt := 23) X.1 X.2.1 dX6_linesOf_19 (by decide) ?_
      exact w_X6_linesOf_23 X  _ _ _ _ _ hf hw (lv_sub hl [] rfl)
set_option maxHeartbeats 4000000 in
theorem w_X6_lineOf_63 {p : Program} {l : Launch} {e : Env} {s : State} {m : MethodId} {args : Array Value} {below : List Frame} {meth : Method} {c : Code} {D : va_G} {B : Nat} {cy : Nat → ClassId} {A : Nat → Prop} {ad av : Nat → Nat} {rv : Option Nat} {Z : HS} (X : hCX p s m args meth c RX6 cX6_lineOf 5 (some (.object "PayScales$Line")) D cy A ad av)  (y0 : Option Nat) (S : HS) (H : Heap) (locs : List Loc) (ls : Array Slot) (hf : fn_X6_lineOf_63 y0 S = some (rv, Z)) (hw : hWd D B cy A true hC S s.heap H locs) (hl : lv_has ls 5 []) : W p l e ({ frames := 0, cells := 0, slots := 0, locals := 0 } : Room) s m args below meth c H locs 0 0 (MQ below (hQo D B cy A true hC Z (some (va_rf (rv.map (B + ·))))) args s 0 0 A) (F0 m 63 ls [va_rf (Option.map (B + ·) y0)]) := by
  unfold fn_X6_lineOf_63 at hf
  cases hf
  exact r_aret X (by first | exact Or.inl ⟨_, rfl⟩ | exact Or.inr ⟨_, rfl⟩) hw dX6_lineOf_63
set_option maxHeartbeats 4000000 in
theorem w_X6_lineOf_57 {p : Program} {l : Launch} {e : Env} {s : State} {m : MethodId} {args : Array Value} {below : List Frame} {meth : Method} {c : Code} {D : va_G} {B : Nat} {cy : Nat → ClassId} {A : Nat → Prop} {ad av : Nat → Nat} {rv : Option Nat} {Z : HS} (X : hCX p s m args meth c RX6 cX6_lineOf 5 (some (.object "PayScales$Line")) D cy A ad av)   (S : HS) (H : Heap) (locs : List Loc) (ls : Array Slot) (hf : fn_X6_lineOf_57 S = some (rv, Z)) (hw : hWd D B cy A true hC S s.heap H locs) (hl : lv_has ls 5 []) : W p l e ({ frames := 0, cells := 0, slots := 0, locals := 0 } : Room) s m args below meth c H locs 0 0 (MQ below (hQo D B cy A true hC Z (some (va_rf (rv.map (B + ·))))) args s 0 0 A) (F0 m 57 ls []) := by
  unfold fn_X6_lineOf_57 at hf
  refine lv_null X.1 X.2.1 dX6_lineOf_57 ?_
  refine lv_goto (tgt := 63) X.1 X.2.1 dX6_lineOf_58 (by decide) ?_
  exact w_X6_lineOf_63 X  _ _ _ _ _ hf hw (lv_sub hl [] rfl)
set_option maxHeartbeats 4000000 in
theorem w_X6_lineOf_42 {p : Program} {l : Launch} {e : Env} {s : State} {m : MethodId} {args : Array Value} {below : List Frame} {meth : Method} {c : Code} {D : va_G} {B : Nat} {cy : Nat → ClassId} {A : Nat → Prop} {ad av : Nat → Nat} {rv : Option Nat} {Z : HS} (X : hCX p s m args meth c RX6 cX6_lineOf 5 (some (.object "PayScales$Line")) D cy A ad av)  (y0 : Option Nat) (S : HS) (H : Heap) (locs : List Loc) (ls : Array Slot) (hf : fn_X6_lineOf_42 y0 S = some (rv, Z)) (hw : hWd D B cy A true hC S s.heap H locs) (hl : lv_has ls 5 []) : W p l e ({ frames := 0, cells := 0, slots := 0, locals := 0 } : Room) s m args below meth c H locs 0 0 (MQ below (hQo D B cy A true hC Z (some (va_rf (rv.map (B + ·))))) args s 0 0 A) (F0 m 42 ls [va_rf (Option.map (B + ·) y0)]) := by
  unfold fn_X6_lineOf_42 at hf
  refine r_astoreO (lv' := [(4, va_rf (Option.map (B + ·) y0))]) X.1 X.2.1 dX6_lineOf_42 hl (by decide) rfl (fun ls hl => ?_)
  refine r_aloadO X.1 X.2.1 dX6_lineOf_44 (lv_at hl 0 rfl) ?_
  refine r_ifnull (tgt := 57) X.1 X.2.1 dX6_lineOf_46 (by decide) (fun hq => ?_) (fun c1 hq => ?_)
  · replace hf := cs_nk hq hf
    exact w_X6_lineOf_57 X  _ _ _ _ hf hw (lv_sub hl [] rfl)
  · replace hf := cs_sk hq hf
    refine r_aloadO X.1 X.2.1 dX6_lineOf_49 (lv_at hl 0 rfl) ?_
    obtain ⟨c2, ec2, hf⟩ := bn_ok hf
    rw [ec2]
    obtain ⟨g3, hf⟩ := gd_ok hf
    refine r_getI X hw (κ := 3) rfl inlX2 1 (by decide) rfl (by decide) tw_665 g3 dX6_lineOf_51 ?_
    refine lv_if_eq (tgt := 61) X.1 X.2.1 dX6_lineOf_54 (by decide) (fun hq => ?_) (fun hq => ?_)
    · replace hf := cd_tk hq hf
      refine r_aloadO X.1 X.2.1 dX6_lineOf_61 (lv_at hl 0 rfl) ?_
      exact w_X6_lineOf_63 X  _ _ _ _ _ hf hw (lv_sub hl [] rfl)
    · replace hf := cd_fk hq hf
      exact w_X6_lineOf_57 X  _ _ _ _ hf hw (lv_sub hl [] rfl)
set_option maxHeartbeats 4000000 in
theorem w_X6_lineOf_41 {p : Program} {l : Launch} {e : Env} {s : State} {m : MethodId} {args : Array Value} {below : List Frame} {meth : Method} {c : Code} {D : va_G} {B : Nat} {cy : Nat → ClassId} {A : Nat → Prop} {ad av : Nat → Nat} {rv : Option Nat} {Z : HS} (X : hCX p s m args meth c RX6 cX6_lineOf 5 (some (.object "PayScales$Line")) D cy A ad av)   (S : HS) (H : Heap) (locs : List Loc) (ls : Array Slot) (hf : fn_X6_lineOf_41 S = some (rv, Z)) (hw : hWd D B cy A true hC S s.heap H locs) (hl : lv_has ls 5 []) : W p l e ({ frames := 0, cells := 0, slots := 0, locals := 0 } : Room) s m args below meth c H locs 0 0 (MQ below (hQo D B cy A true hC Z (some (va_rf (rv.map (B + ·))))) args s 0 0 A) (F0 m 41 ls []) := by
  unfold fn_X6_lineOf_41 at hf
  refine lv_null X.1 X.2.1 dX6_lineOf_41 ?_
  exact w_X6_lineOf_42 X  _ _ _ _ _ hf hw (lv_sub hl [] rfl)
set_option maxHeartbeats 4000000 in
theorem w_X6_lineOf_10 {p : Program} {l : Launch} {e : Env} {s : State} {m : MethodId} {args : Array Value} {below : List Frame} {meth : Method} {c : Code} {D : va_G} {B : Nat} {cy : Nat → ClassId} {A : Nat → Prop} {ad av : Nat → Nat} {rv : Option Nat} {Z : HS} (X : hCX p s m args meth c RX6 cX6_lineOf 5 (some (.object "PayScales$Line")) D cy A ad av)   (S : HS) (H : Heap) (locs : List Loc) (ls : Array Slot) (hf : fn_X6_lineOf_10 S = some (rv, Z)) (hw : hWd D B cy A true hC S s.heap H locs) (hl : lv_has ls 5 []) : W p l e ({ frames := 0, cells := 0, slots := 0, locals := 0 } : Room) s m args below meth c H locs 0 0 (MQ below (hQo D B cy A true hC Z (some (va_rf (rv.map (B + ·))))) args s 0 0 A) (F0 m 10 ls []) := by
  unfold fn_X6_lineOf_10 at hf
  refine lv_null X.1 X.2.1 dX6_lineOf_10 ?_
  cases hf
  exact r_aret X (by first | exact Or.inl ⟨_, rfl⟩ | exact Or.inr ⟨_, rfl⟩) hw dX6_lineOf_11
theorem hd_X6_lineOf : yX6_lineOf.cls = RX6 ∧ yX6_lineOf.cls ≠ "java/lang/invoke/MethodHandle" ∧ yX6_lineOf.cls ≠ "java/lang/invoke/VarHandle" ∧ (parseMethodDescriptor yX6_lineOf.desc).map (fun d => d.parameters.length) = some 2 := by decide +kernel
set_option maxHeartbeats 4000000 in
theorem c_X6_lineOf (l : Launch) (D : va_G) (B : Nat) (cy : Nat → ClassId) (A : Nat → Prop) (ad av : Nat → Nat) (x1 : Int32) (x2 : Int32) {S Z : HS} {rv : Option Nat} (hfr : hFr S) (hG : hC S) (hf : fn_X6_lineOf x1 x2 S = some (rv, Z)) : hMet l yX6_lineOf cX6_lineOf 5 (some (.object "PayScales$Line")) ({ frames := 0, cells := 0, slots := 0, locals := 0 } : Room) D B cy A ad av true hC [.ref (B + 7), .int x1, .int x2] S Z (some (va_rf (rv.map (B + ·)))) 0 0 := by
  refine h_entry (by decide) hfr hG ?_
  intro p e s m below meth c args X hnm hw
  have hl := lv_entry ([.ref (B + 7), .int x1, .int x2]) (n := 5) (Nat.le_of_ble_eq_true rfl)
  rw [lg_entry_eq]
  generalize (lg_sl ([.ref (B + 7), .int x1, .int x2]) ++ List.replicate (5 - (lg_sl ([.ref (B + 7), .int x1, .int x2])).length) Slot.unset).toArray = ls at hl ⊢
  have hl : lv_has ls 5 [(0, .ref (B + 7)), (1, .int x1), (2, .int x2)] := hl
  unfold fn_X6_lineOf at hf
  refine lv_iload_n X.1 X.2.1 dX6_lineOf_0 rfl (lv_at hl 2 rfl) ?_
  refine lv_if_lt (tgt := 10) X.1 X.2.1 dX6_lineOf_1 (by decide) (fun hq => ?_) (fun hq => ?_)
  · replace hf := cd_tk hq hf
    exact w_X6_lineOf_10 X  _ _ _ _ hf hw (lv_sub hl [] rfl)
  · replace hf := cd_fk hq hf
    refine lv_iload_n X.1 X.2.1 dX6_lineOf_4 rfl (lv_at hl 2 rfl) ?_
    refine lv_bipush (v := 26) X.1 X.2.1 dX6_lineOf_5 (by decide) ?_
    refine lv_icmp_lt (tgt := 12) X.1 X.2.1 dX6_lineOf_7 (by decide) (fun hq => ?_) (fun hq => ?_)
    · replace hf := cd_tk hq hf
      refine lv_iload_n X.1 X.2.1 dX6_lineOf_12 rfl (lv_at hl 1 rfl) ?_
      refine lv_bipush (v := 26) X.1 X.2.1 dX6_lineOf_13 (by decide) ?_
      refine lv_imul X.1 X.2.1 dX6_lineOf_15 ?_
      refine lv_iload_n X.1 X.2.1 dX6_lineOf_16 rfl (lv_at hl 2 rfl) ?_
      refine lv_iadd X.1 X.2.1 dX6_lineOf_17 ?_
      obtain ⟨v1, ev1, hf⟩ := bn_ok hf
      replace ev1 := Option.some.inj ev1
      refine lv_ren ev1 ?_
      refine lv_istore_n (lv' := [(3, .int v1), (0, .ref (B + 7)), (1, .int x1), (2, .int x2)]) X.1 X.2.1 dX6_lineOf_18 rfl hl (by decide) rfl (fun ls hl => ?_)
      refine lv_iload_n X.1 X.2.1 dX6_lineOf_19 rfl (lv_at hl 0 rfl) ?_
      refine lv_if_lt (tgt := 41) X.1 X.2.1 dX6_lineOf_20 (by decide) (fun hq => ?_) (fun hq => ?_)
      · replace hf := cd_tk hq hf
        exact w_X6_lineOf_41 X  _ _ _ _ hf hw (lv_sub hl [] rfl)
      · replace hf := cd_fk hq hf
        refine lv_iload_n X.1 X.2.1 dX6_lineOf_23 rfl (lv_at hl 0 rfl) ?_
        refine lv_aload_n X.1 X.2.1 dX6_lineOf_24 rfl (lv_at hl 1 rfl) ?_
        refine r_getF X hw (κ := 7) rfl inlX6 0 (by decide) rfl (by decide) tw_70 (hCk hw.2.2.2.2.2 7 (by decide) rfl) (hCr (c := 7) (k := 0) (d := 8) hw.2.2.2.2.2 (by decide)) dX6_lineOf_25 ?_
        refine r_alen (κ := 24) X hw (hCk hw.2.2.2.2.2 8 (by decide) rfl) (by decide) (hCn hw.2.2.2.2.2 8 (by decide) rfl) dX6_lineOf_28 ?_
        refine lv_icmp_ge (tgt := 41) X.1 X.2.1 dX6_lineOf_29 (by decide) (fun hq => ?_) (fun hq => ?_)
        · replace hf := cd_tk hq hf
          exact w_X6_lineOf_41 X  _ _ _ _ hf hw (lv_sub hl [] rfl)
        · replace hf := cd_fk hq hf
          refine lv_aload_n X.1 X.2.1 dX6_lineOf_32 rfl (lv_at hl 1 rfl) ?_
          refine r_getF X hw (κ := 7) rfl inlX6 0 (by decide) rfl (by decide) tw_70 (hCk hw.2.2.2.2.2 7 (by decide) rfl) (hCr (c := 7) (k := 0) (d := 8) hw.2.2.2.2.2 (by decide)) dX6_lineOf_33 ?_
          refine lv_iload_n X.1 X.2.1 dX6_lineOf_36 rfl (lv_at hl 0 rfl) ?_
          obtain ⟨g2, hf⟩ := gd_ok hf
          refine r_aald (κ := 24) X hw (hCk hw.2.2.2.2.2 8 (by decide) rfl) (by omega) (hCn hw.2.2.2.2.2 8 (by decide) rfl) g2 dX6_lineOf_37 ?_
          refine lv_goto (tgt := 42) X.1 X.2.1 dX6_lineOf_38 (by decide) ?_
          exact w_X6_lineOf_42 X  _ _ _ _ _ hf hw (lv_sub hl [] rfl)
    · replace hf := cd_fk hq hf
      exact w_X6_lineOf_10 X  _ _ _ _ hf hw (lv_sub hl [] rfl)
set_option maxHeartbeats 4000000 in
theorem w_X6_numberOf_19 {p : Program} {l : Launch} {e : Env} {s : State} {m : MethodId} {args : Array Value} {below : List Frame} {meth : Method} {c : Code} {D : va_G} {B : Nat} {cy : Nat → ClassId} {A : Nat → Prop} {ad av : Nat → Nat} {rv : Int32} {Z : HS} (X : hCX p s m args meth c RX6 cX6_numberOf 4 (some .int) D cy A ad av)  (y0 : Int32) (S : HS) (H : Heap) (locs : List Loc) (ls : Array Slot) (hf : fn_X6_numberOf_19 y0 S = some (rv, Z)) (hw : hWd D B cy A true hC S s.heap H locs) (hl : lv_has ls 4 []) : W p l e ({ frames := 1, cells := 0, slots := 0, locals := 24 } : Room) s m args below meth c H locs 0 0 (MQ below (hQo D B cy A true hC Z (some (.int rv))) args s 0 0 A) (F0 m 19 ls [.int y0]) := by
  unfold fn_X6_numberOf_19 at hf
  cases hf
  exact r_iret X hw dX6_numberOf_19
theorem hd_X6_numberOf : yX6_numberOf.cls = RX6 ∧ yX6_numberOf.cls ≠ "java/lang/invoke/MethodHandle" ∧ yX6_numberOf.cls ≠ "java/lang/invoke/VarHandle" ∧ (parseMethodDescriptor yX6_numberOf.desc).map (fun d => d.parameters.length) = some 2 := by decide +kernel
set_option maxHeartbeats 4000000 in
theorem c_X6_numberOf (l : Launch) (D : va_G) (B : Nat) (cy : Nat → ClassId) (A : Nat → Prop) (ad av : Nat → Nat) (x1 : Int32) (x2 : Int32) {S Z : HS} {rv : Int32} (hfr : hFr S) (hG : hC S) (hf : fn_X6_numberOf x1 x2 S = some (rv, Z)) : hMet l yX6_numberOf cX6_numberOf 4 (some .int) ({ frames := 1, cells := 0, slots := 0, locals := 24 } : Room) D B cy A ad av true hC [.ref (B + 7), .int x1, .int x2] S Z (some (.int rv)) 0 0 := by
  refine h_entry (by decide) hfr hG ?_
  intro p e s m below meth c args X hnm hw
  have hl := lv_entry ([.ref (B + 7), .int x1, .int x2]) (n := 4) (Nat.le_of_ble_eq_true rfl)
  rw [lg_entry_eq]
  generalize (lg_sl ([.ref (B + 7), .int x1, .int x2]) ++ List.replicate (4 - (lg_sl ([.ref (B + 7), .int x1, .int x2])).length) Slot.unset).toArray = ls at hl ⊢
  have hl : lv_has ls 4 [(0, .ref (B + 7)), (1, .int x1), (2, .int x2)] := hl
  unfold fn_X6_numberOf at hf
  refine lv_aload_n X.1 X.2.1 dX6_numberOf_0 rfl (lv_at hl 0 rfl) ?_
  refine lv_iload_n X.1 X.2.1 dX6_numberOf_1 rfl (lv_at hl 1 rfl) ?_
  refine lv_iconst (v := 0) X.1 X.2.1 dX6_numberOf_2 (by decide) ?_
  obtain ⟨r2, S1, hS1, hf⟩ := bn2_ok hf
  refine r_callV (As := [.int x1, .int 0]) (rest := []) (st1 := [va_rf (Option.map (B + ·) r2)]) (κ := 7) X hw (c_X6_lineOf l D B cy A ad av x1 0 hw.2.2.2.2.1 hw.2.2.2.2.2 hS1) ⟨rfl, rfl, Nat.le_of_ble_eq_true rfl, Nat.le_of_ble_eq_true rfl⟩ rfl (by decide) (hCk hw.2.2.2.2.2 7 (by decide) rfl) tw_661 tw_662 tw_663 tw_27 tw_664 hd_X6_lineOf rfl hl.1 rfl (Nat.le_of_ble_eq_true rfl) dX6_numberOf_3 ⟨Nat.le_of_ble_eq_true rfl, Nat.le_of_ble_eq_true rfl⟩ rfl (fun H locs hw => ?_)
  refine r_astore_nO (lv' := [(3, va_rf (Option.map (B + ·) r2)), (0, .ref (B + 7)), (1, .int x1), (2, .int x2)]) X.1 X.2.1 dX6_numberOf_6 rfl hl (by decide) rfl (fun ls hl => ?_)
  refine r_aload_nO X.1 X.2.1 dX6_numberOf_7 rfl (lv_at hl 0 rfl) ?_
  refine r_ifnonnull (tgt := 15) X.1 X.2.1 dX6_numberOf_8 (by decide) (fun c3 hq => ?_) (fun hq => ?_)
  · replace hf := cs_sk hq hf
    refine r_aload_nO X.1 X.2.1 dX6_numberOf_15 rfl (lv_at hl 0 rfl) ?_
    obtain ⟨c4, ec4, hf⟩ := bn_ok hf
    rw [ec4]
    obtain ⟨g5, hf⟩ := gd_ok hf
    refine r_getI X hw (κ := 3) rfl inlX2 8 (by decide) rfl (by decide) tw_660 g5 dX6_numberOf_16 ?_
    exact w_X6_numberOf_19 X  _ _ _ _ _ hf hw (lv_sub hl [] rfl)
  · replace hf := cs_nk hq hf
    refine lv_iload_n X.1 X.2.1 dX6_numberOf_11 rfl (lv_at hl 3 rfl) ?_
    refine lv_goto (tgt := 19) X.1 X.2.1 dX6_numberOf_12 (by decide) ?_
    exact w_X6_numberOf_19 X  _ _ _ _ _ hf hw (lv_sub hl [] rfl)
set_option maxHeartbeats 4000000 in
theorem w_X6_pointsBy_40 {p : Program} {l : Launch} {e : Env} {s : State} {m : MethodId} {args : Array Value} {below : List Frame} {meth : Method} {c : Code} {D : va_G} {B : Nat} {cy : Nat → ClassId} {A : Nat → Prop} {ad av : Nat → Nat} {rv : Int32} {Z : HS} (X : hCX p s m args meth c RX6 cX6_pointsBy 5 (some .int) D cy A ad av) (k4 : Int32 → Int32 → HS → Option (Int32 × HS)) (hk4 : ∀ (x2 : Int32) (x3 : Int32) (S : HS) (H : Heap) (locs : List Loc) (ls : Array Slot), k4 x2 x3 S = some (rv, Z) → hWd D B cy A true hC S s.heap H locs → lv_has ls 5 [(0, .ref (B + 7)), (1, .ref (B + 13)), (2, .int x2), (3, .int x3)] → W p l e ({ frames := 1, cells := 0, slots := 0, locals := 24 } : Room) s m args below meth c H locs 0 0 (MQ below (hQo D B cy A true hC Z (some (.int rv))) args s 0 0 A) (F0 m 4 ls [])) (x2 : Int32) (x3 : Int32) (S : HS) (H : Heap) (locs : List Loc) (ls : Array Slot) (hf : fn_X6_pointsBy_40 k4 x2 x3 S = some (rv, Z)) (hw : hWd D B cy A true hC S s.heap H locs) (hl : lv_has ls 5 [(0, .ref (B + 7)), (1, .ref (B + 13)), (2, .int x2), (3, .int x3)]) : W p l e ({ frames := 1, cells := 0, slots := 0, locals := 24 } : Room) s m args below meth c H locs 0 0 (MQ below (hQo D B cy A true hC Z (some (.int rv))) args s 0 0 A) (F0 m 40 ls []) := by
  unfold fn_X6_pointsBy_40 at hf
  obtain ⟨v1, ev1, hf⟩ := bn_ok hf
  replace ev1 := Option.some.inj ev1
  refine lv_iinc (v := v1) (lv' := [(3, .int v1), (0, .ref (B + 7)), (1, .ref (B + 13)), (2, .int x2)]) X.1 X.2.1 dX6_pointsBy_40 hl (k := 3) rfl ev1 (by decide) rfl (fun ls hl => ?_)
  refine lv_goto (tgt := 4) X.1 X.2.1 dX6_pointsBy_43 (by decide) ?_
  exact hk4 _ _ _ _ _ _ hf hw (lv_sub hl [1, 2, 3, 0] rfl)
set_option maxHeartbeats 4000000 in
theorem w_X6_pointsBy_4 {p : Program} {l : Launch} {e : Env} {s : State} {m : MethodId} {args : Array Value} {below : List Frame} {meth : Method} {c : Code} {D : va_G} {B : Nat} {cy : Nat → ClassId} {A : Nat → Prop} {ad av : Nat → Nat} {rv : Int32} {Z : HS} (X : hCX p s m args meth c RX6 cX6_pointsBy 5 (some .int) D cy A ad av)  : ∀ (n : Nat) (x2 : Int32) (x3 : Int32) (S : HS) (H : Heap) (locs : List Loc) (ls : Array Slot), fn_X6_pointsBy_4 n x2 x3 S = some (rv, Z) → hWd D B cy A true hC S s.heap H locs → lv_has ls 5 [(0, .ref (B + 7)), (1, .ref (B + 13)), (2, .int x2), (3, .int x3)] → W p l e ({ frames := 1, cells := 0, slots := 0, locals := 24 } : Room) s m args below meth c H locs 0 0 (MQ below (hQo D B cy A true hC Z (some (.int rv))) args s 0 0 A) (F0 m 4 ls []) := by
  intro n
  induction n with
  | zero =>
    intro x2 x3 S H locs ls hf
    cases hf
  | succ n ih =>
    intro x2 x3 S H locs ls hf hw hl
    rw [fn_X6_pointsBy_4] at hf
    refine lv_iload_n X.1 X.2.1 dX6_pointsBy_4 rfl (lv_at hl 3 rfl) ?_
    refine lv_bipush (v := 26) X.1 X.2.1 dX6_pointsBy_5 (by decide) ?_
    refine lv_icmp_ge (tgt := 46) X.1 X.2.1 dX6_pointsBy_7 (by decide) (fun hq => ?_) (fun hq => ?_)
    · replace hf := cd_tk hq hf
      refine lv_iload_n X.1 X.2.1 dX6_pointsBy_46 rfl (lv_at hl 2 rfl) ?_
      cases hf
      exact r_iret X hw dX6_pointsBy_47
    · replace hf := cd_fk hq hf
      refine lv_aload_n X.1 X.2.1 dX6_pointsBy_10 rfl (lv_at hl 0 rfl) ?_
      refine lv_iconst (v := 0) X.1 X.2.1 dX6_pointsBy_11 (by decide) ?_
      refine lv_iload_n X.1 X.2.1 dX6_pointsBy_12 rfl (lv_at hl 3 rfl) ?_
      obtain ⟨r2, S1, hS1, hf⟩ := bn2_ok hf
      refine r_callV (As := [.int 0, .int x3]) (rest := []) (st1 := [va_rf (Option.map (B + ·) r2)]) (κ := 7) X hw (c_X6_lineOf l D B cy A ad av 0 x3 hw.2.2.2.2.1 hw.2.2.2.2.2 hS1) ⟨rfl, rfl, Nat.le_of_ble_eq_true rfl, Nat.le_of_ble_eq_true rfl⟩ rfl (by decide) (hCk hw.2.2.2.2.2 7 (by decide) rfl) tw_661 tw_662 tw_663 tw_27 tw_664 hd_X6_lineOf rfl hl.1 rfl (Nat.le_of_ble_eq_true rfl) dX6_pointsBy_13 ⟨Nat.le_of_ble_eq_true rfl, Nat.le_of_ble_eq_true rfl⟩ rfl (fun H locs hw => ?_)
      refine r_astoreO (lv' := [(4, va_rf (Option.map (B + ·) r2)), (0, .ref (B + 7)), (1, .ref (B + 13)), (2, .int x2), (3, .int x3)]) X.1 X.2.1 dX6_pointsBy_16 hl (by decide) rfl (fun ls hl => ?_)
      refine r_aloadO X.1 X.2.1 dX6_pointsBy_18 (lv_at hl 0 rfl) ?_
      refine r_ifnull (tgt := 40) X.1 X.2.1 dX6_pointsBy_20 (by decide) (fun hq => ?_) (fun c3 hq => ?_)
      · replace hf := cs_nk hq hf
        exact w_X6_pointsBy_40 X (fn_X6_pointsBy_4 n) ih _ _ _ _ _ _ hf hw (lv_sub hl [1, 2, 3, 4] rfl)
      · replace hf := cs_sk hq hf
        refine r_aloadO X.1 X.2.1 dX6_pointsBy_23 (lv_at hl 0 rfl) ?_
        refine lv_aload_n X.1 X.2.1 dX6_pointsBy_25 rfl (lv_at hl 2 rfl) ?_
        obtain ⟨c4, ec4, hf⟩ := bn_ok hf
        rw [ec4]
        obtain ⟨g5, hf⟩ := gd_ok hf
        obtain ⟨r7, S6, hS6, hf⟩ := bn2_ok hf
        refine r_callV (As := [.ref (B + 13)]) (rest := []) (st1 := [.int r7]) (κ := 3) X hw (c_X2_holds l D B cy A ad av c4 hw.2.2.2.2.1 hw.2.2.2.2.2 hS6) ⟨rfl, rfl, Nat.le_of_ble_eq_true rfl, Nat.le_of_ble_eq_true rfl⟩ rfl (by decide) g5 tw_666 tw_667 tw_668 tw_281 tw_669 hd_X2_holds rfl hl.1 rfl (Nat.le_of_ble_eq_true rfl) dX6_pointsBy_26 ⟨Nat.le_of_ble_eq_true rfl, Nat.le_of_ble_eq_true rfl⟩ rfl (fun H locs hw => ?_)
        refine lv_if_eq (tgt := 40) X.1 X.2.1 dX6_pointsBy_29 (by decide) (fun hq => ?_) (fun hq => ?_)
        · replace hf := cd_tk hq hf
          exact w_X6_pointsBy_40 X (fn_X6_pointsBy_4 n) ih _ _ _ _ _ _ hf hw (lv_sub hl [1, 2, 3, 4] rfl)
        · replace hf := cd_fk hq hf
          refine lv_iload_n X.1 X.2.1 dX6_pointsBy_32 rfl (lv_at hl 3 rfl) ?_
          refine r_aloadO X.1 X.2.1 dX6_pointsBy_33 (lv_at hl 0 rfl) ?_
          obtain ⟨c8, ec8, hf⟩ := bn_ok hf
          rw [ec8]
          obtain ⟨g9, hf⟩ := gd_ok hf
          refine r_getI X hw (κ := 3) rfl inlX2 8 (by decide) rfl (by decide) tw_660 g9 dX6_pointsBy_35 ?_
          refine lv_iadd X.1 X.2.1 dX6_pointsBy_38 ?_
          obtain ⟨v10, ev10, hf⟩ := bn_ok hf
          replace ev10 := Option.some.inj ev10
          refine lv_ren ev10 ?_
          refine lv_istore_n (lv' := [(2, .int v10), (4, va_rf (Option.map (B + ·) r2)), (0, .ref (B + 7)), (1, .ref (B + 13)), (3, .int x3)]) X.1 X.2.1 dX6_pointsBy_39 rfl hl (by decide) rfl (fun ls hl => ?_)
          exact w_X6_pointsBy_40 X (fn_X6_pointsBy_4 n) ih _ _ _ _ _ _ hf hw (lv_sub hl [2, 3, 0, 4] rfl)
theorem hd_X6_pointsBy : yX6_pointsBy.cls = RX6 ∧ yX6_pointsBy.cls ≠ "java/lang/invoke/MethodHandle" ∧ yX6_pointsBy.cls ≠ "java/lang/invoke/VarHandle" ∧ (parseMethodDescriptor yX6_pointsBy.desc).map (fun d => d.parameters.length) = some 1 := by decide +kernel
set_option maxHeartbeats 4000000 in
theorem c_X6_pointsBy (l : Launch) (D : va_G) (B : Nat) (cy : Nat → ClassId) (A : Nat → Prop) (ad av : Nat → Nat)  {S Z : HS} {rv : Int32} (hfr : hFr S) (hG : hC S) (hf : fn_X6_pointsBy S = some (rv, Z)) : hMet l yX6_pointsBy cX6_pointsBy 5 (some .int) ({ frames := 1, cells := 0, slots := 0, locals := 24 } : Room) D B cy A ad av true hC [.ref (B + 7), .ref (B + 13)] S Z (some (.int rv)) 0 0 := by
  refine h_entry (by decide) hfr hG ?_
  intro p e s m below meth c args X hnm hw
  have hl := lv_entry ([.ref (B + 7), .ref (B + 13)]) (n := 5) (Nat.le_of_ble_eq_true rfl)
  rw [lg_entry_eq]
  generalize (lg_sl ([.ref (B + 7), .ref (B + 13)]) ++ List.replicate (5 - (lg_sl ([.ref (B + 7), .ref (B + 13)])).length) Slot.unset).toArray = ls at hl ⊢
  have hl : lv_has ls 5 [(0, .ref (B + 7)), (1, .ref (B + 13))] := hl
  unfold fn_X6_pointsBy at hf
  refine lv_iconst (v := 0) X.1 X.2.1 dX6_pointsBy_0 (by decide) ?_
  refine lv_istore_n (lv' := [(2, .int 0), (0, .ref (B + 7)), (1, .ref (B + 13))]) X.1 X.2.1 dX6_pointsBy_1 rfl hl (by decide) rfl (fun ls hl => ?_)
  refine lv_iconst (v := 0) X.1 X.2.1 dX6_pointsBy_2 (by decide) ?_
  refine lv_istore_n (lv' := [(3, .int 0), (2, .int 0), (0, .ref (B + 7)), (1, .ref (B + 13))]) X.1 X.2.1 dX6_pointsBy_3 rfl hl (by decide) rfl (fun ls hl => ?_)
  exact w_X6_pointsBy_4 X  _ _ _ _ _ _ _ hf hw (lv_sub hl [2, 3, 1, 0] rfl)
set_option maxHeartbeats 4000000 in
theorem w_X6_gradeBy_55 {p : Program} {l : Launch} {e : Env} {s : State} {m : MethodId} {args : Array Value} {below : List Frame} {meth : Method} {c : Code} {D : va_G} {B : Nat} {cy : Nat → ClassId} {A : Nat → Prop} {ad av : Nat → Nat} {rv : Int32} {Z : HS} (X : hCX p s m args meth c RX6 cX6_gradeBy 6 (some .int) D cy A ad av) (k7 : Int32 → Int32 → Int32 → Int32 → HS → Option (Int32 × HS)) (hk7 : ∀ (x1 : Int32) (x2 : Int32) (x3 : Int32) (x4 : Int32) (S : HS) (H : Heap) (locs : List Loc) (ls : Array Slot), k7 x1 x2 x3 x4 S = some (rv, Z) → hWd D B cy A true hC S s.heap H locs → lv_has ls 6 [(0, .ref (B + 7)), (1, .int x1), (2, .int x2), (3, .int x3), (4, .int x4)] → W p l e ({ frames := 1, cells := 0, slots := 0, locals := 24 } : Room) s m args below meth c H locs 0 0 (MQ below (hQo D B cy A true hC Z (some (.int rv))) args s 0 0 A) (F0 m 7 ls [])) (x1 : Int32) (x2 : Int32) (x3 : Int32) (x4 : Int32) (S : HS) (H : Heap) (locs : List Loc) (ls : Array Slot) (hf : fn_X6_gradeBy_55 k7 x1 x2 x3 x4 S = some (rv, Z)) (hw : hWd D B cy A true hC S s.heap H locs) (hl : lv_has ls 6 [(0, .ref (B + 7)), (1, .int x1), (2, .int x2), (3, .int x3), (4, .int x4)]) : W p l e ({ frames := 1, cells := 0, slots := 0, locals := 24 } : Room) s m args below meth c H locs 0 0 (MQ below (hQo D B cy A true hC Z (some (.int rv))) args s 0 0 A) (F0 m 55 ls []) := by
  unfold fn_X6_gradeBy_55 at hf
  obtain ⟨v1, ev1, hf⟩ := bn_ok hf
  replace ev1 := Option.some.inj ev1
  refine lv_iinc (v := v1) (lv' := [(4, .int v1), (0, .ref (B + 7)), (1, .int x1), (2, .int x2), (3, .int x3)]) X.1 X.2.1 dX6_gradeBy_55 hl (k := 4) rfl ev1 (by decide) rfl (fun ls hl => ?_)
  refine lv_goto (tgt := 7) X.1 X.2.1 dX6_gradeBy_58 (by decide) ?_
  exact hk7 _ _ _ _ _ _ _ _ hf hw (lv_sub hl [1, 2, 3, 4, 0] rfl)
set_option maxHeartbeats 4000000 in
theorem w_X6_gradeBy_7 {p : Program} {l : Launch} {e : Env} {s : State} {m : MethodId} {args : Array Value} {below : List Frame} {meth : Method} {c : Code} {D : va_G} {B : Nat} {cy : Nat → ClassId} {A : Nat → Prop} {ad av : Nat → Nat} {rv : Int32} {Z : HS} (X : hCX p s m args meth c RX6 cX6_gradeBy 6 (some .int) D cy A ad av)  : ∀ (n : Nat) (x1 : Int32) (x2 : Int32) (x3 : Int32) (x4 : Int32) (S : HS) (H : Heap) (locs : List Loc) (ls : Array Slot), fn_X6_gradeBy_7 n x1 x2 x3 x4 S = some (rv, Z) → hWd D B cy A true hC S s.heap H locs → lv_has ls 6 [(0, .ref (B + 7)), (1, .int x1), (2, .int x2), (3, .int x3), (4, .int x4)] → W p l e ({ frames := 1, cells := 0, slots := 0, locals := 24 } : Room) s m args below meth c H locs 0 0 (MQ below (hQo D B cy A true hC Z (some (.int rv))) args s 0 0 A) (F0 m 7 ls []) := by
  intro n
  induction n with
  | zero =>
    intro x1 x2 x3 x4 S H locs ls hf
    cases hf
  | succ n ih =>
    intro x1 x2 x3 x4 S H locs ls hf hw hl
    rw [fn_X6_gradeBy_7] at hf
    refine lv_iload X.1 X.2.1 dX6_gradeBy_7 (lv_at hl 4 rfl) ?_
    refine lv_bipush (v := 26) X.1 X.2.1 dX6_gradeBy_9 (by decide) ?_
    refine lv_icmp_ge (tgt := 61) X.1 X.2.1 dX6_gradeBy_11 (by decide) (fun hq => ?_) (fun hq => ?_)
    · replace hf := cd_tk hq hf
      refine lv_iload_n X.1 X.2.1 dX6_gradeBy_61 rfl (lv_at hl 2 rfl) ?_
      cases hf
      exact r_iret X hw dX6_gradeBy_62
    · replace hf := cd_fk hq hf
      refine lv_aload_n X.1 X.2.1 dX6_gradeBy_14 rfl (lv_at hl 0 rfl) ?_
      refine lv_iconst (v := 1) X.1 X.2.1 dX6_gradeBy_15 (by decide) ?_
      refine lv_iload X.1 X.2.1 dX6_gradeBy_16 (lv_at hl 4 rfl) ?_
      obtain ⟨r2, S1, hS1, hf⟩ := bn2_ok hf
      refine r_callV (As := [.int 1, .int x4]) (rest := []) (st1 := [va_rf (Option.map (B + ·) r2)]) (κ := 7) X hw (c_X6_lineOf l D B cy A ad av 1 x4 hw.2.2.2.2.1 hw.2.2.2.2.2 hS1) ⟨rfl, rfl, Nat.le_of_ble_eq_true rfl, Nat.le_of_ble_eq_true rfl⟩ rfl (by decide) (hCk hw.2.2.2.2.2 7 (by decide) rfl) tw_661 tw_662 tw_663 tw_27 tw_664 hd_X6_lineOf rfl hl.1 rfl (Nat.le_of_ble_eq_true rfl) dX6_gradeBy_18 ⟨Nat.le_of_ble_eq_true rfl, Nat.le_of_ble_eq_true rfl⟩ rfl (fun H locs hw => ?_)
      refine r_astoreO (lv' := [(5, va_rf (Option.map (B + ·) r2)), (0, .ref (B + 7)), (1, .int x1), (2, .int x2), (3, .int x3), (4, .int x4)]) X.1 X.2.1 dX6_gradeBy_21 hl (by decide) rfl (fun ls hl => ?_)
      refine r_aloadO X.1 X.2.1 dX6_gradeBy_23 (lv_at hl 0 rfl) ?_
      refine r_ifnull (tgt := 55) X.1 X.2.1 dX6_gradeBy_25 (by decide) (fun hq => ?_) (fun c3 hq => ?_)
      · replace hf := cs_nk hq hf
        exact w_X6_gradeBy_55 X (fn_X6_gradeBy_7 n) ih _ _ _ _ _ _ _ _ hf hw (lv_sub hl [1, 2, 3, 4, 5] rfl)
      · replace hf := cs_sk hq hf
        refine r_aloadO X.1 X.2.1 dX6_gradeBy_28 (lv_at hl 0 rfl) ?_
        obtain ⟨c4, ec4, hf⟩ := bn_ok hf
        rw [ec4]
        obtain ⟨g5, hf⟩ := gd_ok hf
        refine r_getI X hw (κ := 3) rfl inlX2 8 (by decide) rfl (by decide) tw_660 g5 dX6_gradeBy_30 ?_
        refine lv_iload_n X.1 X.2.1 dX6_gradeBy_33 rfl (lv_at hl 2 rfl) ?_
        refine lv_icmp_gt (tgt := 55) X.1 X.2.1 dX6_gradeBy_34 (by decide) (fun hq => ?_) (fun hq => ?_)
        · replace hf := cd_tk hq hf
          exact w_X6_gradeBy_55 X (fn_X6_gradeBy_7 n) ih _ _ _ _ _ _ _ _ hf hw (lv_sub hl [1, 2, 3, 4, 5] rfl)
        · replace hf := cd_fk hq hf
          refine r_aloadO X.1 X.2.1 dX6_gradeBy_37 (lv_at hl 0 rfl) ?_
          obtain ⟨c6, ec6, hf⟩ := bn_ok hf
          rw [ec6]
          obtain ⟨g7, hf⟩ := gd_ok hf
          refine r_getI X hw (κ := 3) rfl inlX2 8 (by decide) rfl (by decide) tw_660 g7 dX6_gradeBy_39 ?_
          refine lv_iload_n X.1 X.2.1 dX6_gradeBy_42 rfl (lv_at hl 4 rfl) ?_
          refine lv_icmp_le (tgt := 55) X.1 X.2.1 dX6_gradeBy_43 (by decide) (fun hq => ?_) (fun hq => ?_)
          · replace hf := cd_tk hq hf
            exact w_X6_gradeBy_55 X (fn_X6_gradeBy_7 n) ih _ _ _ _ _ _ _ _ hf hw (lv_sub hl [1, 2, 3, 4, 5] rfl)
          · replace hf := cd_fk hq hf
            refine lv_iload X.1 X.2.1 dX6_gradeBy_46 (lv_at hl 5 rfl) ?_
            refine lv_istore_n (lv' := [(2, .int x4), (5, va_rf (Option.map (B + ·) r2)), (0, .ref (B + 7)), (1, .int x1), (3, .int x3), (4, .int x4)]) X.1 X.2.1 dX6_gradeBy_48 rfl hl (by decide) rfl (fun ls hl => ?_)
            refine r_aloadO X.1 X.2.1 dX6_gradeBy_49 (lv_at hl 1 rfl) ?_
            obtain ⟨c8, ec8, hf⟩ := bn_ok hf
            rw [ec8]
            obtain ⟨g9, hf⟩ := gd_ok hf
            refine r_getI X hw (κ := 3) rfl inlX2 8 (by decide) rfl (by decide) tw_660 g9 dX6_gradeBy_51 ?_
            obtain ⟨v10, ev10, hf⟩ := bn_ok hf
            replace ev10 := Option.some.inj ev10
            refine lv_ren ev10 ?_
            refine lv_istore_n (lv' := [(3, .int v10), (2, .int x4), (5, va_rf (Option.map (B + ·) r2)), (0, .ref (B + 7)), (1, .int x1), (4, .int x4)]) X.1 X.2.1 dX6_gradeBy_54 rfl hl (by decide) rfl (fun ls hl => ?_)
            exact w_X6_gradeBy_55 X (fn_X6_gradeBy_7 n) ih _ _ _ _ _ _ _ _ hf hw (lv_sub hl [3, 4, 1, 0, 5] rfl)
theorem hd_X6_gradeBy : yX6_gradeBy.cls = RX6 ∧ yX6_gradeBy.cls ≠ "java/lang/invoke/MethodHandle" ∧ yX6_gradeBy.cls ≠ "java/lang/invoke/VarHandle" ∧ (parseMethodDescriptor yX6_gradeBy.desc).map (fun d => d.parameters.length) = some 1 := by decide +kernel
set_option maxHeartbeats 4000000 in
theorem c_X6_gradeBy (l : Launch) (D : va_G) (B : Nat) (cy : Nat → ClassId) (A : Nat → Prop) (ad av : Nat → Nat) (x1 : Int32) {S Z : HS} {rv : Int32} (hfr : hFr S) (hG : hC S) (hf : fn_X6_gradeBy x1 S = some (rv, Z)) : hMet l yX6_gradeBy cX6_gradeBy 6 (some .int) ({ frames := 1, cells := 0, slots := 0, locals := 24 } : Room) D B cy A ad av true hC [.ref (B + 7), .int x1] S Z (some (.int rv)) 0 0 := by
  refine h_entry (by decide) hfr hG ?_
  intro p e s m below meth c args X hnm hw
  have hl := lv_entry ([.ref (B + 7), .int x1]) (n := 6) (Nat.le_of_ble_eq_true rfl)
  rw [lg_entry_eq]
  generalize (lg_sl ([.ref (B + 7), .int x1]) ++ List.replicate (6 - (lg_sl ([.ref (B + 7), .int x1])).length) Slot.unset).toArray = ls at hl ⊢
  have hl : lv_has ls 6 [(0, .ref (B + 7)), (1, .int x1)] := hl
  unfold fn_X6_gradeBy at hf
  refine lv_iconst (v := (-1)) X.1 X.2.1 dX6_gradeBy_0 (by decide) ?_
  refine lv_istore_n (lv' := [(2, .int (-1)), (0, .ref (B + 7)), (1, .int x1)]) X.1 X.2.1 dX6_gradeBy_1 rfl hl (by decide) rfl (fun ls hl => ?_)
  refine lv_iconst (v := (-1)) X.1 X.2.1 dX6_gradeBy_2 (by decide) ?_
  refine lv_istore_n (lv' := [(3, .int (-1)), (2, .int (-1)), (0, .ref (B + 7)), (1, .int x1)]) X.1 X.2.1 dX6_gradeBy_3 rfl hl (by decide) rfl (fun ls hl => ?_)
  refine lv_iconst (v := 0) X.1 X.2.1 dX6_gradeBy_4 (by decide) ?_
  refine lv_istore (lv' := [(4, .int 0), (3, .int (-1)), (2, .int (-1)), (0, .ref (B + 7)), (1, .int x1)]) X.1 X.2.1 dX6_gradeBy_5 hl (by decide) rfl (fun ls hl => ?_)
  exact w_X6_gradeBy_7 X  _ _ _ _ _ _ _ _ _ hf hw (lv_sub hl [3, 4, 2, 1, 0] rfl)
set_option maxHeartbeats 4000000 in
theorem w_X6_amountBy_61 {p : Program} {l : Launch} {e : Env} {s : State} {m : MethodId} {args : Array Value} {below : List Frame} {meth : Method} {c : Code} {D : va_G} {B : Nat} {cy : Nat → ClassId} {A : Nat → Prop} {ad av : Nat → Nat} {rv : Int32} {Z : HS} (X : hCX p s m args meth c RX6 cX6_amountBy 6 (some .int) D cy A ad av) (k8 : Int32 → Int32 → Int32 → HS → Option (Int32 × HS)) (hk8 : ∀ (x1 : Int32) (x3 : Int32) (x4 : Int32) (S : HS) (H : Heap) (locs : List Loc) (ls : Array Slot), k8 x1 x3 x4 S = some (rv, Z) → hWd D B cy A true hC S s.heap H locs → lv_has ls 6 [(0, .ref (B + 7)), (1, .int x1), (2, .ref (B + 13)), (3, .int x3), (4, .int x4)] → W p l e ({ frames := 1, cells := 0, slots := 0, locals := 24 } : Room) s m args below meth c H locs 0 0 (MQ below (hQo D B cy A true hC Z (some (.int rv))) args s 0 0 A) (F0 m 8 ls [])) (x1 : Int32) (x3 : Int32) (x4 : Int32) (S : HS) (H : Heap) (locs : List Loc) (ls : Array Slot) (hf : fn_X6_amountBy_61 k8 x1 x3 x4 S = some (rv, Z)) (hw : hWd D B cy A true hC S s.heap H locs) (hl : lv_has ls 6 [(0, .ref (B + 7)), (1, .int x1), (2, .ref (B + 13)), (3, .int x3), (4, .int x4)]) : W p l e ({ frames := 1, cells := 0, slots := 0, locals := 24 } : Room) s m args below meth c H locs 0 0 (MQ below (hQo D B cy A true hC Z (some (.int rv))) args s 0 0 A) (F0 m 61 ls []) := by
  unfold fn_X6_amountBy_61 at hf
  obtain ⟨v1, ev1, hf⟩ := bn_ok hf
  replace ev1 := Option.some.inj ev1
  refine lv_iinc (v := v1) (lv' := [(4, .int v1), (0, .ref (B + 7)), (1, .int x1), (2, .ref (B + 13)), (3, .int x3)]) X.1 X.2.1 dX6_amountBy_61 hl (k := 4) rfl ev1 (by decide) rfl (fun ls hl => ?_)
  refine lv_goto (tgt := 8) X.1 X.2.1 dX6_amountBy_64 (by decide) ?_
  exact hk8 _ _ _ _ _ _ _ hf hw (lv_sub hl [1, 2, 3, 4, 0] rfl)
set_option maxHeartbeats 4000000 in
theorem w_X6_amountBy_58 {p : Program} {l : Launch} {e : Env} {s : State} {m : MethodId} {args : Array Value} {below : List Frame} {meth : Method} {c : Code} {D : va_G} {B : Nat} {cy : Nat → ClassId} {A : Nat → Prop} {ad av : Nat → Nat} {rv : Int32} {Z : HS} (X : hCX p s m args meth c RX6 cX6_amountBy 6 (some .int) D cy A ad av) (k8 : Int32 → Int32 → Int32 → HS → Option (Int32 × HS)) (hk8 : ∀ (x1 : Int32) (x3 : Int32) (x4 : Int32) (S : HS) (H : Heap) (locs : List Loc) (ls : Array Slot), k8 x1 x3 x4 S = some (rv, Z) → hWd D B cy A true hC S s.heap H locs → lv_has ls 6 [(0, .ref (B + 7)), (1, .int x1), (2, .ref (B + 13)), (3, .int x3), (4, .int x4)] → W p l e ({ frames := 1, cells := 0, slots := 0, locals := 24 } : Room) s m args below meth c H locs 0 0 (MQ below (hQo D B cy A true hC Z (some (.int rv))) args s 0 0 A) (F0 m 8 ls [])) (x1 : Int32) (x4 : Int32) (y0 : Int32) (y1 : Int32) (y2 : Int32) (S : HS) (H : Heap) (locs : List Loc) (ls : Array Slot) (hf : fn_X6_amountBy_58 k8 x1 x4 y0 y1 y2 S = some (rv, Z)) (hw : hWd D B cy A true hC S s.heap H locs) (hl : lv_has ls 6 [(0, .ref (B + 7)), (1, .int x1), (2, .ref (B + 13)), (4, .int x4)]) : W p l e ({ frames := 1, cells := 0, slots := 0, locals := 24 } : Room) s m args below meth c H locs 0 0 (MQ below (hQo D B cy A true hC Z (some (.int rv))) args s 0 0 A) (F0 m 58 ls [.int y0, .int y1, .int y2]) := by
  unfold fn_X6_amountBy_58 at hf
  refine lv_imul X.1 X.2.1 dX6_amountBy_58 ?_
  refine lv_iadd X.1 X.2.1 dX6_amountBy_59 ?_
  obtain ⟨v1, ev1, hf⟩ := bn_ok hf
  replace ev1 := Option.some.inj ev1
  refine lv_ren ev1 ?_
  refine lv_istore_n (lv' := [(3, .int v1), (0, .ref (B + 7)), (1, .int x1), (2, .ref (B + 13)), (4, .int x4)]) X.1 X.2.1 dX6_amountBy_60 rfl hl (by decide) rfl (fun ls hl => ?_)
  exact w_X6_amountBy_61 X k8 hk8 _ _ _ _ _ _ _ hf hw (lv_sub hl [1, 2, 3, 0, 4] rfl)
set_option maxHeartbeats 4000000 in
theorem w_X6_amountBy_8 {p : Program} {l : Launch} {e : Env} {s : State} {m : MethodId} {args : Array Value} {below : List Frame} {meth : Method} {c : Code} {D : va_G} {B : Nat} {cy : Nat → ClassId} {A : Nat → Prop} {ad av : Nat → Nat} {rv : Int32} {Z : HS} (X : hCX p s m args meth c RX6 cX6_amountBy 6 (some .int) D cy A ad av)  : ∀ (n : Nat) (x1 : Int32) (x3 : Int32) (x4 : Int32) (S : HS) (H : Heap) (locs : List Loc) (ls : Array Slot), fn_X6_amountBy_8 n x1 x3 x4 S = some (rv, Z) → hWd D B cy A true hC S s.heap H locs → lv_has ls 6 [(0, .ref (B + 7)), (1, .int x1), (2, .ref (B + 13)), (3, .int x3), (4, .int x4)] → W p l e ({ frames := 1, cells := 0, slots := 0, locals := 24 } : Room) s m args below meth c H locs 0 0 (MQ below (hQo D B cy A true hC Z (some (.int rv))) args s 0 0 A) (F0 m 8 ls []) := by
  intro n
  induction n with
  | zero =>
    intro x1 x3 x4 S H locs ls hf
    cases hf
  | succ n ih =>
    intro x1 x3 x4 S H locs ls hf hw hl
    rw [fn_X6_amountBy_8] at hf
    refine lv_iload X.1 X.2.1 dX6_amountBy_8 (lv_at hl 4 rfl) ?_
    refine lv_bipush (v := 26) X.1 X.2.1 dX6_amountBy_10 (by decide) ?_
    refine lv_icmp_ge (tgt := 67) X.1 X.2.1 dX6_amountBy_12 (by decide) (fun hq => ?_) (fun hq => ?_)
    · replace hf := cd_tk hq hf
      refine lv_iload_n X.1 X.2.1 dX6_amountBy_67 rfl (lv_at hl 3 rfl) ?_
      cases hf
      exact r_iret X hw dX6_amountBy_68
    · replace hf := cd_fk hq hf
      refine lv_aload_n X.1 X.2.1 dX6_amountBy_15 rfl (lv_at hl 0 rfl) ?_
      refine lv_iconst (v := 5) X.1 X.2.1 dX6_amountBy_16 (by decide) ?_
      refine lv_iload X.1 X.2.1 dX6_amountBy_17 (lv_at hl 4 rfl) ?_
      obtain ⟨r2, S1, hS1, hf⟩ := bn2_ok hf
      refine r_callV (As := [.int 5, .int x4]) (rest := []) (st1 := [va_rf (Option.map (B + ·) r2)]) (κ := 7) X hw (c_X6_lineOf l D B cy A ad av 5 x4 hw.2.2.2.2.1 hw.2.2.2.2.2 hS1) ⟨rfl, rfl, Nat.le_of_ble_eq_true rfl, Nat.le_of_ble_eq_true rfl⟩ rfl (by decide) (hCk hw.2.2.2.2.2 7 (by decide) rfl) tw_661 tw_662 tw_663 tw_27 tw_664 hd_X6_lineOf rfl hl.1 rfl (Nat.le_of_ble_eq_true rfl) dX6_amountBy_19 ⟨Nat.le_of_ble_eq_true rfl, Nat.le_of_ble_eq_true rfl⟩ rfl (fun H locs hw => ?_)
      refine r_astoreO (lv' := [(5, va_rf (Option.map (B + ·) r2)), (0, .ref (B + 7)), (1, .int x1), (2, .ref (B + 13)), (3, .int x3), (4, .int x4)]) X.1 X.2.1 dX6_amountBy_22 hl (by decide) rfl (fun ls hl => ?_)
      refine r_aloadO X.1 X.2.1 dX6_amountBy_24 (lv_at hl 0 rfl) ?_
      refine r_ifnull (tgt := 61) X.1 X.2.1 dX6_amountBy_26 (by decide) (fun hq => ?_) (fun c3 hq => ?_)
      · replace hf := cs_nk hq hf
        exact w_X6_amountBy_61 X (fn_X6_amountBy_8 n) ih _ _ _ _ _ _ _ hf hw (lv_sub hl [1, 2, 3, 4, 5] rfl)
      · replace hf := cs_sk hq hf
        refine r_aloadO X.1 X.2.1 dX6_amountBy_29 (lv_at hl 0 rfl) ?_
        refine lv_aload_n X.1 X.2.1 dX6_amountBy_31 rfl (lv_at hl 3 rfl) ?_
        obtain ⟨c4, ec4, hf⟩ := bn_ok hf
        rw [ec4]
        obtain ⟨g5, hf⟩ := gd_ok hf
        obtain ⟨r7, S6, hS6, hf⟩ := bn2_ok hf
        refine r_callV (As := [.ref (B + 13)]) (rest := []) (st1 := [.int r7]) (κ := 3) X hw (c_X2_holds l D B cy A ad av c4 hw.2.2.2.2.1 hw.2.2.2.2.2 hS6) ⟨rfl, rfl, Nat.le_of_ble_eq_true rfl, Nat.le_of_ble_eq_true rfl⟩ rfl (by decide) g5 tw_666 tw_667 tw_668 tw_281 tw_669 hd_X2_holds rfl hl.1 rfl (Nat.le_of_ble_eq_true rfl) dX6_amountBy_32 ⟨Nat.le_of_ble_eq_true rfl, Nat.le_of_ble_eq_true rfl⟩ rfl (fun H locs hw => ?_)
        refine lv_if_eq (tgt := 61) X.1 X.2.1 dX6_amountBy_35 (by decide) (fun hq => ?_) (fun hq => ?_)
        · replace hf := cd_tk hq hf
          exact w_X6_amountBy_61 X (fn_X6_amountBy_8 n) ih _ _ _ _ _ _ _ hf hw (lv_sub hl [1, 2, 3, 4, 5] rfl)
        · replace hf := cd_fk hq hf
          refine lv_iload_n X.1 X.2.1 dX6_amountBy_38 rfl (lv_at hl 4 rfl) ?_
          refine r_aloadO X.1 X.2.1 dX6_amountBy_39 (lv_at hl 0 rfl) ?_
          obtain ⟨c8, ec8, hf⟩ := bn_ok hf
          rw [ec8]
          obtain ⟨g9, hf⟩ := gd_ok hf
          refine r_getI X hw (κ := 3) rfl inlX2 8 (by decide) rfl (by decide) tw_660 g9 dX6_amountBy_41 ?_
          refine r_aloadO X.1 X.2.1 dX6_amountBy_44 (lv_at hl 0 rfl) ?_
          obtain ⟨c10, ec10, hf⟩ := bn_ok hf
          rw [ec10]
          obtain ⟨g11, hf⟩ := gd_ok hf
          refine r_getI X hw (κ := 3) rfl inlX2 9 (by decide) rfl (by decide) tw_702 g11 dX6_amountBy_46 ?_
          refine lv_if_eq (tgt := 56) X.1 X.2.1 dX6_amountBy_49 (by decide) (fun hq => ?_) (fun hq => ?_)
          · replace hf := cd_tk hq hf
            refine lv_bipush (v := 100) X.1 X.2.1 dX6_amountBy_56 (by decide) ?_
            exact w_X6_amountBy_58 X (fn_X6_amountBy_8 n) ih _ _ _ _ _ _ _ _ _ hf hw (lv_sub hl [1, 2, 3, 5] rfl)
          · replace hf := cd_fk hq hf
            refine lv_iload_n X.1 X.2.1 dX6_amountBy_52 rfl (lv_at hl 2 rfl) ?_
            refine lv_goto (tgt := 58) X.1 X.2.1 dX6_amountBy_53 (by decide) ?_
            exact w_X6_amountBy_58 X (fn_X6_amountBy_8 n) ih _ _ _ _ _ _ _ _ _ hf hw (lv_sub hl [1, 2, 3, 5] rfl)
theorem hd_X6_amountBy : yX6_amountBy.cls = RX6 ∧ yX6_amountBy.cls ≠ "java/lang/invoke/MethodHandle" ∧ yX6_amountBy.cls ≠ "java/lang/invoke/VarHandle" ∧ (parseMethodDescriptor yX6_amountBy.desc).map (fun d => d.parameters.length) = some 2 := by decide +kernel
set_option maxHeartbeats 4000000 in
theorem c_X6_amountBy (l : Launch) (D : va_G) (B : Nat) (cy : Nat → ClassId) (A : Nat → Prop) (ad av : Nat → Nat) (x1 : Int32) {S Z : HS} {rv : Int32} (hfr : hFr S) (hG : hC S) (hf : fn_X6_amountBy x1 S = some (rv, Z)) : hMet l yX6_amountBy cX6_amountBy 6 (some .int) ({ frames := 1, cells := 0, slots := 0, locals := 24 } : Room) D B cy A ad av true hC [.ref (B + 7), .int x1, .ref (B + 13)] S Z (some (.int rv)) 0 0 := by
  refine h_entry (by decide) hfr hG ?_
  intro p e s m below meth c args X hnm hw
  have hl := lv_entry ([.ref (B + 7), .int x1, .ref (B + 13)]) (n := 6) (Nat.le_of_ble_eq_true rfl)
  rw [lg_entry_eq]
  generalize (lg_sl ([.ref (B + 7), .int x1, .ref (B + 13)]) ++ List.replicate (6 - (lg_sl ([.ref (B + 7), .int x1, .ref (B + 13)])).length) Slot.unset).toArray = ls at hl ⊢
  have hl : lv_has ls 6 [(0, .ref (B + 7)), (1, .int x1), (2, .ref (B + 13))] := hl
  unfold fn_X6_amountBy at hf
  refine lv_bipush (v := 100) X.1 X.2.1 dX6_amountBy_0 (by decide) ?_
  refine lv_iload_n X.1 X.2.1 dX6_amountBy_2 rfl (lv_at hl 1 rfl) ?_
  refine lv_imul X.1 X.2.1 dX6_amountBy_3 ?_
  obtain ⟨v1, ev1, hf⟩ := bn_ok hf
  replace ev1 := Option.some.inj ev1
  refine lv_ren ev1 ?_
  refine lv_istore_n (lv' := [(3, .int v1), (0, .ref (B + 7)), (1, .int x1), (2, .ref (B + 13))]) X.1 X.2.1 dX6_amountBy_4 rfl hl (by decide) rfl (fun ls hl => ?_)
  refine lv_iconst (v := 0) X.1 X.2.1 dX6_amountBy_5 (by decide) ?_
  refine lv_istore (lv' := [(4, .int 0), (3, .int v1), (0, .ref (B + 7)), (1, .int x1), (2, .ref (B + 13))]) X.1 X.2.1 dX6_amountBy_6 hl (by decide) rfl (fun ls hl => ?_)
  exact w_X6_amountBy_8 X  _ _ _ _ _ _ _ _ hf hw (lv_sub hl [2, 3, 4, 1, 0] rfl)
set_option maxHeartbeats 4000000 in
theorem w_X1_stepAfter_14 {p : Program} {l : Launch} {e : Env} {s : State} {m : MethodId} {args : Array Value} {below : List Frame} {meth : Method} {c : Code} {D : va_G} {B : Nat} {cy : Nat → ClassId} {A : Nat → Prop} {ad av : Nat → Nat} {rv : Int32} {Z : HS} (X : hCX p s m args meth c RX1 cX1_stepAfter 2 (some .int) D cy A ad av)   (S : HS) (H : Heap) (locs : List Loc) (ls : Array Slot) (hf : fn_X1_stepAfter_14 S = some (rv, Z)) (hw : hWd D B cy A true hC S s.heap H locs) (hl : lv_has ls 2 []) : W p l e ({ frames := 1, cells := 0, slots := 0, locals := 21 } : Room) s m args below meth c H locs 0 0 (MQ below (hQo D B cy A true hC Z (some (.int rv))) args s 0 0 A) (F0 m 14 ls []) := by
  unfold fn_X1_stepAfter_14 at hf
  refine lv_iconst (v := (-1)) X.1 X.2.1 dX1_stepAfter_14 (by decide) ?_
  cases hf
  exact r_iret X hw dX1_stepAfter_15
theorem hd_X1_stepAfter : yX1_stepAfter.cls = RX1 ∧ yX1_stepAfter.cls ≠ "java/lang/invoke/MethodHandle" ∧ yX1_stepAfter.cls ≠ "java/lang/invoke/VarHandle" ∧ (parseMethodDescriptor yX1_stepAfter.desc).map (fun d => d.parameters.length) = some 1 := by decide +kernel
set_option maxHeartbeats 4000000 in
theorem c_X1_stepAfter (l : Launch) (D : va_G) (B : Nat) (cy : Nat → ClassId) (A : Nat → Prop) (ad av : Nat → Nat) (x1 : Int32) {S Z : HS} {rv : Int32} (hfr : hFr S) (hG : hC S) (hf : fn_X1_stepAfter x1 S = some (rv, Z)) : hMet l yX1_stepAfter cX1_stepAfter 2 (some .int) ({ frames := 1, cells := 0, slots := 0, locals := 21 } : Room) D B cy A ad av true hC [.ref (B + 12), .int x1] S Z (some (.int rv)) 0 0 := by
  refine h_entry (by decide) hfr hG ?_
  intro p e s m below meth c args X hnm hw
  have hl := lv_entry ([.ref (B + 12), .int x1]) (n := 2) (Nat.le_of_ble_eq_true rfl)
  rw [lg_entry_eq]
  generalize (lg_sl ([.ref (B + 12), .int x1]) ++ List.replicate (2 - (lg_sl ([.ref (B + 12), .int x1])).length) Slot.unset).toArray = ls at hl ⊢
  have hl : lv_has ls 2 [(0, .ref (B + 12)), (1, .int x1)] := hl
  unfold fn_X1_stepAfter at hf
  refine lv_aload_n X.1 X.2.1 dX1_stepAfter_0 rfl (lv_at hl 0 rfl) ?_
  refine r_getR X hw (κ := 2) rfl inlX1 0 (by decide) rfl (by decide) tw_654 (hCk hw.2.2.2.2.2 12 (by decide) rfl) dX1_stepAfter_1 ?_
  refine r_ifnull (tgt := 14) X.1 X.2.1 dX1_stepAfter_4 (by decide) (fun hq => ?_) (fun c1 hq => ?_)
  · replace hf := cs_nk hq hf
    exact w_X1_stepAfter_14 X  _ _ _ _ hf hw (lv_sub hl [] rfl)
  · replace hf := cs_sk hq hf
    refine lv_aload_n X.1 X.2.1 dX1_stepAfter_7 rfl (lv_at hl 0 rfl) ?_
    refine r_getI X hw (κ := 2) rfl inlX1 1 (by decide) rfl (by decide) tw_655 (hCk hw.2.2.2.2.2 12 (by decide) rfl) dX1_stepAfter_8 ?_
    refine lv_if_gt (tgt := 16) X.1 X.2.1 dX1_stepAfter_11 (by decide) (fun hq => ?_) (fun hq => ?_)
    · replace hf := cd_tk hq hf
      refine lv_iload_n X.1 X.2.1 dX1_stepAfter_16 rfl (lv_at hl 1 rfl) ?_
      refine lv_aload_n X.1 X.2.1 dX1_stepAfter_17 rfl (lv_at hl 0 rfl) ?_
      refine r_getI X hw (κ := 2) rfl inlX1 1 (by decide) rfl (by decide) tw_655 (hCk hw.2.2.2.2.2 12 (by decide) rfl) dX1_stepAfter_18 ?_
      obtain ⟨hq, hf⟩ := gd_ok hf
      refine lv_idiv X.1 X.2.1 dX1_stepAfter_21 hq ?_
      refine lv_aload_n X.1 X.2.1 dX1_stepAfter_22 rfl (lv_at hl 0 rfl) ?_
      refine r_getR X hw (κ := 2) rfl inlX1 0 (by decide) rfl (by decide) tw_654 (hCk hw.2.2.2.2.2 12 (by decide) rfl) dX1_stepAfter_23 ?_
      obtain ⟨c2, ec2, hf⟩ := bn_ok hf
      rw [ec2]
      obtain ⟨g3, hf⟩ := gd_ok hf
      refine r_getI X hw (κ := 3) rfl inlX2 3 (by decide) rfl (by decide) tw_685 g3 dX1_stepAfter_26 ?_
      refine lv_iconst (v := 1) X.1 X.2.1 dX1_stepAfter_29 (by decide) ?_
      refine lv_isub X.1 X.2.1 dX1_stepAfter_30 ?_
      refine r_mmin X hl.1 tw_686 (by decide) (Nat.le_of_ble_eq_true rfl) (by decide) (by decide) dX1_stepAfter_31 ?_
      cases hf
      exact r_iret X hw dX1_stepAfter_34
    · replace hf := cd_fk hq hf
      exact w_X1_stepAfter_14 X  _ _ _ _ hf hw (lv_sub hl [] rfl)
set_option maxHeartbeats 4000000 in
theorem w_X1_moveStep_25 {p : Program} {l : Launch} {e : Env} {s : State} {m : MethodId} {args : Array Value} {below : List Frame} {meth : Method} {c : Code} {D : va_G} {B : Nat} {cy : Nat → ClassId} {A : Nat → Prop} {ad av : Nat → Nat} {Z : HS} (X : hCX p s m args meth c RX1 cX1_moveStep 4 none D cy A ad av)  (y0 : Int32) (S : HS) (H : Heap) (locs : List Loc) (ls : Array Slot) (hf : fn_X1_moveStep_25 y0 S = some Z) (hw : hWd D B cy A true hC S s.heap H locs) (hl : lv_has ls 4 [(0, .ref (B + 12)), (1, .ref (B + 7)), (2, .ref (B + 13))]) : W p l e ({ frames := 2, cells := 0, slots := 0, locals := 49 } : Room) s m args below meth c H locs 0 0 (MQ below (hQo D B cy A true hC Z none) args s 0 0 A) (F0 m 25 ls [.int y0, .ref (B + 12)]) := by
  unfold fn_X1_moveStep_25 at hf
  obtain ⟨S1, eS1, hf⟩ := bn_ok hf
  replace eS1 := Option.some.inj eS1
  refine r_putI X hw (κ := 2) rfl inlX1 tyX1 tyX1_ok nmX1 5 (by decide) rfl (by decide) tw_692 (Or.inl rfl) (hCk hw.2.2.2.2.2 12 (by decide) rfl) rfl rfl hw.2.2.2.2.2 dX1_moveStep_25 (fun H locs hw => ?_)
  rw [eS1] at hw
  refine lv_aload_n X.1 X.2.1 dX1_moveStep_28 rfl (lv_at hl 0 rfl) ?_
  refine lv_aload_n X.1 X.2.1 dX1_moveStep_29 rfl (lv_at hl 1 rfl) ?_
  refine lv_aload_n X.1 X.2.1 dX1_moveStep_30 rfl (lv_at hl 0 rfl) ?_
  refine r_getI X hw (κ := 2) rfl inlX1 5 (by decide) rfl (by decide) tw_692 (hCk hw.2.2.2.2.2 12 (by decide) rfl) dX1_moveStep_31 ?_
  refine lv_aload_n X.1 X.2.1 dX1_moveStep_34 rfl (lv_at hl 2 rfl) ?_
  obtain ⟨r3, S2, hS2, hf⟩ := bn2_ok hf
  refine r_callV (As := [.int (gI S1 12 5), .ref (B + 13)]) (rest := [.ref (B + 12)]) (st1 := [.int r3, .ref (B + 12)]) (κ := 7) X hw (c_X6_amountBy l D B cy A ad av (gI S1 12 5) hw.2.2.2.2.1 hw.2.2.2.2.2 hS2) ⟨rfl, rfl, Nat.le_of_ble_eq_true rfl, Nat.le_of_ble_eq_true rfl⟩ rfl (by decide) (hCk hw.2.2.2.2.2 7 (by decide) rfl) tw_698 tw_699 tw_700 tw_27 tw_701 hd_X6_amountBy rfl hl.1 rfl (Nat.le_of_ble_eq_true rfl) dX1_moveStep_35 ⟨Nat.le_of_ble_eq_true rfl, Nat.le_of_ble_eq_true rfl⟩ rfl (fun H locs hw => ?_)
  obtain ⟨S4, eS4, hf⟩ := bn_ok hf
  replace eS4 := Option.some.inj eS4
  refine r_putI X hw (κ := 2) rfl inlX1 tyX1 tyX1_ok nmX1 6 (by decide) rfl (by decide) tw_693 (Or.inl rfl) (hCk hw.2.2.2.2.2 12 (by decide) rfl) rfl rfl hw.2.2.2.2.2 dX1_moveStep_38 (fun H locs hw => ?_)
  rw [eS4] at hw
  cases hf
  exact r_vret X hw dX1_moveStep_41
theorem hd_X1_moveStep : yX1_moveStep.cls = RX1 ∧ yX1_moveStep.cls ≠ "java/lang/invoke/MethodHandle" ∧ yX1_moveStep.cls ≠ "java/lang/invoke/VarHandle" ∧ (parseMethodDescriptor yX1_moveStep.desc).map (fun d => d.parameters.length) = some 3 := by decide +kernel
set_option maxHeartbeats 4000000 in
theorem c_X1_moveStep (l : Launch) (D : va_G) (B : Nat) (cy : Nat → ClassId) (A : Nat → Prop) (ad av : Nat → Nat) (x3 : Int32) {S Z : HS} (hfr : hFr S) (hG : hC S) (hf : fn_X1_moveStep x3 S = some Z) : hMet l yX1_moveStep cX1_moveStep 4 none ({ frames := 2, cells := 0, slots := 0, locals := 49 } : Room) D B cy A ad av true hC [.ref (B + 12), .ref (B + 7), .ref (B + 13), .int x3] S Z none 0 0 := by
  refine h_entry (by decide) hfr hG ?_
  intro p e s m below meth c args X hnm hw
  have hl := lv_entry ([.ref (B + 12), .ref (B + 7), .ref (B + 13), .int x3]) (n := 4) (Nat.le_of_ble_eq_true rfl)
  rw [lg_entry_eq]
  generalize (lg_sl ([.ref (B + 12), .ref (B + 7), .ref (B + 13), .int x3]) ++ List.replicate (4 - (lg_sl ([.ref (B + 12), .ref (B + 7), .ref (B + 13), .int x3])).length) Slot.unset).toArray = ls at hl ⊢
  have hl : lv_has ls 4 [(0, .ref (B + 12)), (1, .ref (B + 7)), (2, .ref (B + 13)), (3, .int x3)] := hl
  unfold fn_X1_moveStep at hf
  refine lv_aload_n X.1 X.2.1 dX1_moveStep_0 rfl (lv_at hl 0 rfl) ?_
  refine lv_iload_n X.1 X.2.1 dX1_moveStep_1 rfl (lv_at hl 3 rfl) ?_
  obtain ⟨S1, eS1, hf⟩ := bn_ok hf
  replace eS1 := Option.some.inj eS1
  refine r_putI X hw (κ := 2) rfl inlX1 tyX1 tyX1_ok nmX1 4 (by decide) rfl (by decide) tw_691 (Or.inl rfl) (hCk hw.2.2.2.2.2 12 (by decide) rfl) rfl rfl hw.2.2.2.2.2 dX1_moveStep_2 (fun H locs hw => ?_)
  rw [eS1] at hw
  refine lv_aload_n X.1 X.2.1 dX1_moveStep_5 rfl (lv_at hl 0 rfl) ?_
  refine lv_aload_n X.1 X.2.1 dX1_moveStep_6 rfl (lv_at hl 0 rfl) ?_
  refine r_getR X hw (κ := 2) rfl inlX1 0 (by decide) rfl (by decide) tw_654 (hCk hw.2.2.2.2.2 12 (by decide) rfl) dX1_moveStep_7 ?_
  refine r_ifnonnull (tgt := 17) X.1 X.2.1 dX1_moveStep_10 (by decide) (fun c2 hq => ?_) (fun hq => ?_)
  · replace hf := cs_sk hq hf
    refine lv_aload_n X.1 X.2.1 dX1_moveStep_17 rfl (lv_at hl 0 rfl) ?_
    refine r_getR X hw (κ := 2) rfl inlX1 0 (by decide) rfl (by decide) tw_654 (hCk hw.2.2.2.2.2 12 (by decide) rfl) dX1_moveStep_18 ?_
    refine lv_iload_n X.1 X.2.1 dX1_moveStep_21 rfl (lv_at hl 3 rfl) ?_
    obtain ⟨c3, ec3, hf⟩ := bn_ok hf
    rw [ec3]
    obtain ⟨g4, hf⟩ := gd_ok hf
    obtain ⟨r6, S5, hS5, hf⟩ := bn2_ok hf
    refine r_callV (As := [.int x3]) (rest := [.ref (B + 12)]) (st1 := [.int r6, .ref (B + 12)]) (κ := 3) X hw (c_X2_scaleNumber l D B cy A ad av c3 x3 hw.2.2.2.2.1 hw.2.2.2.2.2 hS5) ⟨rfl, rfl, Nat.le_of_ble_eq_true rfl, Nat.le_of_ble_eq_true rfl⟩ rfl (by decide) g4 tw_694 tw_695 tw_696 tw_281 tw_697 hd_X2_scaleNumber rfl hl.1 rfl (Nat.le_of_ble_eq_true rfl) dX1_moveStep_22 ⟨Nat.le_of_ble_eq_true rfl, Nat.le_of_ble_eq_true rfl⟩ rfl (fun H locs hw => ?_)
    exact w_X1_moveStep_25 X  _ _ _ _ _ hf hw (lv_sub hl [0, 1, 2] rfl)
  · replace hf := cs_nk hq hf
    refine lv_iconst (v := 0) X.1 X.2.1 dX1_moveStep_13 (by decide) ?_
    refine lv_goto (tgt := 25) X.1 X.2.1 dX1_moveStep_14 (by decide) ?_
    exact w_X1_moveStep_25 X  _ _ _ _ _ hf hw (lv_sub hl [0, 1, 2] rfl)
