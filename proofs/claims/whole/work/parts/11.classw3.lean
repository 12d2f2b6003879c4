set_option maxHeartbeats 4000000 in
theorem w_X7_tell_20 {p : Program} {l : Launch} {e : Env} {s : State} {m : MethodId} {args : Array Value} {below : List Frame} {meth : Method} {c : Code} {D : va_G} {B : Nat} {cy : Nat → ClassId} {A : Nat → Prop} {ad av : Nat → Nat} {rv : Int32} {Z : HS} (X : hCX p s m args meth c RX7 cX7_tell 2 (some .int) D cy A ad av)  (x1 : Int32) (S : HS) (H : Heap) (locs : List Loc) (ls : Array Slot) (hf : fn_X7_tell_20 x1 S = some (rv, Z)) (hw : hWd D B cy A true hC S s.heap H locs) (hl : lv_has ls 2 [(0, .ref (B + 11)), (1, .int x1)]) : W p l e ({ frames := 0, cells := 0, slots := 0, locals := 0 } : Room) s m args below meth c H locs 0 0 (MQ below (hQo D B cy A true hC Z (some (.int rv))) args s 0 0 A) (F0 m 20 ls []) := by
  unfold fn_X7_tell_20 at hf
  refine lv_iload_n X.1 X.2.1 dX7_tell_20 rfl (lv_at hl 1 rfl) ?_
  by_cases hq0 : x1 = 9
  · replace hf := cd_tk hq0 hf
    refine lv_tableIn (off := 39) (tgt := 60) X.1 X.2.1 dX7_tell_21 (by rw [hq0]; decide) (by rw [hq0]; decide) (by rw [hq0]; rfl) (by decide) ?_
    refine lv_aload_n X.1 X.2.1 dX7_tell_60 rfl (lv_at hl 0 rfl) ?_
    refine r_getF X hw (κ := 8) rfl inlX7 4 (by decide) rfl (by decide) tw_80 (hCk hw.2.2.2.2.2 11 (by decide) rfl) (hCr (c := 11) (k := 4) (d := 12) hw.2.2.2.2.2 (by decide)) dX7_tell_61 ?_
    refine r_getI X hw (κ := 2) rfl inlX1 2 (by decide) rfl (by decide) tw_743 (hCk hw.2.2.2.2.2 12 (by decide) rfl) dX7_tell_64 ?_
    cases hf
    exact r_iret X hw dX7_tell_67
  · replace hf := cd_fk hq0 hf
    by_cases hq1 : x1 = 10
    · replace hf := cd_tk hq1 hf
      refine lv_tableIn (off := 47) (tgt := 68) X.1 X.2.1 dX7_tell_21 (by rw [hq1]; decide) (by rw [hq1]; decide) (by rw [hq1]; rfl) (by decide) ?_
      refine lv_aload_n X.1 X.2.1 dX7_tell_68 rfl (lv_at hl 0 rfl) ?_
      refine r_getF X hw (κ := 8) rfl inlX7 4 (by decide) rfl (by decide) tw_80 (hCk hw.2.2.2.2.2 11 (by decide) rfl) (hCr (c := 11) (k := 4) (d := 12) hw.2.2.2.2.2 (by decide)) dX7_tell_69 ?_
      refine r_getI X hw (κ := 2) rfl inlX1 3 (by decide) rfl (by decide) tw_744 (hCk hw.2.2.2.2.2 12 (by decide) rfl) dX7_tell_72 ?_
      cases hf
      exact r_iret X hw dX7_tell_75
    · replace hf := cd_fk hq1 hf
      by_cases hq2 : x1 = 11
      · replace hf := cd_tk hq2 hf
        refine lv_tableIn (off := 55) (tgt := 76) X.1 X.2.1 dX7_tell_21 (by rw [hq2]; decide) (by rw [hq2]; decide) (by rw [hq2]; rfl) (by decide) ?_
        refine lv_aload_n X.1 X.2.1 dX7_tell_76 rfl (lv_at hl 0 rfl) ?_
        refine r_getI X hw (κ := 8) rfl inlX7 14 (by decide) rfl (by decide) tw_597 (hCk hw.2.2.2.2.2 11 (by decide) rfl) dX7_tell_77 ?_
        cases hf
        exact r_iret X hw dX7_tell_80
      · replace hf := cd_fk hq2 hf
        by_cases hq3 : x1 = 12
        · replace hf := cd_tk hq3 hf
          refine lv_tableIn (off := 60) (tgt := 81) X.1 X.2.1 dX7_tell_21 (by rw [hq3]; decide) (by rw [hq3]; decide) (by rw [hq3]; rfl) (by decide) ?_
          refine lv_aload_n X.1 X.2.1 dX7_tell_81 rfl (lv_at hl 0 rfl) ?_
          refine r_getF X hw (κ := 8) rfl inlX7 4 (by decide) rfl (by decide) tw_80 (hCk hw.2.2.2.2.2 11 (by decide) rfl) (hCr (c := 11) (k := 4) (d := 12) hw.2.2.2.2.2 (by decide)) dX7_tell_82 ?_
          refine r_getI X hw (κ := 2) rfl inlX1 4 (by decide) rfl (by decide) tw_745 (hCk hw.2.2.2.2.2 12 (by decide) rfl) dX7_tell_85 ?_
          cases hf
          exact r_iret X hw dX7_tell_88
        · replace hf := cd_fk hq3 hf
          by_cases hq4 : x1 = 13
          · replace hf := cd_tk hq4 hf
            refine lv_tableIn (off := 68) (tgt := 89) X.1 X.2.1 dX7_tell_21 (by rw [hq4]; decide) (by rw [hq4]; decide) (by rw [hq4]; rfl) (by decide) ?_
            refine lv_aload_n X.1 X.2.1 dX7_tell_89 rfl (lv_at hl 0 rfl) ?_
            refine r_getF X hw (κ := 8) rfl inlX7 4 (by decide) rfl (by decide) tw_80 (hCk hw.2.2.2.2.2 11 (by decide) rfl) (hCr (c := 11) (k := 4) (d := 12) hw.2.2.2.2.2 (by decide)) dX7_tell_90 ?_
            refine r_getI X hw (κ := 2) rfl inlX1 5 (by decide) rfl (by decide) tw_746 (hCk hw.2.2.2.2.2 12 (by decide) rfl) dX7_tell_93 ?_
            cases hf
            exact r_iret X hw dX7_tell_96
          · replace hf := cd_fk hq4 hf
            by_cases hq5 : x1 = 14
            · replace hf := cd_tk hq5 hf
              refine lv_tableIn (off := 76) (tgt := 97) X.1 X.2.1 dX7_tell_21 (by rw [hq5]; decide) (by rw [hq5]; decide) (by rw [hq5]; rfl) (by decide) ?_
              refine lv_aload_n X.1 X.2.1 dX7_tell_97 rfl (lv_at hl 0 rfl) ?_
              refine r_getF X hw (κ := 8) rfl inlX7 4 (by decide) rfl (by decide) tw_80 (hCk hw.2.2.2.2.2 11 (by decide) rfl) (hCr (c := 11) (k := 4) (d := 12) hw.2.2.2.2.2 (by decide)) dX7_tell_98 ?_
              refine r_getI X hw (κ := 2) rfl inlX1 6 (by decide) rfl (by decide) tw_711 (hCk hw.2.2.2.2.2 12 (by decide) rfl) dX7_tell_101 ?_
              cases hf
              exact r_iret X hw dX7_tell_104
            · replace hf := cd_fk hq5 hf
              have hout : x1.toInt < 9 ∨ 14 < x1.toInt := by
                have g0 := lv_neT (a := 9) hq0 rfl
                have g1 := lv_neT (a := 10) hq1 rfl
                have g2 := lv_neT (a := 11) hq2 rfl
                have g3 := lv_neT (a := 12) hq3 rfl
                have g4 := lv_neT (a := 13) hq4 rfl
                have g5 := lv_neT (a := 14) hq5 rfl
                omega
              refine lv_tableOut (tgt := 105) X.1 X.2.1 dX7_tell_21 hout (by decide) ?_
              refine lv_aload_n X.1 X.2.1 dX7_tell_105 rfl (lv_at hl 0 rfl) ?_
              refine r_getI X hw (κ := 8) rfl inlX7 17 (by decide) rfl (by decide) tw_600 (hCk hw.2.2.2.2.2 11 (by decide) rfl) dX7_tell_106 ?_
              cases hf
              exact r_iret X hw dX7_tell_109
theorem hd_X7_tell : yX7_tell.cls = RX7 ∧ yX7_tell.cls ≠ "java/lang/invoke/MethodHandle" ∧ yX7_tell.cls ≠ "java/lang/invoke/VarHandle" ∧ (parseMethodDescriptor yX7_tell.desc).map (fun d => d.parameters.length) = some 1 := by decide +kernel
set_option maxHeartbeats 4000000 in
theorem c_X7_tell (l : Launch) (D : va_G) (B : Nat) (cy : Nat → ClassId) (A : Nat → Prop) (ad av : Nat → Nat) (x1 : Int32) {S Z : HS} {rv : Int32} (hfr : hFr S) (hG : hC S) (hf : fn_X7_tell x1 S = some (rv, Z)) : hMet l yX7_tell cX7_tell 2 (some .int) ({ frames := 0, cells := 0, slots := 0, locals := 0 } : Room) D B cy A ad av true hC [.ref (B + 11), .int x1] S Z (some (.int rv)) 0 0 := by
  refine h_entry (by decide) hfr hG ?_
  intro p e s m below meth c args X hnm hw
  have hl := lv_entry ([.ref (B + 11), .int x1]) (n := 2) (Nat.le_of_ble_eq_true rfl)
  rw [lg_entry_eq]
  generalize (lg_sl ([.ref (B + 11), .int x1]) ++ List.replicate (2 - (lg_sl ([.ref (B + 11), .int x1])).length) Slot.unset).toArray = ls at hl ⊢
  have hl : lv_has ls 2 [(0, .ref (B + 11)), (1, .int x1)] := hl
  unfold fn_X7_tell at hf
  refine lv_iload_n X.1 X.2.1 dX7_tell_0 rfl (lv_at hl 1 rfl) ?_
  refine lv_if_lt (tgt := 20) X.1 X.2.1 dX7_tell_1 (by decide) (fun hq => ?_) (fun hq => ?_)
  · replace hf := cd_tk hq hf
    exact w_X7_tell_20 X  _ _ _ _ _ hf hw (lv_sub hl [0, 1] rfl)
  · replace hf := cd_fk hq hf
    refine lv_iload_n X.1 X.2.1 dX7_tell_4 rfl (lv_at hl 1 rfl) ?_
    refine lv_aload_n X.1 X.2.1 dX7_tell_5 rfl (lv_at hl 0 rfl) ?_
    refine r_getF X hw (κ := 8) rfl inlX7 5 (by decide) rfl (by decide) tw_81 (hCk hw.2.2.2.2.2 11 (by decide) rfl) (hCr (c := 11) (k := 5) (d := 13) hw.2.2.2.2.2 (by decide)) dX7_tell_6 ?_
    refine r_alen (κ := 21) X hw (hCk hw.2.2.2.2.2 13 (by decide) rfl) (by decide) (hCn hw.2.2.2.2.2 13 (by decide) rfl) dX7_tell_9 ?_
    refine lv_icmp_ge (tgt := 20) X.1 X.2.1 dX7_tell_10 (by decide) (fun hq => ?_) (fun hq => ?_)
    · replace hf := cd_tk hq hf
      exact w_X7_tell_20 X  _ _ _ _ _ hf hw (lv_sub hl [0, 1] rfl)
    · replace hf := cd_fk hq hf
      refine lv_aload_n X.1 X.2.1 dX7_tell_13 rfl (lv_at hl 0 rfl) ?_
      refine r_getF X hw (κ := 8) rfl inlX7 5 (by decide) rfl (by decide) tw_81 (hCk hw.2.2.2.2.2 11 (by decide) rfl) (hCr (c := 11) (k := 5) (d := 13) hw.2.2.2.2.2 (by decide)) dX7_tell_14 ?_
      refine lv_iload_n X.1 X.2.1 dX7_tell_17 rfl (lv_at hl 1 rfl) ?_
      obtain ⟨g1, hf⟩ := gd_ok hf
      refine r_iald X hw (hCk hw.2.2.2.2.2 13 (by decide) rfl) (hCn hw.2.2.2.2.2 13 (by decide) rfl) g1 dX7_tell_18 ?_
      cases hf
      exact r_iret X hw dX7_tell_19
set_option maxHeartbeats 4000000 in
theorem w_X4_byteAt_35 {p : Program} {l : Launch} {e : Env} {s : State} {m : MethodId} {args : Array Value} {below : List Frame} {meth : Method} {c : Code} {D : va_G} {B : Nat} {cy : Nat → ClassId} {A : Nat → Prop} {ad av : Nat → Nat} {rv : Int32} {Z : HS} (X : hCX p s m args meth c RX4 cX4_byteAt 2 (some .int) D cy A ad av)  (y0 : Int32) (S : HS) (H : Heap) (locs : List Loc) (ls : Array Slot) (hf : fn_X4_byteAt_35 y0 S = some (rv, Z)) (hw : hWd D B cy A true hC S s.heap H locs) (hl : lv_has ls 2 []) : W p l e ({ frames := 0, cells := 0, slots := 0, locals := 0 } : Room) s m args below meth c H locs 0 0 (MQ below (hQo D B cy A true hC Z (some (.int rv))) args s 0 0 A) (F0 m 35 ls [.int y0]) := by
  unfold fn_X4_byteAt_35 at hf
  cases hf
  exact r_iret X hw dX4_byteAt_35
set_option maxHeartbeats 4000000 in
theorem w_X4_byteAt_34 {p : Program} {l : Launch} {e : Env} {s : State} {m : MethodId} {args : Array Value} {below : List Frame} {meth : Method} {c : Code} {D : va_G} {B : Nat} {cy : Nat → ClassId} {A : Nat → Prop} {ad av : Nat → Nat} {rv : Int32} {Z : HS} (X : hCX p s m args meth c RX4 cX4_byteAt 2 (some .int) D cy A ad av)   (S : HS) (H : Heap) (locs : List Loc) (ls : Array Slot) (hf : fn_X4_byteAt_34 S = some (rv, Z)) (hw : hWd D B cy A true hC S s.heap H locs) (hl : lv_has ls 2 []) : W p l e ({ frames := 0, cells := 0, slots := 0, locals := 0 } : Room) s m args below meth c H locs 0 0 (MQ below (hQo D B cy A true hC Z (some (.int rv))) args s 0 0 A) (F0 m 34 ls []) := by
  unfold fn_X4_byteAt_34 at hf
  refine lv_iconst (v := 0) X.1 X.2.1 dX4_byteAt_34 (by decide) ?_
  exact w_X4_byteAt_35 X  _ _ _ _ _ hf hw (lv_sub hl [] rfl)
theorem hd_X4_byteAt : yX4_byteAt.cls = RX4 ∧ yX4_byteAt.cls ≠ "java/lang/invoke/MethodHandle" ∧ yX4_byteAt.cls ≠ "java/lang/invoke/VarHandle" ∧ (parseMethodDescriptor yX4_byteAt.desc).map (fun d => d.parameters.length) = some 1 := by decide +kernel
set_option maxHeartbeats 4000000 in
theorem c_X4_byteAt (l : Launch) (D : va_G) (B : Nat) (cy : Nat → ClassId) (A : Nat → Prop) (ad av : Nat → Nat) (x1 : Int32) {S Z : HS} {rv : Int32} (hfr : hFr S) (hG : hC S) (hf : fn_X4_byteAt x1 S = some (rv, Z)) : hMet l yX4_byteAt cX4_byteAt 2 (some .int) ({ frames := 0, cells := 0, slots := 0, locals := 0 } : Room) D B cy A ad av true hC [.ref (B + 2), .int x1] S Z (some (.int rv)) 0 0 := by
  refine h_entry (by decide) hfr hG ?_
  intro p e s m below meth c args X hnm hw
  have hl := lv_entry ([.ref (B + 2), .int x1]) (n := 2) (Nat.le_of_ble_eq_true rfl)
  rw [lg_entry_eq]
  generalize (lg_sl ([.ref (B + 2), .int x1]) ++ List.replicate (2 - (lg_sl ([.ref (B + 2), .int x1])).length) Slot.unset).toArray = ls at hl ⊢
  have hl : lv_has ls 2 [(0, .ref (B + 2)), (1, .int x1)] := hl
  unfold fn_X4_byteAt at hf
  refine lv_iload_n X.1 X.2.1 dX4_byteAt_0 rfl (lv_at hl 1 rfl) ?_
  refine lv_if_lt (tgt := 34) X.1 X.2.1 dX4_byteAt_1 (by decide) (fun hq => ?_) (fun hq => ?_)
  · replace hf := cd_tk hq hf
    exact w_X4_byteAt_34 X  _ _ _ _ hf hw (lv_sub hl [] rfl)
  · replace hf := cd_fk hq hf
    refine lv_iload_n X.1 X.2.1 dX4_byteAt_4 rfl (lv_at hl 1 rfl) ?_
    refine lv_aload_n X.1 X.2.1 dX4_byteAt_5 rfl (lv_at hl 0 rfl) ?_
    refine r_getI X hw (κ := 5) rfl inlX4 2 (by decide) rfl (by decide) tw_192 (hCk hw.2.2.2.2.2 2 (by decide) rfl) dX4_byteAt_6 ?_
    refine lv_icmp_ge (tgt := 34) X.1 X.2.1 dX4_byteAt_9 (by decide) (fun hq => ?_) (fun hq => ?_)
    · replace hf := cd_tk hq hf
      exact w_X4_byteAt_34 X  _ _ _ _ hf hw (lv_sub hl [] rfl)
    · replace hf := cd_fk hq hf
      refine lv_iload_n X.1 X.2.1 dX4_byteAt_12 rfl (lv_at hl 1 rfl) ?_
      refine lv_aload_n X.1 X.2.1 dX4_byteAt_13 rfl (lv_at hl 0 rfl) ?_
      refine r_getF X hw (κ := 5) rfl inlX4 0 (by decide) rfl (by decide) tw_50 (hCk hw.2.2.2.2.2 2 (by decide) rfl) (hCr (c := 2) (k := 0) (d := 1) hw.2.2.2.2.2 (by decide)) dX4_byteAt_14 ?_
      refine r_alen (κ := 20) X hw (hCk hw.2.2.2.2.2 1 (by decide) rfl) (by decide) (hCn hw.2.2.2.2.2 1 (by decide) rfl) dX4_byteAt_17 ?_
      refine lv_icmp_ge (tgt := 34) X.1 X.2.1 dX4_byteAt_18 (by decide) (fun hq => ?_) (fun hq => ?_)
      · replace hf := cd_tk hq hf
        exact w_X4_byteAt_34 X  _ _ _ _ hf hw (lv_sub hl [] rfl)
      · replace hf := cd_fk hq hf
        refine lv_aload_n X.1 X.2.1 dX4_byteAt_21 rfl (lv_at hl 0 rfl) ?_
        refine r_getF X hw (κ := 5) rfl inlX4 0 (by decide) rfl (by decide) tw_50 (hCk hw.2.2.2.2.2 2 (by decide) rfl) (hCr (c := 2) (k := 0) (d := 1) hw.2.2.2.2.2 (by decide)) dX4_byteAt_22 ?_
        refine lv_iload_n X.1 X.2.1 dX4_byteAt_25 rfl (lv_at hl 1 rfl) ?_
        obtain ⟨g1, hf⟩ := gd_ok hf
        refine r_bald X hw (hCk hw.2.2.2.2.2 1 (by decide) rfl) (hCn hw.2.2.2.2.2 1 (by decide) rfl) g1 dX4_byteAt_26 ?_
        refine lv_sipush (v := 255) X.1 X.2.1 dX4_byteAt_27 (by decide) ?_
        refine lv_iand X.1 X.2.1 dX4_byteAt_30 ?_
        refine lv_goto (tgt := 35) X.1 X.2.1 dX4_byteAt_31 (by decide) ?_
        exact w_X4_byteAt_35 X  _ _ _ _ _ hf hw (lv_sub hl [] rfl)
set_option maxHeartbeats 4000000 in
theorem w_X4_kindAt_81 {p : Program} {l : Launch} {e : Env} {s : State} {m : MethodId} {args : Array Value} {below : List Frame} {meth : Method} {c : Code} {D : va_G} {B : Nat} {cy : Nat → ClassId} {A : Nat → Prop} {ad av : Nat → Nat} {rv : Int32} {Z : HS} (X : hCX p s m args meth c RX4 cX4_kindAt 3 (some .int) D cy A ad av)  (y0 : Int32) (S : HS) (H : Heap) (locs : List Loc) (ls : Array Slot) (hf : fn_X4_kindAt_81 y0 S = some (rv, Z)) (hw : hWd D B cy A true hC S s.heap H locs) (hl : lv_has ls 3 []) : W p l e ({ frames := 1, cells := 0, slots := 0, locals := 21 } : Room) s m args below meth c H locs 0 0 (MQ below (hQo D B cy A true hC Z (some (.int rv))) args s 0 0 A) (F0 m 81 ls [.int y0]) := by
  unfold fn_X4_kindAt_81 at hf
  cases hf
  exact r_iret X hw dX4_kindAt_81
set_option maxHeartbeats 4000000 in
theorem w_X4_kindAt_80 {p : Program} {l : Launch} {e : Env} {s : State} {m : MethodId} {args : Array Value} {below : List Frame} {meth : Method} {c : Code} {D : va_G} {B : Nat} {cy : Nat → ClassId} {A : Nat → Prop} {ad av : Nat → Nat} {rv : Int32} {Z : HS} (X : hCX p s m args meth c RX4 cX4_kindAt 3 (some .int) D cy A ad av)  (x2 : Int32) (S : HS) (H : Heap) (locs : List Loc) (ls : Array Slot) (hf : fn_X4_kindAt_80 x2 S = some (rv, Z)) (hw : hWd D B cy A true hC S s.heap H locs) (hl : lv_has ls 3 [(2, .int x2)]) : W p l e ({ frames := 1, cells := 0, slots := 0, locals := 21 } : Room) s m args below meth c H locs 0 0 (MQ below (hQo D B cy A true hC Z (some (.int rv))) args s 0 0 A) (F0 m 80 ls []) := by
  unfold fn_X4_kindAt_80 at hf
  refine lv_iload_n X.1 X.2.1 dX4_kindAt_80 rfl (lv_at hl 0 rfl) ?_
  exact w_X4_kindAt_81 X  _ _ _ _ _ hf hw (lv_sub hl [] rfl)
set_option maxHeartbeats 4000000 in
theorem w_X4_kindAt_62 {p : Program} {l : Launch} {e : Env} {s : State} {m : MethodId} {args : Array Value} {below : List Frame} {meth : Method} {c : Code} {D : va_G} {B : Nat} {cy : Nat → ClassId} {A : Nat → Prop} {ad av : Nat → Nat} {rv : Int32} {Z : HS} (X : hCX p s m args meth c RX4 cX4_kindAt 3 (some .int) D cy A ad av)  (x2 : Int32) (S : HS) (H : Heap) (locs : List Loc) (ls : Array Slot) (hf : fn_X4_kindAt_62 x2 S = some (rv, Z)) (hw : hWd D B cy A true hC S s.heap H locs) (hl : lv_has ls 3 [(2, .int x2)]) : W p l e ({ frames := 1, cells := 0, slots := 0, locals := 21 } : Room) s m args below meth c H locs 0 0 (MQ below (hQo D B cy A true hC Z (some (.int rv))) args s 0 0 A) (F0 m 62 ls []) := by
  unfold fn_X4_kindAt_62 at hf
  refine lv_iload_n X.1 X.2.1 dX4_kindAt_62 rfl (lv_at hl 0 rfl) ?_
  refine lv_bipush (v := 48) X.1 X.2.1 dX4_kindAt_63 (by decide) ?_
  refine lv_icmp_lt (tgt := 80) X.1 X.2.1 dX4_kindAt_65 (by decide) (fun hq => ?_) (fun hq => ?_)
  · replace hf := cd_tk hq hf
    exact w_X4_kindAt_80 X  _ _ _ _ _ hf hw (lv_sub hl [0] rfl)
  · replace hf := cd_fk hq hf
    refine lv_iload_n X.1 X.2.1 dX4_kindAt_68 rfl (lv_at hl 0 rfl) ?_
    refine lv_bipush (v := 57) X.1 X.2.1 dX4_kindAt_69 (by decide) ?_
    refine lv_icmp_gt (tgt := 80) X.1 X.2.1 dX4_kindAt_71 (by decide) (fun hq => ?_) (fun hq => ?_)
    · replace hf := cd_tk hq hf
      exact w_X4_kindAt_80 X  _ _ _ _ _ hf hw (lv_sub hl [0] rfl)
    · replace hf := cd_fk hq hf
      refine lv_sipush (v := 258) X.1 X.2.1 dX4_kindAt_74 (by decide) ?_
      refine lv_goto (tgt := 81) X.1 X.2.1 dX4_kindAt_77 (by decide) ?_
      exact w_X4_kindAt_81 X  _ _ _ _ _ hf hw (lv_sub hl [] rfl)
set_option maxHeartbeats 4000000 in
theorem w_X4_kindAt_58 {p : Program} {l : Launch} {e : Env} {s : State} {m : MethodId} {args : Array Value} {below : List Frame} {meth : Method} {c : Code} {D : va_G} {B : Nat} {cy : Nat → ClassId} {A : Nat → Prop} {ad av : Nat → Nat} {rv : Int32} {Z : HS} (X : hCX p s m args meth c RX4 cX4_kindAt 3 (some .int) D cy A ad av)   (S : HS) (H : Heap) (locs : List Loc) (ls : Array Slot) (hf : fn_X4_kindAt_58 S = some (rv, Z)) (hw : hWd D B cy A true hC S s.heap H locs) (hl : lv_has ls 3 []) : W p l e ({ frames := 1, cells := 0, slots := 0, locals := 21 } : Room) s m args below meth c H locs 0 0 (MQ below (hQo D B cy A true hC Z (some (.int rv))) args s 0 0 A) (F0 m 58 ls []) := by
  unfold fn_X4_kindAt_58 at hf
  refine lv_sipush (v := 257) X.1 X.2.1 dX4_kindAt_58 (by decide) ?_
  cases hf
  exact r_iret X hw dX4_kindAt_61
set_option maxHeartbeats 4000000 in
theorem w_X4_kindAt_46 {p : Program} {l : Launch} {e : Env} {s : State} {m : MethodId} {args : Array Value} {below : List Frame} {meth : Method} {c : Code} {D : va_G} {B : Nat} {cy : Nat → ClassId} {A : Nat → Prop} {ad av : Nat → Nat} {rv : Int32} {Z : HS} (X : hCX p s m args meth c RX4 cX4_kindAt 3 (some .int) D cy A ad av)  (x2 : Int32) (S : HS) (H : Heap) (locs : List Loc) (ls : Array Slot) (hf : fn_X4_kindAt_46 x2 S = some (rv, Z)) (hw : hWd D B cy A true hC S s.heap H locs) (hl : lv_has ls 3 [(2, .int x2)]) : W p l e ({ frames := 1, cells := 0, slots := 0, locals := 21 } : Room) s m args below meth c H locs 0 0 (MQ below (hQo D B cy A true hC Z (some (.int rv))) args s 0 0 A) (F0 m 46 ls []) := by
  unfold fn_X4_kindAt_46 at hf
  refine lv_iload_n X.1 X.2.1 dX4_kindAt_46 rfl (lv_at hl 0 rfl) ?_
  refine lv_bipush (v := 65) X.1 X.2.1 dX4_kindAt_47 (by decide) ?_
  refine lv_icmp_lt (tgt := 62) X.1 X.2.1 dX4_kindAt_49 (by decide) (fun hq => ?_) (fun hq => ?_)
  · replace hf := cd_tk hq hf
    exact w_X4_kindAt_62 X  _ _ _ _ _ hf hw (lv_sub hl [0] rfl)
  · replace hf := cd_fk hq hf
    refine lv_iload_n X.1 X.2.1 dX4_kindAt_52 rfl (lv_at hl 0 rfl) ?_
    refine lv_bipush (v := 90) X.1 X.2.1 dX4_kindAt_53 (by decide) ?_
    refine lv_icmp_gt (tgt := 62) X.1 X.2.1 dX4_kindAt_55 (by decide) (fun hq => ?_) (fun hq => ?_)
    · replace hf := cd_tk hq hf
      exact w_X4_kindAt_62 X  _ _ _ _ _ hf hw (lv_sub hl [0] rfl)
    · replace hf := cd_fk hq hf
      exact w_X4_kindAt_58 X  _ _ _ _ hf hw (lv_sub hl [] rfl)
set_option maxHeartbeats 4000000 in
theorem w_X4_kindAt_30 {p : Program} {l : Launch} {e : Env} {s : State} {m : MethodId} {args : Array Value} {below : List Frame} {meth : Method} {c : Code} {D : va_G} {B : Nat} {cy : Nat → ClassId} {A : Nat → Prop} {ad av : Nat → Nat} {rv : Int32} {Z : HS} (X : hCX p s m args meth c RX4 cX4_kindAt 3 (some .int) D cy A ad av)   (S : HS) (H : Heap) (locs : List Loc) (ls : Array Slot) (hf : fn_X4_kindAt_30 S = some (rv, Z)) (hw : hWd D B cy A true hC S s.heap H locs) (hl : lv_has ls 3 []) : W p l e ({ frames := 1, cells := 0, slots := 0, locals := 21 } : Room) s m args below meth c H locs 0 0 (MQ below (hQo D B cy A true hC Z (some (.int rv))) args s 0 0 A) (F0 m 30 ls []) := by
  unfold fn_X4_kindAt_30 at hf
  refine lv_sipush (v := 256) X.1 X.2.1 dX4_kindAt_30 (by decide) ?_
  cases hf
  exact r_iret X hw dX4_kindAt_33
theorem hd_X4_kindAt : yX4_kindAt.cls = RX4 ∧ yX4_kindAt.cls ≠ "java/lang/invoke/MethodHandle" ∧ yX4_kindAt.cls ≠ "java/lang/invoke/VarHandle" ∧ (parseMethodDescriptor yX4_kindAt.desc).map (fun d => d.parameters.length) = some 1 := by decide +kernel
set_option maxHeartbeats 4000000 in
theorem c_X4_kindAt (l : Launch) (D : va_G) (B : Nat) (cy : Nat → ClassId) (A : Nat → Prop) (ad av : Nat → Nat) (x1 : Int32) {S Z : HS} {rv : Int32} (hfr : hFr S) (hG : hC S) (hf : fn_X4_kindAt x1 S = some (rv, Z)) : hMet l yX4_kindAt cX4_kindAt 3 (some .int) ({ frames := 1, cells := 0, slots := 0, locals := 21 } : Room) D B cy A ad av true hC [.ref (B + 2), .int x1] S Z (some (.int rv)) 0 0 := by
  refine h_entry (by decide) hfr hG ?_
  intro p e s m below meth c args X hnm hw
  have hl := lv_entry ([.ref (B + 2), .int x1]) (n := 3) (Nat.le_of_ble_eq_true rfl)
  rw [lg_entry_eq]
  generalize (lg_sl ([.ref (B + 2), .int x1]) ++ List.replicate (3 - (lg_sl ([.ref (B + 2), .int x1])).length) Slot.unset).toArray = ls at hl ⊢
  have hl : lv_has ls 3 [(0, .ref (B + 2)), (1, .int x1)] := hl
  unfold fn_X4_kindAt at hf
  refine lv_iload_n X.1 X.2.1 dX4_kindAt_0 rfl (lv_at hl 1 rfl) ?_
  refine lv_aload_n X.1 X.2.1 dX4_kindAt_1 rfl (lv_at hl 0 rfl) ?_
  refine r_getI X hw (κ := 5) rfl inlX4 2 (by decide) rfl (by decide) tw_192 (hCk hw.2.2.2.2.2 2 (by decide) rfl) dX4_kindAt_2 ?_
  refine lv_icmp_lt (tgt := 12) X.1 X.2.1 dX4_kindAt_5 (by decide) (fun hq => ?_) (fun hq => ?_)
  · replace hf := cd_tk hq hf
    refine lv_aload_n X.1 X.2.1 dX4_kindAt_12 rfl (lv_at hl 0 rfl) ?_
    refine lv_iload_n X.1 X.2.1 dX4_kindAt_13 rfl (lv_at hl 1 rfl) ?_
    obtain ⟨r2, S1, hS1, hf⟩ := bn2_ok hf
    refine r_callV (As := [.int x1]) (rest := []) (st1 := [.int r2]) (κ := 5) X hw (c_X4_byteAt l D B cy A ad av x1 hw.2.2.2.2.1 hw.2.2.2.2.2 hS1) ⟨rfl, rfl, Nat.le_of_ble_eq_true rfl, Nat.le_of_ble_eq_true rfl⟩ rfl (by decide) (hCk hw.2.2.2.2.2 2 (by decide) rfl) tw_202 tw_203 tw_204 tw_16 tw_205 hd_X4_byteAt rfl hl.1 rfl (Nat.le_of_ble_eq_true rfl) dX4_kindAt_14 ⟨Nat.le_of_ble_eq_true rfl, Nat.le_of_ble_eq_true rfl⟩ rfl (fun H locs hw => ?_)
    refine lv_istore_n (lv' := [(2, .int r2), (0, .ref (B + 2)), (1, .int x1)]) X.1 X.2.1 dX4_kindAt_17 rfl hl (by decide) rfl (fun ls hl => ?_)
    refine lv_iload_n X.1 X.2.1 dX4_kindAt_18 rfl (lv_at hl 0 rfl) ?_
    refine lv_bipush (v := 10) X.1 X.2.1 dX4_kindAt_19 (by decide) ?_
    refine lv_icmp_eq (tgt := 30) X.1 X.2.1 dX4_kindAt_21 (by decide) (fun hq => ?_) (fun hq => ?_)
    · replace hf := cd_tk hq hf
      exact w_X4_kindAt_30 X  _ _ _ _ hf hw (lv_sub hl [] rfl)
    · replace hf := cd_fk hq hf
      refine lv_iload_n X.1 X.2.1 dX4_kindAt_24 rfl (lv_at hl 0 rfl) ?_
      refine lv_bipush (v := 32) X.1 X.2.1 dX4_kindAt_25 (by decide) ?_
      refine lv_icmp_ne (tgt := 34) X.1 X.2.1 dX4_kindAt_27 (by decide) (fun hq => ?_) (fun hq => ?_)
      · replace hf := cd_fk hq hf
        refine lv_iload_n X.1 X.2.1 dX4_kindAt_34 rfl (lv_at hl 0 rfl) ?_
        refine lv_bipush (v := 97) X.1 X.2.1 dX4_kindAt_35 (by decide) ?_
        refine lv_icmp_lt (tgt := 46) X.1 X.2.1 dX4_kindAt_37 (by decide) (fun hq => ?_) (fun hq => ?_)
        · replace hf := cd_tk hq hf
          exact w_X4_kindAt_46 X  _ _ _ _ _ hf hw (lv_sub hl [0] rfl)
        · replace hf := cd_fk hq hf
          refine lv_iload_n X.1 X.2.1 dX4_kindAt_40 rfl (lv_at hl 0 rfl) ?_
          refine lv_bipush (v := 122) X.1 X.2.1 dX4_kindAt_41 (by decide) ?_
          refine lv_icmp_le (tgt := 58) X.1 X.2.1 dX4_kindAt_43 (by decide) (fun hq => ?_) (fun hq => ?_)
          · replace hf := cd_tk hq hf
            exact w_X4_kindAt_58 X  _ _ _ _ hf hw (lv_sub hl [] rfl)
          · replace hf := cd_fk hq hf
            exact w_X4_kindAt_46 X  _ _ _ _ _ hf hw (lv_sub hl [0] rfl)
      · replace hf := cd_tk hq hf
        exact w_X4_kindAt_30 X  _ _ _ _ hf hw (lv_sub hl [] rfl)
  · replace hf := cd_fk hq hf
    refine lv_sipush (v := 259) X.1 X.2.1 dX4_kindAt_8 (by decide) ?_
    cases hf
    exact r_iret X hw dX4_kindAt_11
set_option maxHeartbeats 4000000 in
theorem w_X4_advance_101 {p : Program} {l : Launch} {e : Env} {s : State} {m : MethodId} {args : Array Value} {below : List Frame} {meth : Method} {c : Code} {D : va_G} {B : Nat} {cy : Nat → ClassId} {A : Nat → Prop} {ad av : Nat → Nat} {Z : HS} (X : hCX p s m args meth c RX4 cX4_advance 2 none D cy A ad av)  (x1 : Int32) (S : HS) (H : Heap) (locs : List Loc) (ls : Array Slot) (hf : fn_X4_advance_101 x1 S = some Z) (hw : hWd D B cy A true hC S s.heap H locs) (hl : lv_has ls 2 [(0, .ref (B + 2)), (1, .int x1)]) : W p l e ({ frames := 2, cells := 0, slots := 0, locals := 43 } : Room) s m args below meth c H locs 0 0 (MQ below (hQo D B cy A true hC Z none) args s 0 0 A) (F0 m 101 ls []) := by
  unfold fn_X4_advance_101 at hf
  refine lv_aload_n X.1 X.2.1 dX4_advance_101 rfl (lv_at hl 0 rfl) ?_
  refine lv_iload_n X.1 X.2.1 dX4_advance_102 rfl (lv_at hl 1 rfl) ?_
  obtain ⟨S1, eS1, hf⟩ := bn_ok hf
  replace eS1 := Option.some.inj eS1
  refine r_putI X hw (κ := 5) rfl inlX4 tyX4 tyX4_ok nmX4 4 (by decide) rfl (by decide) tw_193 (Or.inl rfl) (hCk hw.2.2.2.2.2 2 (by decide) rfl) rfl rfl hw.2.2.2.2.2 dX4_advance_103 (fun H locs hw => ?_)
  rw [eS1] at hw
  cases hf
  exact r_vret X hw dX4_advance_106
set_option maxHeartbeats 4000000 in
theorem w_X4_advance_64 {p : Program} {l : Launch} {e : Env} {s : State} {m : MethodId} {args : Array Value} {below : List Frame} {meth : Method} {c : Code} {D : va_G} {B : Nat} {cy : Nat → ClassId} {A : Nat → Prop} {ad av : Nat → Nat} {Z : HS} (X : hCX p s m args meth c RX4 cX4_advance 2 none D cy A ad av)  : ∀ (n : Nat) (x1 : Int32) (S : HS) (H : Heap) (locs : List Loc) (ls : Array Slot), fn_X4_advance_64 n x1 S = some Z → hWd D B cy A true hC S s.heap H locs → lv_has ls 2 [(0, .ref (B + 2)), (1, .int x1)] → W p l e ({ frames := 2, cells := 0, slots := 0, locals := 43 } : Room) s m args below meth c H locs 0 0 (MQ below (hQo D B cy A true hC Z none) args s 0 0 A) (F0 m 64 ls []) := by
  intro n
  induction n with
  | zero =>
    intro x1 S H locs ls hf
    cases hf
  | succ n ih =>
    intro x1 S H locs ls hf hw hl
    rw [fn_X4_advance_64] at hf
    refine lv_iload_n X.1 X.2.1 dX4_advance_64 rfl (lv_at hl 1 rfl) ?_
    refine lv_aload_n X.1 X.2.1 dX4_advance_65 rfl (lv_at hl 0 rfl) ?_
    refine r_getI X hw (κ := 5) rfl inlX4 2 (by decide) rfl (by decide) tw_192 (hCk hw.2.2.2.2.2 2 (by decide) rfl) dX4_advance_66 ?_
    refine lv_icmp_ge (tgt := 101) X.1 X.2.1 dX4_advance_69 (by decide) (fun hq => ?_) (fun hq => ?_)
    · replace hf := cd_tk hq hf
      exact w_X4_advance_101 X  _ _ _ _ _ hf hw (lv_sub hl [0, 1] rfl)
    · replace hf := cd_fk hq hf
      refine lv_aload_n X.1 X.2.1 dX4_advance_72 rfl (lv_at hl 0 rfl) ?_
      refine lv_iload_n X.1 X.2.1 dX4_advance_73 rfl (lv_at hl 1 rfl) ?_
      obtain ⟨r2, S1, hS1, hf⟩ := bn2_ok hf
      refine r_callV (As := [.int x1]) (rest := []) (st1 := [.int r2]) (κ := 5) X hw (c_X4_kindAt l D B cy A ad av x1 hw.2.2.2.2.1 hw.2.2.2.2.2 hS1) ⟨rfl, rfl, Nat.le_of_ble_eq_true rfl, Nat.le_of_ble_eq_true rfl⟩ rfl (by decide) (hCk hw.2.2.2.2.2 2 (by decide) rfl) tw_198 tw_199 tw_200 tw_16 tw_201 hd_X4_kindAt rfl hl.1 rfl (Nat.le_of_ble_eq_true rfl) dX4_advance_74 ⟨Nat.le_of_ble_eq_true rfl, Nat.le_of_ble_eq_true rfl⟩ rfl (fun H locs hw => ?_)
      refine lv_aload_n X.1 X.2.1 dX4_advance_77 rfl (lv_at hl 0 rfl) ?_
      refine r_getI X hw (κ := 5) rfl inlX4 5 (by decide) rfl (by decide) tw_185 (hCk hw.2.2.2.2.2 2 (by decide) rfl) dX4_advance_78 ?_
      refine lv_icmp_ne (tgt := 101) X.1 X.2.1 dX4_advance_81 (by decide) (fun hq => ?_) (fun hq => ?_)
      · replace hf := cd_fk hq hf
        exact w_X4_advance_101 X  _ _ _ _ _ hf hw (lv_sub hl [0, 1] rfl)
      · replace hf := cd_tk hq hf
        obtain ⟨v3, ev3, hf⟩ := bn_ok hf
        replace ev3 := Option.some.inj ev3
        refine lv_iinc (v := v3) (lv' := [(1, .int v3), (0, .ref (B + 2))]) X.1 X.2.1 dX4_advance_84 hl (k := 1) rfl ev3 (by decide) rfl (fun ls hl => ?_)
        refine lv_goto (tgt := 64) X.1 X.2.1 dX4_advance_87 (by decide) ?_
        exact ih _ _ _ _ _ hf hw (lv_sub hl [1, 0] rfl)
set_option maxHeartbeats 4000000 in
theorem w_X4_advance_30 {p : Program} {l : Launch} {e : Env} {s : State} {m : MethodId} {args : Array Value} {below : List Frame} {meth : Method} {c : Code} {D : va_G} {B : Nat} {cy : Nat → ClassId} {A : Nat → Prop} {ad av : Nat → Nat} {Z : HS} (X : hCX p s m args meth c RX4 cX4_advance 2 none D cy A ad av)  (x1 : Int32) (S : HS) (H : Heap) (locs : List Loc) (ls : Array Slot) (hf : fn_X4_advance_30 x1 S = some Z) (hw : hWd D B cy A true hC S s.heap H locs) (hl : lv_has ls 2 [(0, .ref (B + 2)), (1, .int x1)]) : W p l e ({ frames := 2, cells := 0, slots := 0, locals := 43 } : Room) s m args below meth c H locs 0 0 (MQ below (hQo D B cy A true hC Z none) args s 0 0 A) (F0 m 30 ls []) := by
  unfold fn_X4_advance_30 at hf
  refine lv_aload_n X.1 X.2.1 dX4_advance_30 rfl (lv_at hl 0 rfl) ?_
  refine lv_iload_n X.1 X.2.1 dX4_advance_31 rfl (lv_at hl 1 rfl) ?_
  obtain ⟨S1, eS1, hf⟩ := bn_ok hf
  replace eS1 := Option.some.inj eS1
  refine r_putI X hw (κ := 5) rfl inlX4 tyX4 tyX4_ok nmX4 3 (by decide) rfl (by decide) tw_186 (Or.inl rfl) (hCk hw.2.2.2.2.2 2 (by decide) rfl) rfl rfl hw.2.2.2.2.2 dX4_advance_32 (fun H locs hw => ?_)
  rw [eS1] at hw
  refine lv_aload_n X.1 X.2.1 dX4_advance_35 rfl (lv_at hl 0 rfl) ?_
  refine lv_aload_n X.1 X.2.1 dX4_advance_36 rfl (lv_at hl 0 rfl) ?_
  refine lv_iload_n X.1 X.2.1 dX4_advance_37 rfl (lv_at hl 1 rfl) ?_
  obtain ⟨r3, S2, hS2, hf⟩ := bn2_ok hf
  refine r_callV (As := [.int x1]) (rest := [.ref (B + 2)]) (st1 := [.int r3, .ref (B + 2)]) (κ := 5) X hw (c_X4_kindAt l D B cy A ad av x1 hw.2.2.2.2.1 hw.2.2.2.2.2 hS2) ⟨rfl, rfl, Nat.le_of_ble_eq_true rfl, Nat.le_of_ble_eq_true rfl⟩ rfl (by decide) (hCk hw.2.2.2.2.2 2 (by decide) rfl) tw_198 tw_199 tw_200 tw_16 tw_201 hd_X4_kindAt rfl hl.1 rfl (Nat.le_of_ble_eq_true rfl) dX4_advance_38 ⟨Nat.le_of_ble_eq_true rfl, Nat.le_of_ble_eq_true rfl⟩ rfl (fun H locs hw => ?_)
  obtain ⟨S4, eS4, hf⟩ := bn_ok hf
  replace eS4 := Option.some.inj eS4
  refine r_putI X hw (κ := 5) rfl inlX4 tyX4 tyX4_ok nmX4 5 (by decide) rfl (by decide) tw_185 (Or.inl rfl) (hCk hw.2.2.2.2.2 2 (by decide) rfl) rfl rfl hw.2.2.2.2.2 dX4_advance_41 (fun H locs hw => ?_)
  rw [eS4] at hw
  refine lv_aload_n X.1 X.2.1 dX4_advance_44 rfl (lv_at hl 0 rfl) ?_
  refine r_getI X hw (κ := 5) rfl inlX4 5 (by decide) rfl (by decide) tw_185 (hCk hw.2.2.2.2.2 2 (by decide) rfl) dX4_advance_45 ?_
  refine lv_sipush (v := 257) X.1 X.2.1 dX4_advance_48 (by decide) ?_
  refine lv_icmp_eq (tgt := 64) X.1 X.2.1 dX4_advance_51 (by decide) (fun hq => ?_) (fun hq => ?_)
  · replace hf := cd_tk hq hf
    exact w_X4_advance_64 X  _ _ _ _ _ _ hf hw (lv_sub hl [0, 1] rfl)
  · replace hf := cd_fk hq hf
    refine lv_aload_n X.1 X.2.1 dX4_advance_54 rfl (lv_at hl 0 rfl) ?_
    refine r_getI X hw (κ := 5) rfl inlX4 5 (by decide) rfl (by decide) tw_185 (hCk hw.2.2.2.2.2 2 (by decide) rfl) dX4_advance_55 ?_
    refine lv_sipush (v := 258) X.1 X.2.1 dX4_advance_58 (by decide) ?_
    refine lv_icmp_ne (tgt := 90) X.1 X.2.1 dX4_advance_61 (by decide) (fun hq => ?_) (fun hq => ?_)
    · replace hf := cd_fk hq hf
      refine lv_iload_n X.1 X.2.1 dX4_advance_90 rfl (lv_at hl 1 rfl) ?_
      refine lv_aload_n X.1 X.2.1 dX4_advance_91 rfl (lv_at hl 0 rfl) ?_
      refine r_getI X hw (κ := 5) rfl inlX4 2 (by decide) rfl (by decide) tw_192 (hCk hw.2.2.2.2.2 2 (by decide) rfl) dX4_advance_92 ?_
      refine lv_icmp_ge (tgt := 101) X.1 X.2.1 dX4_advance_95 (by decide) (fun hq => ?_) (fun hq => ?_)
      · replace hf := cd_tk hq hf
        exact w_X4_advance_101 X  _ _ _ _ _ hf hw (lv_sub hl [0, 1] rfl)
      · replace hf := cd_fk hq hf
        obtain ⟨v5, ev5, hf⟩ := bn_ok hf
        replace ev5 := Option.some.inj ev5
        refine lv_iinc (v := v5) (lv' := [(1, .int v5), (0, .ref (B + 2))]) X.1 X.2.1 dX4_advance_98 hl (k := 1) rfl ev5 (by decide) rfl (fun ls hl => ?_)
        exact w_X4_advance_101 X  _ _ _ _ _ hf hw (lv_sub hl [1, 0] rfl)
    · replace hf := cd_tk hq hf
      exact w_X4_advance_64 X  _ _ _ _ _ _ hf hw (lv_sub hl [0, 1] rfl)
set_option maxHeartbeats 4000000 in
theorem w_X4_advance_5 {p : Program} {l : Launch} {e : Env} {s : State} {m : MethodId} {args : Array Value} {below : List Frame} {meth : Method} {c : Code} {D : va_G} {B : Nat} {cy : Nat → ClassId} {A : Nat → Prop} {ad av : Nat → Nat} {Z : HS} (X : hCX p s m args meth c RX4 cX4_advance 2 none D cy A ad av)  : ∀ (n : Nat) (x1 : Int32) (S : HS) (H : Heap) (locs : List Loc) (ls : Array Slot), fn_X4_advance_5 n x1 S = some Z → hWd D B cy A true hC S s.heap H locs → lv_has ls 2 [(0, .ref (B + 2)), (1, .int x1)] → W p l e ({ frames := 2, cells := 0, slots := 0, locals := 43 } : Room) s m args below meth c H locs 0 0 (MQ below (hQo D B cy A true hC Z none) args s 0 0 A) (F0 m 5 ls []) := by
  intro n
  induction n with
  | zero =>
    intro x1 S H locs ls hf
    cases hf
  | succ n ih =>
    intro x1 S H locs ls hf hw hl
    rw [fn_X4_advance_5] at hf
    refine lv_iload_n X.1 X.2.1 dX4_advance_5 rfl (lv_at hl 1 rfl) ?_
    refine lv_aload_n X.1 X.2.1 dX4_advance_6 rfl (lv_at hl 0 rfl) ?_
    refine r_getI X hw (κ := 5) rfl inlX4 2 (by decide) rfl (by decide) tw_192 (hCk hw.2.2.2.2.2 2 (by decide) rfl) dX4_advance_7 ?_
    refine lv_icmp_ge (tgt := 30) X.1 X.2.1 dX4_advance_10 (by decide) (fun hq => ?_) (fun hq => ?_)
    · replace hf := cd_tk hq hf
      exact w_X4_advance_30 X  _ _ _ _ _ hf hw (lv_sub hl [0, 1] rfl)
    · replace hf := cd_fk hq hf
      refine lv_aload_n X.1 X.2.1 dX4_advance_13 rfl (lv_at hl 0 rfl) ?_
      refine lv_iload_n X.1 X.2.1 dX4_advance_14 rfl (lv_at hl 1 rfl) ?_
      obtain ⟨r2, S1, hS1, hf⟩ := bn2_ok hf
      refine r_callV (As := [.int x1]) (rest := []) (st1 := [.int r2]) (κ := 5) X hw (c_X4_kindAt l D B cy A ad av x1 hw.2.2.2.2.1 hw.2.2.2.2.2 hS1) ⟨rfl, rfl, Nat.le_of_ble_eq_true rfl, Nat.le_of_ble_eq_true rfl⟩ rfl (by decide) (hCk hw.2.2.2.2.2 2 (by decide) rfl) tw_198 tw_199 tw_200 tw_16 tw_201 hd_X4_kindAt rfl hl.1 rfl (Nat.le_of_ble_eq_true rfl) dX4_advance_15 ⟨Nat.le_of_ble_eq_true rfl, Nat.le_of_ble_eq_true rfl⟩ rfl (fun H locs hw => ?_)
      refine lv_sipush (v := 256) X.1 X.2.1 dX4_advance_18 (by decide) ?_
      refine lv_icmp_ne (tgt := 30) X.1 X.2.1 dX4_advance_21 (by decide) (fun hq => ?_) (fun hq => ?_)
      · replace hf := cd_fk hq hf
        exact w_X4_advance_30 X  _ _ _ _ _ hf hw (lv_sub hl [0, 1] rfl)
      · replace hf := cd_tk hq hf
        obtain ⟨v3, ev3, hf⟩ := bn_ok hf
        replace ev3 := Option.some.inj ev3
        refine lv_iinc (v := v3) (lv' := [(1, .int v3), (0, .ref (B + 2))]) X.1 X.2.1 dX4_advance_24 hl (k := 1) rfl ev3 (by decide) rfl (fun ls hl => ?_)
        refine lv_goto (tgt := 5) X.1 X.2.1 dX4_advance_27 (by decide) ?_
        exact ih _ _ _ _ _ hf hw (lv_sub hl [1, 0] rfl)
theorem hd_X4_advance : yX4_advance.cls = RX4 ∧ yX4_advance.cls ≠ "java/lang/invoke/MethodHandle" ∧ yX4_advance.cls ≠ "java/lang/invoke/VarHandle" ∧ (parseMethodDescriptor yX4_advance.desc).map (fun d => d.parameters.length) = some 0 := by decide +kernel
set_option maxHeartbeats 4000000 in
theorem c_X4_advance (l : Launch) (D : va_G) (B : Nat) (cy : Nat → ClassId) (A : Nat → Prop) (ad av : Nat → Nat)  {S Z : HS} (hfr : hFr S) (hG : hC S) (hf : fn_X4_advance S = some Z) : hMet l yX4_advance cX4_advance 2 none ({ frames := 2, cells := 0, slots := 0, locals := 43 } : Room) D B cy A ad av true hC [.ref (B + 2)] S Z none 0 0 := by
  refine h_entry (by decide) hfr hG ?_
  intro p e s m below meth c args X hnm hw
  have hl := lv_entry ([.ref (B + 2)]) (n := 2) (Nat.le_of_ble_eq_true rfl)
  rw [lg_entry_eq]
  generalize (lg_sl ([.ref (B + 2)]) ++ List.replicate (2 - (lg_sl ([.ref (B + 2)])).length) Slot.unset).toArray = ls at hl ⊢
  have hl : lv_has ls 2 [(0, .ref (B + 2))] := hl
  unfold fn_X4_advance at hf
  refine lv_aload_n X.1 X.2.1 dX4_advance_0 rfl (lv_at hl 0 rfl) ?_
  refine r_getI X hw (κ := 5) rfl inlX4 4 (by decide) rfl (by decide) tw_193 (hCk hw.2.2.2.2.2 2 (by decide) rfl) dX4_advance_1 ?_
  obtain ⟨v1, ev1, hf⟩ := bn_ok hf
  replace ev1 := Option.some.inj ev1
  refine lv_ren ev1 ?_
  refine lv_istore_n (lv' := [(1, .int v1), (0, .ref (B + 2))]) X.1 X.2.1 dX4_advance_4 rfl hl (by decide) rfl (fun ls hl => ?_)
  exact w_X4_advance_5 X  _ _ _ _ _ _ hf hw (lv_sub hl [1, 0] rfl)
set_option maxHeartbeats 4000000 in
theorem w_X4_numberOfToken_7 {p : Program} {l : Launch} {e : Env} {s : State} {m : MethodId} {args : Array Value} {below : List Frame} {meth : Method} {c : Code} {D : va_G} {B : Nat} {cy : Nat → ClassId} {A : Nat → Prop} {ad av : Nat → Nat} {rv : Int32} {Z : HS} (X : hCX p s m args meth c RX4 cX4_numberOfToken 3 (some .int) D cy A ad av)  : ∀ (n : Nat) (x1 : Int32) (x2 : Int32) (S : HS) (H : Heap) (locs : List Loc) (ls : Array Slot), fn_X4_numberOfToken_7 n x1 x2 S = some (rv, Z) → hWd D B cy A true hC S s.heap H locs → lv_has ls 3 [(0, .ref (B + 2)), (1, .int x1), (2, .int x2)] → W p l e ({ frames := 1, cells := 0, slots := 0, locals := 21 } : Room) s m args below meth c H locs 0 0 (MQ below (hQo D B cy A true hC Z (some (.int rv))) args s 0 0 A) (F0 m 7 ls []) := by
  intro n
  induction n with
  | zero =>
    intro x1 x2 S H locs ls hf
    cases hf
  | succ n ih =>
    intro x1 x2 S H locs ls hf hw hl
    rw [fn_X4_numberOfToken_7] at hf
    refine lv_iload_n X.1 X.2.1 dX4_numberOfToken_7 rfl (lv_at hl 2 rfl) ?_
    refine lv_aload_n X.1 X.2.1 dX4_numberOfToken_8 rfl (lv_at hl 0 rfl) ?_
    refine r_getI X hw (κ := 5) rfl inlX4 4 (by decide) rfl (by decide) tw_193 (hCk hw.2.2.2.2.2 2 (by decide) rfl) dX4_numberOfToken_9 ?_
    refine lv_icmp_ge (tgt := 41) X.1 X.2.1 dX4_numberOfToken_12 (by decide) (fun hq => ?_) (fun hq => ?_)
    · replace hf := cd_tk hq hf
      refine lv_iload_n X.1 X.2.1 dX4_numberOfToken_41 rfl (lv_at hl 1 rfl) ?_
      cases hf
      exact r_iret X hw dX4_numberOfToken_42
    · replace hf := cd_fk hq hf
      refine lv_sipush (v := 10000) X.1 X.2.1 dX4_numberOfToken_15 (by decide) ?_
      refine lv_iload_n X.1 X.2.1 dX4_numberOfToken_18 rfl (lv_at hl 1 rfl) ?_
      refine lv_bipush (v := 10) X.1 X.2.1 dX4_numberOfToken_19 (by decide) ?_
      refine lv_imul X.1 X.2.1 dX4_numberOfToken_21 ?_
      refine lv_aload_n X.1 X.2.1 dX4_numberOfToken_22 rfl (lv_at hl 0 rfl) ?_
      refine lv_iload_n X.1 X.2.1 dX4_numberOfToken_23 rfl (lv_at hl 2 rfl) ?_
      obtain ⟨r2, S1, hS1, hf⟩ := bn2_ok hf
      refine r_callV (As := [.int x2]) (rest := [.int (x1 * 10), .int 10000]) (st1 := [.int r2, .int (x1 * 10), .int 10000]) (κ := 5) X hw (c_X4_byteAt l D B cy A ad av x2 hw.2.2.2.2.1 hw.2.2.2.2.2 hS1) ⟨rfl, rfl, Nat.le_of_ble_eq_true rfl, Nat.le_of_ble_eq_true rfl⟩ rfl (by decide) (hCk hw.2.2.2.2.2 2 (by decide) rfl) tw_202 tw_203 tw_204 tw_16 tw_205 hd_X4_byteAt rfl hl.1 rfl (Nat.le_of_ble_eq_true rfl) dX4_numberOfToken_24 ⟨Nat.le_of_ble_eq_true rfl, Nat.le_of_ble_eq_true rfl⟩ rfl (fun H locs hw => ?_)
      refine lv_iadd X.1 X.2.1 dX4_numberOfToken_27 ?_
      refine lv_bipush (v := 48) X.1 X.2.1 dX4_numberOfToken_28 (by decide) ?_
      refine lv_isub X.1 X.2.1 dX4_numberOfToken_30 ?_
      refine r_mmin X hl.1 tw_319 (by decide) (Nat.le_of_ble_eq_true rfl) (by decide) (by decide) dX4_numberOfToken_31 ?_
      obtain ⟨v3, ev3, hf⟩ := bn_ok hf
      replace ev3 := Option.some.inj ev3
      refine lv_ren ev3 ?_
      refine lv_istore_n (lv' := [(1, .int v3), (0, .ref (B + 2)), (2, .int x2)]) X.1 X.2.1 dX4_numberOfToken_34 rfl hl (by decide) rfl (fun ls hl => ?_)
      obtain ⟨v4, ev4, hf⟩ := bn_ok hf
      replace ev4 := Option.some.inj ev4
      refine lv_iinc (v := v4) (lv' := [(2, .int v4), (1, .int v3), (0, .ref (B + 2))]) X.1 X.2.1 dX4_numberOfToken_35 hl (k := 2) rfl ev4 (by decide) rfl (fun ls hl => ?_)
      refine lv_goto (tgt := 7) X.1 X.2.1 dX4_numberOfToken_38 (by decide) ?_
      exact ih _ _ _ _ _ _ hf hw (lv_sub hl [2, 1, 0] rfl)
theorem hd_X4_numberOfToken : yX4_numberOfToken.cls = RX4 ∧ yX4_numberOfToken.cls ≠ "java/lang/invoke/MethodHandle" ∧ yX4_numberOfToken.cls ≠ "java/lang/invoke/VarHandle" ∧ (parseMethodDescriptor yX4_numberOfToken.desc).map (fun d => d.parameters.length) = some 0 := by decide +kernel
set_option maxHeartbeats 4000000 in
theorem c_X4_numberOfToken (l : Launch) (D : va_G) (B : Nat) (cy : Nat → ClassId) (A : Nat → Prop) (ad av : Nat → Nat)  {S Z : HS} {rv : Int32} (hfr : hFr S) (hG : hC S) (hf : fn_X4_numberOfToken S = some (rv, Z)) : hMet l yX4_numberOfToken cX4_numberOfToken 3 (some .int) ({ frames := 1, cells := 0, slots := 0, locals := 21 } : Room) D B cy A ad av true hC [.ref (B + 2)] S Z (some (.int rv)) 0 0 := by
  refine h_entry (by decide) hfr hG ?_
  intro p e s m below meth c args X hnm hw
  have hl := lv_entry ([.ref (B + 2)]) (n := 3) (Nat.le_of_ble_eq_true rfl)
  rw [lg_entry_eq]
  generalize (lg_sl ([.ref (B + 2)]) ++ List.replicate (3 - (lg_sl ([.ref (B + 2)])).length) Slot.unset).toArray = ls at hl ⊢
  have hl : lv_has ls 3 [(0, .ref (B + 2))] := hl
  unfold fn_X4_numberOfToken at hf
  refine lv_iconst (v := 0) X.1 X.2.1 dX4_numberOfToken_0 (by decide) ?_
  refine lv_istore_n (lv' := [(1, .int 0), (0, .ref (B + 2))]) X.1 X.2.1 dX4_numberOfToken_1 rfl hl (by decide) rfl (fun ls hl => ?_)
  refine lv_aload_n X.1 X.2.1 dX4_numberOfToken_2 rfl (lv_at hl 1 rfl) ?_
  refine r_getI X hw (κ := 5) rfl inlX4 3 (by decide) rfl (by decide) tw_186 (hCk hw.2.2.2.2.2 2 (by decide) rfl) dX4_numberOfToken_3 ?_
  obtain ⟨v1, ev1, hf⟩ := bn_ok hf
  replace ev1 := Option.some.inj ev1
  refine lv_ren ev1 ?_
  refine lv_istore_n (lv' := [(2, .int v1), (1, .int 0), (0, .ref (B + 2))]) X.1 X.2.1 dX4_numberOfToken_6 rfl hl (by decide) rfl (fun ls hl => ?_)
  exact w_X4_numberOfToken_7 X  _ _ _ _ _ _ _ hf hw (lv_sub hl [2, 1, 0] rfl)
set_option maxHeartbeats 4000000 in
theorem w_X4_refuse_17 {p : Program} {l : Launch} {e : Env} {s : State} {m : MethodId} {args : Array Value} {below : List Frame} {meth : Method} {c : Code} {D : va_G} {B : Nat} {cy : Nat → ClassId} {A : Nat → Prop} {ad av : Nat → Nat} {Z : HS} (X : hCX p s m args meth c RX4 cX4_refuse 3 none D cy A ad av)   (S : HS) (H : Heap) (locs : List Loc) (ls : Array Slot) (hf : fn_X4_refuse_17 S = some Z) (hw : hWd D B cy A true hC S s.heap H locs) (hl : lv_has ls 3 []) : W p l e ({ frames := 0, cells := 0, slots := 0, locals := 0 } : Room) s m args below meth c H locs 0 0 (MQ below (hQo D B cy A true hC Z none) args s 0 0 A) (F0 m 17 ls []) := by
  unfold fn_X4_refuse_17 at hf
  cases hf
  exact r_vret X hw dX4_refuse_17
theorem hd_X4_refuse : yX4_refuse.cls = RX4 ∧ yX4_refuse.cls ≠ "java/lang/invoke/MethodHandle" ∧ yX4_refuse.cls ≠ "java/lang/invoke/VarHandle" ∧ (parseMethodDescriptor yX4_refuse.desc).map (fun d => d.parameters.length) = some 2 := by decide +kernel
set_option maxHeartbeats 4000000 in
theorem c_X4_refuse (l : Launch) (D : va_G) (B : Nat) (cy : Nat → ClassId) (A : Nat → Prop) (ad av : Nat → Nat) (x1 : Int32) (x2 : Int32) {S Z : HS} (hfr : hFr S) (hG : hC S) (hf : fn_X4_refuse x1 x2 S = some Z) : hMet l yX4_refuse cX4_refuse 3 none ({ frames := 0, cells := 0, slots := 0, locals := 0 } : Room) D B cy A ad av true hC [.ref (B + 2), .int x1, .int x2] S Z none 0 0 := by
  refine h_entry (by decide) hfr hG ?_
  intro p e s m below meth c args X hnm hw
  have hl := lv_entry ([.ref (B + 2), .int x1, .int x2]) (n := 3) (Nat.le_of_ble_eq_true rfl)
  rw [lg_entry_eq]
  generalize (lg_sl ([.ref (B + 2), .int x1, .int x2]) ++ List.replicate (3 - (lg_sl ([.ref (B + 2), .int x1, .int x2])).length) Slot.unset).toArray = ls at hl ⊢
  have hl : lv_has ls 3 [(0, .ref (B + 2)), (1, .int x1), (2, .int x2)] := hl
  unfold fn_X4_refuse at hf
  refine lv_aload_n X.1 X.2.1 dX4_refuse_0 rfl (lv_at hl 0 rfl) ?_
  refine r_getI X hw (κ := 5) rfl inlX4 6 (by decide) rfl (by decide) tw_184 (hCk hw.2.2.2.2.2 2 (by decide) rfl) dX4_refuse_1 ?_
  refine lv_if_ne (tgt := 17) X.1 X.2.1 dX4_refuse_4 (by decide) (fun hq => ?_) (fun hq => ?_)
  · replace hf := cd_fk hq hf
    exact w_X4_refuse_17 X  _ _ _ _ hf hw (lv_sub hl [] rfl)
  · replace hf := cd_tk hq hf
    refine lv_aload_n X.1 X.2.1 dX4_refuse_7 rfl (lv_at hl 0 rfl) ?_
    refine lv_iload_n X.1 X.2.1 dX4_refuse_8 rfl (lv_at hl 1 rfl) ?_
    obtain ⟨S1, eS1, hf⟩ := bn_ok hf
    replace eS1 := Option.some.inj eS1
    refine r_putI X hw (κ := 5) rfl inlX4 tyX4 tyX4_ok nmX4 6 (by decide) rfl (by decide) tw_184 (Or.inl rfl) (hCk hw.2.2.2.2.2 2 (by decide) rfl) rfl rfl hw.2.2.2.2.2 dX4_refuse_9 (fun H locs hw => ?_)
    rw [eS1] at hw
    refine lv_aload_n X.1 X.2.1 dX4_refuse_12 rfl (lv_at hl 0 rfl) ?_
    refine lv_iload_n X.1 X.2.1 dX4_refuse_13 rfl (lv_at hl 2 rfl) ?_
    obtain ⟨S2, eS2, hf⟩ := bn_ok hf
    replace eS2 := Option.some.inj eS2
    refine r_putI X hw (κ := 5) rfl inlX4 tyX4 tyX4_ok nmX4 7 (by decide) rfl (by decide) tw_49 (Or.inl rfl) (hCk hw.2.2.2.2.2 2 (by decide) rfl) rfl rfl hw.2.2.2.2.2 dX4_refuse_14 (fun H locs hw => ?_)
    rw [eS2] at hw
    exact w_X4_refuse_17 X  _ _ _ _ hf hw (lv_sub hl [] rfl)
set_option maxHeartbeats 4000000 in
theorem w_X4_tokenIs_30 {p : Program} {l : Launch} {e : Env} {s : State} {m : MethodId} {args : Array Value} {below : List Frame} {meth : Method} {c : Code} {D : va_G} {B : Nat} {cy : Nat → ClassId} {A : Nat → Prop} {ad av : Nat → Nat} {rv : Int32} {Z : HS} (X : hCX p s m args meth c RX4 cX4_tokenIs 3 (some .boolean) D cy A ad av)  : ∀ (n : Nat) (x1 : Nat) (x2 : Int32) (S : HS) (H : Heap) (locs : List Loc) (ls : Array Slot), fn_X4_tokenIs_30 n x1 x2 S = some (rv, Z) → hWd D B cy A true hC S s.heap H locs → lv_has ls 3 [(0, .ref (B + 2)), (1, .ref (ad x1)), (2, .int x2)] → W p l e ({ frames := 4, cells := 0, slots := 0, locals := 85 } : Room) s m args below meth c H locs 0 0 (MQ below (hQo D B cy A true hC Z (some (.int rv))) args s 0 0 A) (F0 m 30 ls []) := by
  intro n
  induction n with
  | zero =>
    intro x1 x2 S H locs ls hf
    cases hf
  | succ n ih =>
    intro x1 x2 S H locs ls hf hw hl
    rw [fn_X4_tokenIs_30] at hf
    refine lv_iload_n X.1 X.2.1 dX4_tokenIs_30 rfl (lv_at hl 2 rfl) ?_
    refine lv_aload_n X.1 X.2.1 dX4_tokenIs_31 rfl (lv_at hl 1 rfl) ?_
    obtain ⟨g1, hf⟩ := gd_ok hf
    refine r_strlen X hw x1 g1 hl.1 tw_222 (Nat.le_of_ble_eq_true rfl) (Nat.le_of_ble_eq_true rfl) (Nat.le_of_ble_eq_true rfl) ⟨Nat.le_of_ble_eq_true rfl, Nat.le_of_ble_eq_true rfl⟩ dX4_tokenIs_32 (fun H locs hw => ?_)
    refine lv_icmp_ge (tgt := 64) X.1 X.2.1 dX4_tokenIs_35 (by decide) (fun hq => ?_) (fun hq => ?_)
    · replace hf := cd_tk hq hf
      refine lv_iconst (v := 1) X.1 X.2.1 dX4_tokenIs_64 (by decide) ?_
      cases hf
      exact r_zret X hw (by decide) dX4_tokenIs_65
    · replace hf := cd_fk hq hf
      refine lv_aload_n X.1 X.2.1 dX4_tokenIs_38 rfl (lv_at hl 0 rfl) ?_
      refine lv_aload_n X.1 X.2.1 dX4_tokenIs_39 rfl (lv_at hl 0 rfl) ?_
      refine r_getI X hw (κ := 5) rfl inlX4 3 (by decide) rfl (by decide) tw_186 (hCk hw.2.2.2.2.2 2 (by decide) rfl) dX4_tokenIs_40 ?_
      refine lv_iload_n X.1 X.2.1 dX4_tokenIs_43 rfl (lv_at hl 2 rfl) ?_
      refine lv_iadd X.1 X.2.1 dX4_tokenIs_44 ?_
      obtain ⟨r3, S2, hS2, hf⟩ := bn2_ok hf
      refine r_callV (As := [.int ((gI S 2 3) + x2)]) (rest := []) (st1 := [.int r3]) (κ := 5) X hw (c_X4_byteAt l D B cy A ad av ((gI S 2 3) + x2) hw.2.2.2.2.1 hw.2.2.2.2.2 hS2) ⟨rfl, rfl, Nat.le_of_ble_eq_true rfl, Nat.le_of_ble_eq_true rfl⟩ rfl (by decide) (hCk hw.2.2.2.2.2 2 (by decide) rfl) tw_202 tw_203 tw_204 tw_16 tw_205 hd_X4_byteAt rfl hl.1 rfl (Nat.le_of_ble_eq_true rfl) dX4_tokenIs_45 ⟨Nat.le_of_ble_eq_true rfl, Nat.le_of_ble_eq_true rfl⟩ rfl (fun H locs hw => ?_)
      refine lv_aload_n X.1 X.2.1 dX4_tokenIs_48 rfl (lv_at hl 1 rfl) ?_
      refine lv_iload_n X.1 X.2.1 dX4_tokenIs_49 rfl (lv_at hl 2 rfl) ?_
      obtain ⟨g4, hf⟩ := gd_ok hf
      obtain ⟨g5, hf⟩ := gd_ok hf
      refine r_strchar X hw x1 g4 g5 hl.1 tw_234 (Nat.le_of_ble_eq_true rfl) (Nat.le_of_ble_eq_true rfl) (Nat.le_of_ble_eq_true rfl) ⟨Nat.le_of_ble_eq_true rfl, Nat.le_of_ble_eq_true rfl⟩ dX4_tokenIs_50 (fun H locs hw => ?_)
      refine lv_icmp_eq (tgt := 58) X.1 X.2.1 dX4_tokenIs_53 (by decide) (fun hq => ?_) (fun hq => ?_)
      · replace hf := cd_tk hq hf
        obtain ⟨v6, ev6, hf⟩ := bn_ok hf
        replace ev6 := Option.some.inj ev6
        refine lv_iinc (v := v6) (lv' := [(2, .int v6), (0, .ref (B + 2)), (1, .ref (ad x1))]) X.1 X.2.1 dX4_tokenIs_58 hl (k := 2) rfl ev6 (by decide) rfl (fun ls hl => ?_)
        refine lv_goto (tgt := 30) X.1 X.2.1 dX4_tokenIs_61 (by decide) ?_
        exact ih _ _ _ _ _ _ hf hw (lv_sub hl [1, 2, 0] rfl)
      · replace hf := cd_fk hq hf
        refine lv_iconst (v := 0) X.1 X.2.1 dX4_tokenIs_56 (by decide) ?_
        cases hf
        exact r_zret X hw (by decide) dX4_tokenIs_57
set_option maxHeartbeats 4000000 in
theorem w_X4_tokenIs_26 {p : Program} {l : Launch} {e : Env} {s : State} {m : MethodId} {args : Array Value} {below : List Frame} {meth : Method} {c : Code} {D : va_G} {B : Nat} {cy : Nat → ClassId} {A : Nat → Prop} {ad av : Nat → Nat} {rv : Int32} {Z : HS} (X : hCX p s m args meth c RX4 cX4_tokenIs 3 (some .boolean) D cy A ad av)   (S : HS) (H : Heap) (locs : List Loc) (ls : Array Slot) (hf : fn_X4_tokenIs_26 S = some (rv, Z)) (hw : hWd D B cy A true hC S s.heap H locs) (hl : lv_has ls 3 []) : W p l e ({ frames := 4, cells := 0, slots := 0, locals := 85 } : Room) s m args below meth c H locs 0 0 (MQ below (hQo D B cy A true hC Z (some (.int rv))) args s 0 0 A) (F0 m 26 ls []) := by
  unfold fn_X4_tokenIs_26 at hf
  refine lv_iconst (v := 0) X.1 X.2.1 dX4_tokenIs_26 (by decide) ?_
  cases hf
  exact r_zret X hw (by decide) dX4_tokenIs_27
theorem hd_X4_tokenIs : yX4_tokenIs.cls = RX4 ∧ yX4_tokenIs.cls ≠ "java/lang/invoke/MethodHandle" ∧ yX4_tokenIs.cls ≠ "java/lang/invoke/VarHandle" ∧ (parseMethodDescriptor yX4_tokenIs.desc).map (fun d => d.parameters.length) = some 1 := by decide +kernel
set_option maxHeartbeats 4000000 in
theorem c_X4_tokenIs (l : Launch) (D : va_G) (B : Nat) (cy : Nat → ClassId) (A : Nat → Prop) (ad av : Nat → Nat) (x1 : Nat) {S Z : HS} {rv : Int32} (hfr : hFr S) (hG : hC S) (hf : fn_X4_tokenIs x1 S = some (rv, Z)) : hMet l yX4_tokenIs cX4_tokenIs 3 (some .boolean) ({ frames := 4, cells := 0, slots := 0, locals := 85 } : Room) D B cy A ad av true hC [.ref (B + 2), .ref (ad x1)] S Z (some (.int rv)) 0 0 := by
  refine h_entry (by decide) hfr hG ?_
  intro p e s m below meth c args X hnm hw
  have hl := lv_entry ([.ref (B + 2), .ref (ad x1)]) (n := 3) (Nat.le_of_ble_eq_true rfl)
  rw [lg_entry_eq]
  generalize (lg_sl ([.ref (B + 2), .ref (ad x1)]) ++ List.replicate (3 - (lg_sl ([.ref (B + 2), .ref (ad x1)])).length) Slot.unset).toArray = ls at hl ⊢
  have hl : lv_has ls 3 [(0, .ref (B + 2)), (1, .ref (ad x1))] := hl
  unfold fn_X4_tokenIs at hf
  refine lv_aload_n X.1 X.2.1 dX4_tokenIs_0 rfl (lv_at hl 0 rfl) ?_
  refine r_getI X hw (κ := 5) rfl inlX4 5 (by decide) rfl (by decide) tw_185 (hCk hw.2.2.2.2.2 2 (by decide) rfl) dX4_tokenIs_1 ?_
  refine lv_sipush (v := 257) X.1 X.2.1 dX4_tokenIs_4 (by decide) ?_
  refine lv_icmp_ne (tgt := 26) X.1 X.2.1 dX4_tokenIs_7 (by decide) (fun hq => ?_) (fun hq => ?_)
  · replace hf := cd_fk hq hf
    exact w_X4_tokenIs_26 X  _ _ _ _ hf hw (lv_sub hl [] rfl)
  · replace hf := cd_tk hq hf
    refine lv_aload_n X.1 X.2.1 dX4_tokenIs_10 rfl (lv_at hl 0 rfl) ?_
    refine r_getI X hw (κ := 5) rfl inlX4 4 (by decide) rfl (by decide) tw_193 (hCk hw.2.2.2.2.2 2 (by decide) rfl) dX4_tokenIs_11 ?_
    refine lv_aload_n X.1 X.2.1 dX4_tokenIs_14 rfl (lv_at hl 0 rfl) ?_
    refine r_getI X hw (κ := 5) rfl inlX4 3 (by decide) rfl (by decide) tw_186 (hCk hw.2.2.2.2.2 2 (by decide) rfl) dX4_tokenIs_15 ?_
    refine lv_isub X.1 X.2.1 dX4_tokenIs_18 ?_
    refine lv_aload_n X.1 X.2.1 dX4_tokenIs_19 rfl (lv_at hl 1 rfl) ?_
    obtain ⟨g1, hf⟩ := gd_ok hf
    refine r_strlen X hw x1 g1 hl.1 tw_222 (Nat.le_of_ble_eq_true rfl) (Nat.le_of_ble_eq_true rfl) (Nat.le_of_ble_eq_true rfl) ⟨Nat.le_of_ble_eq_true rfl, Nat.le_of_ble_eq_true rfl⟩ dX4_tokenIs_20 (fun H locs hw => ?_)
    refine lv_icmp_eq (tgt := 28) X.1 X.2.1 dX4_tokenIs_23 (by decide) (fun hq => ?_) (fun hq => ?_)
    · replace hf := cd_tk hq hf
      refine lv_iconst (v := 0) X.1 X.2.1 dX4_tokenIs_28 (by decide) ?_
      refine lv_istore_n (lv' := [(2, .int 0), (0, .ref (B + 2)), (1, .ref (ad x1))]) X.1 X.2.1 dX4_tokenIs_29 rfl hl (by decide) rfl (fun ls hl => ?_)
      exact w_X4_tokenIs_30 X  _ _ _ _ _ _ _ hf hw (lv_sub hl [1, 2, 0] rfl)
    · replace hf := cd_fk hq hf
      exact w_X4_tokenIs_26 X  _ _ _ _ hf hw (lv_sub hl [] rfl)
theorem hd_X4_spelling : yX4_spelling.cls ≠ "java/lang/invoke/MethodHandle" ∧ yX4_spelling.cls ≠ "java/lang/invoke/VarHandle" ∧ (parseMethodDescriptor yX4_spelling.desc).map (fun d => d.parameters.length) = some 1 := by decide +kernel
set_option maxHeartbeats 4000000 in
theorem c_X4_spelling (l : Launch) (D : va_G) (B : Nat) (cy : Nat → ClassId) (A : Nat → Prop) (ad av : Nat → Nat) (x0 : Int32) {S Z : HS} {rv : Nat} (hfr : hFr S) (hG : hC S) (hf : fn_X4_spelling x0 S = some (rv, Z)) : hMet l yX4_spelling cX4_spelling 1 (some (.object "java/lang/String")) ({ frames := 0, cells := 0, slots := 0, locals := 0 } : Room) D B cy A ad av true hC [.int x0] S Z (some (.ref (ad rv))) 0 0 := by
  refine h_entry (by decide) hfr hG ?_
  intro p e s m below meth c args X hnm hw
  have hl := lv_entry ([.int x0]) (n := 1) (Nat.le_of_ble_eq_true rfl)
  rw [lg_entry_eq]
  generalize (lg_sl ([.int x0]) ++ List.replicate (1 - (lg_sl ([.int x0])).length) Slot.unset).toArray = ls at hl ⊢
  have hl : lv_has ls 1 [(0, .int x0)] := hl
  unfold fn_X4_spelling at hf
  refine lv_iload_n X.1 X.2.1 dX4_spelling_0 rfl (lv_at hl 0 rfl) ?_
  by_cases hq0 : x0 = 0
  · replace hf := cd_tk hq0 hf
    refine lv_tableIn (off := 39) (tgt := 40) X.1 X.2.1 dX4_spelling_1 (by rw [hq0]; decide) (by rw [hq0]; decide) (by rw [hq0]; rfl) (by decide) ?_
    refine va_ldcS (q := ad 0) X.1 X.2.1 X.2.2.2.1 (X.2.2.2.2.2.2.1.2.1 0 (by decide)) dX4_spelling_40 ?_
    cases hf
    exact r_sret X hw dX4_spelling_42
  · replace hf := cd_fk hq0 hf
    by_cases hq1 : x0 = 1
    · replace hf := cd_tk hq1 hf
      refine lv_tableIn (off := 42) (tgt := 43) X.1 X.2.1 dX4_spelling_1 (by rw [hq1]; decide) (by rw [hq1]; decide) (by rw [hq1]; rfl) (by decide) ?_
      refine va_ldcS (q := ad 1) X.1 X.2.1 X.2.2.2.1 (X.2.2.2.2.2.2.1.2.1 1 (by decide)) dX4_spelling_43 ?_
      cases hf
      exact r_sret X hw dX4_spelling_45
    · replace hf := cd_fk hq1 hf
      by_cases hq2 : x0 = 2
      · replace hf := cd_tk hq2 hf
        refine lv_tableIn (off := 45) (tgt := 46) X.1 X.2.1 dX4_spelling_1 (by rw [hq2]; decide) (by rw [hq2]; decide) (by rw [hq2]; rfl) (by decide) ?_
        refine va_ldcS (q := ad 2) X.1 X.2.1 X.2.2.2.1 (X.2.2.2.2.2.2.1.2.1 2 (by decide)) dX4_spelling_46 ?_
        cases hf
        exact r_sret X hw dX4_spelling_48
      · replace hf := cd_fk hq2 hf
        by_cases hq3 : x0 = 3
        · replace hf := cd_tk hq3 hf
          refine lv_tableIn (off := 48) (tgt := 49) X.1 X.2.1 dX4_spelling_1 (by rw [hq3]; decide) (by rw [hq3]; decide) (by rw [hq3]; rfl) (by decide) ?_
          refine va_ldcS (q := ad 3) X.1 X.2.1 X.2.2.2.1 (X.2.2.2.2.2.2.1.2.1 3 (by decide)) dX4_spelling_49 ?_
          cases hf
          exact r_sret X hw dX4_spelling_51
        · replace hf := cd_fk hq3 hf
          by_cases hq4 : x0 = 4
          · replace hf := cd_tk hq4 hf
            refine lv_tableIn (off := 51) (tgt := 52) X.1 X.2.1 dX4_spelling_1 (by rw [hq4]; decide) (by rw [hq4]; decide) (by rw [hq4]; rfl) (by decide) ?_
            refine va_ldcS (q := ad 4) X.1 X.2.1 X.2.2.2.1 (X.2.2.2.2.2.2.1.2.1 4 (by decide)) dX4_spelling_52 ?_
            cases hf
            exact r_sret X hw dX4_spelling_54
          · replace hf := cd_fk hq4 hf
            by_cases hq5 : x0 = 5
            · replace hf := cd_tk hq5 hf
              refine lv_tableIn (off := 54) (tgt := 55) X.1 X.2.1 dX4_spelling_1 (by rw [hq5]; decide) (by rw [hq5]; decide) (by rw [hq5]; rfl) (by decide) ?_
              refine va_ldcS (q := ad 5) X.1 X.2.1 X.2.2.2.1 (X.2.2.2.2.2.2.1.2.1 5 (by decide)) dX4_spelling_55 ?_
              cases hf
              exact r_sret X hw dX4_spelling_57
            · replace hf := cd_fk hq5 hf
              have hout : x0.toInt < 0 ∨ 5 < x0.toInt := by
                have g0 := lv_neT (a := 0) hq0 rfl
                have g1 := lv_neT (a := 1) hq1 rfl
                have g2 := lv_neT (a := 2) hq2 rfl
                have g3 := lv_neT (a := 3) hq3 rfl
                have g4 := lv_neT (a := 4) hq4 rfl
                have g5 := lv_neT (a := 5) hq5 rfl
                omega
              refine lv_tableOut (tgt := 58) X.1 X.2.1 dX4_spelling_1 hout (by decide) ?_
              refine va_ldcS (q := ad 6) X.1 X.2.1 X.2.2.2.1 (X.2.2.2.2.2.2.1.2.1 6 (by decide)) dX4_spelling_58 ?_
              cases hf
              exact r_sret X hw dX4_spelling_60
set_option maxHeartbeats 4000000 in
theorem w_X4_wordOfToken_2 {p : Program} {l : Launch} {e : Env} {s : State} {m : MethodId} {args : Array Value} {below : List Frame} {meth : Method} {c : Code} {D : va_G} {B : Nat} {cy : Nat → ClassId} {A : Nat → Prop} {ad av : Nat → Nat} {rv : Int32} {Z : HS} (X : hCX p s m args meth c RX4 cX4_wordOfToken 2 (some .int) D cy A ad av)  : ∀ (n : Nat) (x1 : Int32) (S : HS) (H : Heap) (locs : List Loc) (ls : Array Slot), fn_X4_wordOfToken_2 n x1 S = some (rv, Z) → hWd D B cy A true hC S s.heap H locs → lv_has ls 2 [(0, .ref (B + 2)), (1, .int x1)] → W p l e ({ frames := 5, cells := 0, slots := 0, locals := 107 } : Room) s m args below meth c H locs 0 0 (MQ below (hQo D B cy A true hC Z (some (.int rv))) args s 0 0 A) (F0 m 2 ls []) := by
  intro n
  induction n with
  | zero =>
    intro x1 S H locs ls hf
    cases hf
  | succ n ih =>
    intro x1 S H locs ls hf hw hl
    rw [fn_X4_wordOfToken_2] at hf
    refine lv_iload_n X.1 X.2.1 dX4_wordOfToken_2 rfl (lv_at hl 1 rfl) ?_
    refine lv_bipush (v := 6) X.1 X.2.1 dX4_wordOfToken_3 (by decide) ?_
    refine lv_icmp_gt (tgt := 27) X.1 X.2.1 dX4_wordOfToken_5 (by decide) (fun hq => ?_) (fun hq => ?_)
    · replace hf := cd_tk hq hf
      refine lv_iconst (v := (-1)) X.1 X.2.1 dX4_wordOfToken_27 (by decide) ?_
      cases hf
      exact r_iret X hw dX4_wordOfToken_28
    · replace hf := cd_fk hq hf
      refine lv_aload_n X.1 X.2.1 dX4_wordOfToken_8 rfl (lv_at hl 0 rfl) ?_
      refine lv_iload_n X.1 X.2.1 dX4_wordOfToken_9 rfl (lv_at hl 1 rfl) ?_
      obtain ⟨r2, S1, hS1, hf⟩ := bn2_ok hf
      refine r_callS (As := [.int x1]) (rest := [.ref (B + 2)]) (st1 := [.ref (ad r2), .ref (B + 2)]) X hw (c_X4_spelling l D B cy A ad av x1 hw.2.2.2.2.1 hw.2.2.2.2.2 hS1) ⟨rfl, rfl, Nat.le_of_ble_eq_true rfl, Nat.le_of_ble_eq_true rfl⟩ tw_215 tw_216 tw_16 tw_217 hd_X4_spelling rfl hl.1 rfl (Nat.le_of_ble_eq_true rfl) dX4_wordOfToken_10 ⟨Nat.le_of_ble_eq_true rfl, Nat.le_of_ble_eq_true rfl⟩ rfl (fun H locs hw => ?_)
      obtain ⟨r4, S3, hS3, hf⟩ := bn2_ok hf
      refine r_callV (As := [.ref (ad r2)]) (rest := []) (st1 := [.int r4]) (κ := 5) X hw (c_X4_tokenIs l D B cy A ad av r2 hw.2.2.2.2.1 hw.2.2.2.2.2 hS3) ⟨rfl, rfl, Nat.le_of_ble_eq_true rfl, Nat.le_of_ble_eq_true rfl⟩ rfl (by decide) (hCk hw.2.2.2.2.2 2 (by decide) rfl) tw_218 tw_219 tw_220 tw_16 tw_221 hd_X4_tokenIs rfl hl.1 rfl (Nat.le_of_ble_eq_true rfl) dX4_wordOfToken_13 ⟨Nat.le_of_ble_eq_true rfl, Nat.le_of_ble_eq_true rfl⟩ rfl (fun H locs hw => ?_)
      refine lv_if_eq (tgt := 21) X.1 X.2.1 dX4_wordOfToken_16 (by decide) (fun hq => ?_) (fun hq => ?_)
      · replace hf := cd_tk hq hf
        obtain ⟨v5, ev5, hf⟩ := bn_ok hf
        replace ev5 := Option.some.inj ev5
        refine lv_iinc (v := v5) (lv' := [(1, .int v5), (0, .ref (B + 2))]) X.1 X.2.1 dX4_wordOfToken_21 hl (k := 1) rfl ev5 (by decide) rfl (fun ls hl => ?_)
        refine lv_goto (tgt := 2) X.1 X.2.1 dX4_wordOfToken_24 (by decide) ?_
        exact ih _ _ _ _ _ hf hw (lv_sub hl [1, 0] rfl)
      · replace hf := cd_fk hq hf
        refine lv_iload_n X.1 X.2.1 dX4_wordOfToken_19 rfl (lv_at hl 1 rfl) ?_
        cases hf
        exact r_iret X hw dX4_wordOfToken_20
theorem hd_X4_wordOfToken : yX4_wordOfToken.cls = RX4 ∧ yX4_wordOfToken.cls ≠ "java/lang/invoke/MethodHandle" ∧ yX4_wordOfToken.cls ≠ "java/lang/invoke/VarHandle" ∧ (parseMethodDescriptor yX4_wordOfToken.desc).map (fun d => d.parameters.length) = some 0 := by decide +kernel
set_option maxHeartbeats 4000000 in
theorem c_X4_wordOfToken (l : Launch) (D : va_G) (B : Nat) (cy : Nat → ClassId) (A : Nat → Prop) (ad av : Nat → Nat)  {S Z : HS} {rv : Int32} (hfr : hFr S) (hG : hC S) (hf : fn_X4_wordOfToken S = some (rv, Z)) : hMet l yX4_wordOfToken cX4_wordOfToken 2 (some .int) ({ frames := 5, cells := 0, slots := 0, locals := 107 } : Room) D B cy A ad av true hC [.ref (B + 2)] S Z (some (.int rv)) 0 0 := by
  refine h_entry (by decide) hfr hG ?_
  intro p e s m below meth c args X hnm hw
  have hl := lv_entry ([.ref (B + 2)]) (n := 2) (Nat.le_of_ble_eq_true rfl)
  rw [lg_entry_eq]
  generalize (lg_sl ([.ref (B + 2)]) ++ List.replicate (2 - (lg_sl ([.ref (B + 2)])).length) Slot.unset).toArray = ls at hl ⊢
  have hl : lv_has ls 2 [(0, .ref (B + 2))] := hl
  unfold fn_X4_wordOfToken at hf
  refine lv_iconst (v := 0) X.1 X.2.1 dX4_wordOfToken_0 (by decide) ?_
  refine lv_istore_n (lv' := [(1, .int 0), (0, .ref (B + 2))]) X.1 X.2.1 dX4_wordOfToken_1 rfl hl (by decide) rfl (fun ls hl => ?_)
  exact w_X4_wordOfToken_2 X  _ _ _ _ _ _ hf hw (lv_sub hl [1, 0] rfl)
set_option maxHeartbeats 4000000 in
theorem w_X4_takeLetter_42 {p : Program} {l : Launch} {e : Env} {s : State} {m : MethodId} {args : Array Value} {below : List Frame} {meth : Method} {c : Code} {D : va_G} {B : Nat} {cy : Nat → ClassId} {A : Nat → Prop} {ad av : Nat → Nat} {rv : Int32} {Z : HS} (X : hCX p s m args meth c RX4 cX4_takeLetter 4 (some .int) D cy A ad av)   (S : HS) (H : Heap) (locs : List Loc) (ls : Array Slot) (hf : fn_X4_takeLetter_42 S = some (rv, Z)) (hw : hWd D B cy A true hC S s.heap H locs) (hl : lv_has ls 4 [(0, .ref (B + 2))]) : W p l e ({ frames := 3, cells := 0, slots := 0, locals := 64 } : Room) s m args below meth c H locs 0 0 (MQ below (hQo D B cy A true hC Z (some (.int rv))) args s 0 0 A) (F0 m 42 ls []) := by
  unfold fn_X4_takeLetter_42 at hf
  refine lv_aload_n X.1 X.2.1 dX4_takeLetter_42 rfl (lv_at hl 0 rfl) ?_
  refine lv_iconst (v := 1) X.1 X.2.1 dX4_takeLetter_43 (by decide) ?_
  refine lv_aload_n X.1 X.2.1 dX4_takeLetter_44 rfl (lv_at hl 0 rfl) ?_
  refine r_getI X hw (κ := 5) rfl inlX4 3 (by decide) rfl (by decide) tw_186 (hCk hw.2.2.2.2.2 2 (by decide) rfl) dX4_takeLetter_45 ?_
  obtain ⟨S1, hS1, hf⟩ := bn_ok hf
  refine r_callV (As := [.int 1, .int (gI S 2 3)]) (rest := []) (st1 := []) (κ := 5) X hw (c_X4_refuse l D B cy A ad av 1 (gI S 2 3) hw.2.2.2.2.1 hw.2.2.2.2.2 hS1) ⟨rfl, rfl, Nat.le_of_ble_eq_true rfl, Nat.le_of_ble_eq_true rfl⟩ rfl (by decide) (hCk hw.2.2.2.2.2 2 (by decide) rfl) tw_271 tw_272 tw_273 tw_16 tw_274 hd_X4_refuse rfl hl.1 rfl (Nat.le_of_ble_eq_true rfl) dX4_takeLetter_48 ⟨Nat.le_of_ble_eq_true rfl, Nat.le_of_ble_eq_true rfl⟩ rfl (fun H locs hw => ?_)
  refine lv_iconst (v := 0) X.1 X.2.1 dX4_takeLetter_51 (by decide) ?_
  cases hf
  exact r_iret X hw dX4_takeLetter_52
theorem hd_X4_takeLetter : yX4_takeLetter.cls = RX4 ∧ yX4_takeLetter.cls ≠ "java/lang/invoke/MethodHandle" ∧ yX4_takeLetter.cls ≠ "java/lang/invoke/VarHandle" ∧ (parseMethodDescriptor yX4_takeLetter.desc).map (fun d => d.parameters.length) = some 2 := by decide +kernel
set_option maxHeartbeats 4000000 in
theorem c_X4_takeLetter (l : Launch) (D : va_G) (B : Nat) (cy : Nat → ClassId) (A : Nat → Prop) (ad av : Nat → Nat) (x1 : Int32) (x2 : Int32) {S Z : HS} {rv : Int32} (hfr : hFr S) (hG : hC S) (hf : fn_X4_takeLetter x1 x2 S = some (rv, Z)) : hMet l yX4_takeLetter cX4_takeLetter 4 (some .int) ({ frames := 3, cells := 0, slots := 0, locals := 64 } : Room) D B cy A ad av true hC [.ref (B + 2), .int x1, .int x2] S Z (some (.int rv)) 0 0 := by
  refine h_entry (by decide) hfr hG ?_
  intro p e s m below meth c args X hnm hw
  have hl := lv_entry ([.ref (B + 2), .int x1, .int x2]) (n := 4) (Nat.le_of_ble_eq_true rfl)
  rw [lg_entry_eq]
  generalize (lg_sl ([.ref (B + 2), .int x1, .int x2]) ++ List.replicate (4 - (lg_sl ([.ref (B + 2), .int x1, .int x2])).length) Slot.unset).toArray = ls at hl ⊢
  have hl : lv_has ls 4 [(0, .ref (B + 2)), (1, .int x1), (2, .int x2)] := hl
  unfold fn_X4_takeLetter at hf
  refine lv_aload_n X.1 X.2.1 dX4_takeLetter_0 rfl (lv_at hl 0 rfl) ?_
  refine lv_aload_n X.1 X.2.1 dX4_takeLetter_1 rfl (lv_at hl 0 rfl) ?_
  refine r_getI X hw (κ := 5) rfl inlX4 3 (by decide) rfl (by decide) tw_186 (hCk hw.2.2.2.2.2 2 (by decide) rfl) dX4_takeLetter_2 ?_
  obtain ⟨r2, S1, hS1, hf⟩ := bn2_ok hf
  refine r_callV (As := [.int (gI S 2 3)]) (rest := []) (st1 := [.int r2]) (κ := 5) X hw (c_X4_byteAt l D B cy A ad av (gI S 2 3) hw.2.2.2.2.1 hw.2.2.2.2.2 hS1) ⟨rfl, rfl, Nat.le_of_ble_eq_true rfl, Nat.le_of_ble_eq_true rfl⟩ rfl (by decide) (hCk hw.2.2.2.2.2 2 (by decide) rfl) tw_202 tw_203 tw_204 tw_16 tw_205 hd_X4_byteAt rfl hl.1 rfl (Nat.le_of_ble_eq_true rfl) dX4_takeLetter_5 ⟨Nat.le_of_ble_eq_true rfl, Nat.le_of_ble_eq_true rfl⟩ rfl (fun H locs hw => ?_)
  refine lv_istore_n (lv' := [(3, .int r2), (0, .ref (B + 2)), (1, .int x1), (2, .int x2)]) X.1 X.2.1 dX4_takeLetter_8 rfl hl (by decide) rfl (fun ls hl => ?_)
  refine lv_aload_n X.1 X.2.1 dX4_takeLetter_9 rfl (lv_at hl 1 rfl) ?_
  refine r_getI X hw (κ := 5) rfl inlX4 5 (by decide) rfl (by decide) tw_185 (hCk hw.2.2.2.2.2 2 (by decide) rfl) dX4_takeLetter_10 ?_
  refine lv_sipush (v := 257) X.1 X.2.1 dX4_takeLetter_13 (by decide) ?_
  refine lv_icmp_ne (tgt := 42) X.1 X.2.1 dX4_takeLetter_16 (by decide) (fun hq => ?_) (fun hq => ?_)
  · replace hf := cd_fk hq hf
    exact w_X4_takeLetter_42 X  _ _ _ _ hf hw (lv_sub hl [1] rfl)
  · replace hf := cd_tk hq hf
    refine lv_aload_n X.1 X.2.1 dX4_takeLetter_19 rfl (lv_at hl 1 rfl) ?_
    refine r_getI X hw (κ := 5) rfl inlX4 4 (by decide) rfl (by decide) tw_193 (hCk hw.2.2.2.2.2 2 (by decide) rfl) dX4_takeLetter_20 ?_
    refine lv_aload_n X.1 X.2.1 dX4_takeLetter_23 rfl (lv_at hl 1 rfl) ?_
    refine r_getI X hw (κ := 5) rfl inlX4 3 (by decide) rfl (by decide) tw_186 (hCk hw.2.2.2.2.2 2 (by decide) rfl) dX4_takeLetter_24 ?_
    refine lv_isub X.1 X.2.1 dX4_takeLetter_27 ?_
    refine lv_iconst (v := 1) X.1 X.2.1 dX4_takeLetter_28 (by decide) ?_
    refine lv_icmp_ne (tgt := 42) X.1 X.2.1 dX4_takeLetter_29 (by decide) (fun hq => ?_) (fun hq => ?_)
    · replace hf := cd_fk hq hf
      exact w_X4_takeLetter_42 X  _ _ _ _ hf hw (lv_sub hl [1] rfl)
    · replace hf := cd_tk hq hf
      refine lv_iload_n X.1 X.2.1 dX4_takeLetter_32 rfl (lv_at hl 0 rfl) ?_
      refine lv_iload_n X.1 X.2.1 dX4_takeLetter_33 rfl (lv_at hl 2 rfl) ?_
      refine lv_icmp_lt (tgt := 42) X.1 X.2.1 dX4_takeLetter_34 (by decide) (fun hq => ?_) (fun hq => ?_)
      · replace hf := cd_tk hq hf
        exact w_X4_takeLetter_42 X  _ _ _ _ hf hw (lv_sub hl [1] rfl)
      · replace hf := cd_fk hq hf
        refine lv_iload_n X.1 X.2.1 dX4_takeLetter_37 rfl (lv_at hl 0 rfl) ?_
        refine lv_iload_n X.1 X.2.1 dX4_takeLetter_38 rfl (lv_at hl 3 rfl) ?_
        refine lv_icmp_le (tgt := 53) X.1 X.2.1 dX4_takeLetter_39 (by decide) (fun hq => ?_) (fun hq => ?_)
        · replace hf := cd_tk hq hf
          refine lv_aload_n X.1 X.2.1 dX4_takeLetter_53 rfl (lv_at hl 1 rfl) ?_
          obtain ⟨S3, hS3, hf⟩ := bn_ok hf
          refine r_callV (As := []) (rest := []) (st1 := []) (κ := 5) X hw (c_X4_advance l D B cy A ad av  hw.2.2.2.2.1 hw.2.2.2.2.2 hS3) ⟨rfl, rfl, Nat.le_of_ble_eq_true rfl, Nat.le_of_ble_eq_true rfl⟩ rfl (by decide) (hCk hw.2.2.2.2.2 2 (by decide) rfl) tw_194 tw_195 tw_196 tw_16 tw_197 hd_X4_advance rfl hl.1 rfl (Nat.le_of_ble_eq_true rfl) dX4_takeLetter_54 ⟨Nat.le_of_ble_eq_true rfl, Nat.le_of_ble_eq_true rfl⟩ rfl (fun H locs hw => ?_)
          refine lv_iload_n X.1 X.2.1 dX4_takeLetter_57 rfl (lv_at hl 0 rfl) ?_
          refine lv_iload_n X.1 X.2.1 dX4_takeLetter_58 rfl (lv_at hl 2 rfl) ?_
          refine lv_isub X.1 X.2.1 dX4_takeLetter_59 ?_
          cases hf
          exact r_iret X hw dX4_takeLetter_60
        · replace hf := cd_fk hq hf
          exact w_X4_takeLetter_42 X  _ _ _ _ hf hw (lv_sub hl [1] rfl)
set_option maxHeartbeats 4000000 in
theorem w_X4_takeRelation_35 {p : Program} {l : Launch} {e : Env} {s : State} {m : MethodId} {args : Array Value} {below : List Frame} {meth : Method} {c : Code} {D : va_G} {B : Nat} {cy : Nat → ClassId} {A : Nat → Prop} {ad av : Nat → Nat} {rv : Int32} {Z : HS} (X : hCX p s m args meth c RX4 cX4_takeRelation 2 (some .int) D cy A ad av)  (x1 : Int32) (S : HS) (H : Heap) (locs : List Loc) (ls : Array Slot) (hf : fn_X4_takeRelation_35 x1 S = some (rv, Z)) (hw : hWd D B cy A true hC S s.heap H locs) (hl : lv_has ls 2 [(0, .ref (B + 2)), (1, .int x1)]) : W p l e ({ frames := 3, cells := 0, slots := 0, locals := 64 } : Room) s m args below meth c H locs 0 0 (MQ below (hQo D B cy A true hC Z (some (.int rv))) args s 0 0 A) (F0 m 35 ls []) := by
  unfold fn_X4_takeRelation_35 at hf
  refine lv_aload_n X.1 X.2.1 dX4_takeRelation_35 rfl (lv_at hl 0 rfl) ?_
  obtain ⟨S1, hS1, hf⟩ := bn_ok hf
  refine r_callV (As := []) (rest := []) (st1 := []) (κ := 5) X hw (c_X4_advance l D B cy A ad av  hw.2.2.2.2.1 hw.2.2.2.2.2 hS1) ⟨rfl, rfl, Nat.le_of_ble_eq_true rfl, Nat.le_of_ble_eq_true rfl⟩ rfl (by decide) (hCk hw.2.2.2.2.2 2 (by decide) rfl) tw_194 tw_195 tw_196 tw_16 tw_197 hd_X4_advance rfl hl.1 rfl (Nat.le_of_ble_eq_true rfl) dX4_takeRelation_36 ⟨Nat.le_of_ble_eq_true rfl, Nat.le_of_ble_eq_true rfl⟩ rfl (fun H locs hw => ?_)
  refine lv_iload_n X.1 X.2.1 dX4_takeRelation_39 rfl (lv_at hl 1 rfl) ?_
  cases hf
  exact r_iret X hw dX4_takeRelation_40
theorem hd_X4_takeRelation : yX4_takeRelation.cls = RX4 ∧ yX4_takeRelation.cls ≠ "java/lang/invoke/MethodHandle" ∧ yX4_takeRelation.cls ≠ "java/lang/invoke/VarHandle" ∧ (parseMethodDescriptor yX4_takeRelation.desc).map (fun d => d.parameters.length) = some 0 := by decide +kernel
set_option maxHeartbeats 4000000 in
theorem c_X4_takeRelation (l : Launch) (D : va_G) (B : Nat) (cy : Nat → ClassId) (A : Nat → Prop) (ad av : Nat → Nat)  {S Z : HS} {rv : Int32} (hfr : hFr S) (hG : hC S) (hf : fn_X4_takeRelation S = some (rv, Z)) : hMet l yX4_takeRelation cX4_takeRelation 2 (some .int) ({ frames := 3, cells := 0, slots := 0, locals := 64 } : Room) D B cy A ad av true hC [.ref (B + 2)] S Z (some (.int rv)) 0 0 := by
  refine h_entry (by decide) hfr hG ?_
  intro p e s m below meth c args X hnm hw
  have hl := lv_entry ([.ref (B + 2)]) (n := 2) (Nat.le_of_ble_eq_true rfl)
  rw [lg_entry_eq]
  generalize (lg_sl ([.ref (B + 2)]) ++ List.replicate (2 - (lg_sl ([.ref (B + 2)])).length) Slot.unset).toArray = ls at hl ⊢
  have hl : lv_has ls 2 [(0, .ref (B + 2))] := hl
  unfold fn_X4_takeRelation at hf
  refine lv_aload_n X.1 X.2.1 dX4_takeRelation_0 rfl (lv_at hl 0 rfl) ?_
  refine r_getI X hw (κ := 5) rfl inlX4 5 (by decide) rfl (by decide) tw_185 (hCk hw.2.2.2.2.2 2 (by decide) rfl) dX4_takeRelation_1 ?_
  obtain ⟨v1, ev1, hf⟩ := bn_ok hf
  replace ev1 := Option.some.inj ev1
  refine lv_ren ev1 ?_
  refine lv_istore_n (lv' := [(1, .int v1), (0, .ref (B + 2))]) X.1 X.2.1 dX4_takeRelation_4 rfl hl (by decide) rfl (fun ls hl => ?_)
  refine lv_iload_n X.1 X.2.1 dX4_takeRelation_5 rfl (lv_at hl 0 rfl) ?_
  refine lv_bipush (v := 60) X.1 X.2.1 dX4_takeRelation_6 (by decide) ?_
  refine lv_icmp_eq (tgt := 35) X.1 X.2.1 dX4_takeRelation_8 (by decide) (fun hq => ?_) (fun hq => ?_)
  · replace hf := cd_tk hq hf
    exact w_X4_takeRelation_35 X  _ _ _ _ _ hf hw (lv_sub hl [1, 0] rfl)
  · replace hf := cd_fk hq hf
    refine lv_iload_n X.1 X.2.1 dX4_takeRelation_11 rfl (lv_at hl 0 rfl) ?_
    refine lv_bipush (v := 62) X.1 X.2.1 dX4_takeRelation_12 (by decide) ?_
    refine lv_icmp_eq (tgt := 35) X.1 X.2.1 dX4_takeRelation_14 (by decide) (fun hq => ?_) (fun hq => ?_)
    · replace hf := cd_tk hq hf
      exact w_X4_takeRelation_35 X  _ _ _ _ _ hf hw (lv_sub hl [1, 0] rfl)
    · replace hf := cd_fk hq hf
      refine lv_iload_n X.1 X.2.1 dX4_takeRelation_17 rfl (lv_at hl 0 rfl) ?_
      refine lv_bipush (v := 61) X.1 X.2.1 dX4_takeRelation_18 (by decide) ?_
      refine lv_icmp_eq (tgt := 35) X.1 X.2.1 dX4_takeRelation_20 (by decide) (fun hq => ?_) (fun hq => ?_)
      · replace hf := cd_tk hq hf
        exact w_X4_takeRelation_35 X  _ _ _ _ _ hf hw (lv_sub hl [1, 0] rfl)
      · replace hf := cd_fk hq hf
        refine lv_aload_n X.1 X.2.1 dX4_takeRelation_23 rfl (lv_at hl 1 rfl) ?_
        refine lv_iconst (v := 1) X.1 X.2.1 dX4_takeRelation_24 (by decide) ?_
        refine lv_aload_n X.1 X.2.1 dX4_takeRelation_25 rfl (lv_at hl 1 rfl) ?_
        refine r_getI X hw (κ := 5) rfl inlX4 3 (by decide) rfl (by decide) tw_186 (hCk hw.2.2.2.2.2 2 (by decide) rfl) dX4_takeRelation_26 ?_
        obtain ⟨S2, hS2, hf⟩ := bn_ok hf
        refine r_callV (As := [.int 1, .int (gI S 2 3)]) (rest := []) (st1 := []) (κ := 5) X hw (c_X4_refuse l D B cy A ad av 1 (gI S 2 3) hw.2.2.2.2.1 hw.2.2.2.2.2 hS2) ⟨rfl, rfl, Nat.le_of_ble_eq_true rfl, Nat.le_of_ble_eq_true rfl⟩ rfl (by decide) (hCk hw.2.2.2.2.2 2 (by decide) rfl) tw_271 tw_272 tw_273 tw_16 tw_274 hd_X4_refuse rfl hl.1 rfl (Nat.le_of_ble_eq_true rfl) dX4_takeRelation_29 ⟨Nat.le_of_ble_eq_true rfl, Nat.le_of_ble_eq_true rfl⟩ rfl (fun H locs hw => ?_)
        refine lv_bipush (v := 61) X.1 X.2.1 dX4_takeRelation_32 (by decide) ?_
        cases hf
        exact r_iret X hw dX4_takeRelation_34
set_option maxHeartbeats 4000000 in
theorem w_X4_takeNumber_42 {p : Program} {l : Launch} {e : Env} {s : State} {m : MethodId} {args : Array Value} {below : List Frame} {meth : Method} {c : Code} {D : va_G} {B : Nat} {cy : Nat → ClassId} {A : Nat → Prop} {ad av : Nat → Nat} {rv : Int32} {Z : HS} (X : hCX p s m args meth c RX4 cX4_takeNumber 2 (some .int) D cy A ad av)  (x1 : Int32) (S : HS) (H : Heap) (locs : List Loc) (ls : Array Slot) (hf : fn_X4_takeNumber_42 x1 S = some (rv, Z)) (hw : hWd D B cy A true hC S s.heap H locs) (hl : lv_has ls 2 [(0, .ref (B + 2)), (1, .int x1)]) : W p l e ({ frames := 3, cells := 0, slots := 0, locals := 64 } : Room) s m args below meth c H locs 0 0 (MQ below (hQo D B cy A true hC Z (some (.int rv))) args s 0 0 A) (F0 m 42 ls []) := by
  unfold fn_X4_takeNumber_42 at hf
  refine lv_aload_n X.1 X.2.1 dX4_takeNumber_42 rfl (lv_at hl 0 rfl) ?_
  obtain ⟨S1, hS1, hf⟩ := bn_ok hf
  refine r_callV (As := []) (rest := []) (st1 := []) (κ := 5) X hw (c_X4_advance l D B cy A ad av  hw.2.2.2.2.1 hw.2.2.2.2.2 hS1) ⟨rfl, rfl, Nat.le_of_ble_eq_true rfl, Nat.le_of_ble_eq_true rfl⟩ rfl (by decide) (hCk hw.2.2.2.2.2 2 (by decide) rfl) tw_194 tw_195 tw_196 tw_16 tw_197 hd_X4_advance rfl hl.1 rfl (Nat.le_of_ble_eq_true rfl) dX4_takeNumber_43 ⟨Nat.le_of_ble_eq_true rfl, Nat.le_of_ble_eq_true rfl⟩ rfl (fun H locs hw => ?_)
  refine lv_iload_n X.1 X.2.1 dX4_takeNumber_46 rfl (lv_at hl 1 rfl) ?_
  cases hf
  exact r_iret X hw dX4_takeNumber_47
theorem hd_X4_takeNumber : yX4_takeNumber.cls = RX4 ∧ yX4_takeNumber.cls ≠ "java/lang/invoke/MethodHandle" ∧ yX4_takeNumber.cls ≠ "java/lang/invoke/VarHandle" ∧ (parseMethodDescriptor yX4_takeNumber.desc).map (fun d => d.parameters.length) = some 0 := by decide +kernel
set_option maxHeartbeats 4000000 in
theorem c_X4_takeNumber (l : Launch) (D : va_G) (B : Nat) (cy : Nat → ClassId) (A : Nat → Prop) (ad av : Nat → Nat)  {S Z : HS} {rv : Int32} (hfr : hFr S) (hG : hC S) (hf : fn_X4_takeNumber S = some (rv, Z)) : hMet l yX4_takeNumber cX4_takeNumber 2 (some .int) ({ frames := 3, cells := 0, slots := 0, locals := 64 } : Room) D B cy A ad av true hC [.ref (B + 2)] S Z (some (.int rv)) 0 0 := by
  refine h_entry (by decide) hfr hG ?_
  intro p e s m below meth c args X hnm hw
  have hl := lv_entry ([.ref (B + 2)]) (n := 2) (Nat.le_of_ble_eq_true rfl)
  rw [lg_entry_eq]
  generalize (lg_sl ([.ref (B + 2)]) ++ List.replicate (2 - (lg_sl ([.ref (B + 2)])).length) Slot.unset).toArray = ls at hl ⊢
  have hl : lv_has ls 2 [(0, .ref (B + 2))] := hl
  unfold fn_X4_takeNumber at hf
  refine lv_aload_n X.1 X.2.1 dX4_takeNumber_0 rfl (lv_at hl 0 rfl) ?_
  refine r_getI X hw (κ := 5) rfl inlX4 5 (by decide) rfl (by decide) tw_185 (hCk hw.2.2.2.2.2 2 (by decide) rfl) dX4_takeNumber_1 ?_
  refine lv_sipush (v := 258) X.1 X.2.1 dX4_takeNumber_4 (by decide) ?_
  refine lv_icmp_eq (tgt := 21) X.1 X.2.1 dX4_takeNumber_7 (by decide) (fun hq => ?_) (fun hq => ?_)
  · replace hf := cd_tk hq hf
    refine lv_aload_n X.1 X.2.1 dX4_takeNumber_21 rfl (lv_at hl 0 rfl) ?_
    obtain ⟨r2, S1, hS1, hf⟩ := bn2_ok hf
    refine r_callV (As := []) (rest := []) (st1 := [.int r2]) (κ := 5) X hw (c_X4_numberOfToken l D B cy A ad av  hw.2.2.2.2.1 hw.2.2.2.2.2 hS1) ⟨rfl, rfl, Nat.le_of_ble_eq_true rfl, Nat.le_of_ble_eq_true rfl⟩ rfl (by decide) (hCk hw.2.2.2.2.2 2 (by decide) rfl) tw_315 tw_316 tw_317 tw_16 tw_318 hd_X4_numberOfToken rfl hl.1 rfl (Nat.le_of_ble_eq_true rfl) dX4_takeNumber_22 ⟨Nat.le_of_ble_eq_true rfl, Nat.le_of_ble_eq_true rfl⟩ rfl (fun H locs hw => ?_)
    refine lv_istore_n (lv' := [(1, .int r2), (0, .ref (B + 2))]) X.1 X.2.1 dX4_takeNumber_25 rfl hl (by decide) rfl (fun ls hl => ?_)
    refine lv_iload_n X.1 X.2.1 dX4_takeNumber_26 rfl (lv_at hl 0 rfl) ?_
    refine lv_sipush (v := 9999) X.1 X.2.1 dX4_takeNumber_27 (by decide) ?_
    refine lv_icmp_le (tgt := 42) X.1 X.2.1 dX4_takeNumber_30 (by decide) (fun hq => ?_) (fun hq => ?_)
    · replace hf := cd_tk hq hf
      exact w_X4_takeNumber_42 X  _ _ _ _ _ hf hw (lv_sub hl [1, 0] rfl)
    · replace hf := cd_fk hq hf
      refine lv_aload_n X.1 X.2.1 dX4_takeNumber_33 rfl (lv_at hl 1 rfl) ?_
      refine lv_iconst (v := 2) X.1 X.2.1 dX4_takeNumber_34 (by decide) ?_
      refine lv_aload_n X.1 X.2.1 dX4_takeNumber_35 rfl (lv_at hl 1 rfl) ?_
      refine r_getI X hw (κ := 5) rfl inlX4 3 (by decide) rfl (by decide) tw_186 (hCk hw.2.2.2.2.2 2 (by decide) rfl) dX4_takeNumber_36 ?_
      obtain ⟨S3, hS3, hf⟩ := bn_ok hf
      refine r_callV (As := [.int 2, .int (gI S1 2 3)]) (rest := []) (st1 := []) (κ := 5) X hw (c_X4_refuse l D B cy A ad av 2 (gI S1 2 3) hw.2.2.2.2.1 hw.2.2.2.2.2 hS3) ⟨rfl, rfl, Nat.le_of_ble_eq_true rfl, Nat.le_of_ble_eq_true rfl⟩ rfl (by decide) (hCk hw.2.2.2.2.2 2 (by decide) rfl) tw_271 tw_272 tw_273 tw_16 tw_274 hd_X4_refuse rfl hl.1 rfl (Nat.le_of_ble_eq_true rfl) dX4_takeNumber_39 ⟨Nat.le_of_ble_eq_true rfl, Nat.le_of_ble_eq_true rfl⟩ rfl (fun H locs hw => ?_)
      exact w_X4_takeNumber_42 X  _ _ _ _ _ hf hw (lv_sub hl [1, 0] rfl)
  · replace hf := cd_fk hq hf
    refine lv_aload_n X.1 X.2.1 dX4_takeNumber_10 rfl (lv_at hl 0 rfl) ?_
    refine lv_iconst (v := 1) X.1 X.2.1 dX4_takeNumber_11 (by decide) ?_
    refine lv_aload_n X.1 X.2.1 dX4_takeNumber_12 rfl (lv_at hl 0 rfl) ?_
    refine r_getI X hw (κ := 5) rfl inlX4 3 (by decide) rfl (by decide) tw_186 (hCk hw.2.2.2.2.2 2 (by decide) rfl) dX4_takeNumber_13 ?_
    obtain ⟨S4, hS4, hf⟩ := bn_ok hf
    refine r_callV (As := [.int 1, .int (gI S 2 3)]) (rest := []) (st1 := []) (κ := 5) X hw (c_X4_refuse l D B cy A ad av 1 (gI S 2 3) hw.2.2.2.2.1 hw.2.2.2.2.2 hS4) ⟨rfl, rfl, Nat.le_of_ble_eq_true rfl, Nat.le_of_ble_eq_true rfl⟩ rfl (by decide) (hCk hw.2.2.2.2.2 2 (by decide) rfl) tw_271 tw_272 tw_273 tw_16 tw_274 hd_X4_refuse rfl hl.1 rfl (Nat.le_of_ble_eq_true rfl) dX4_takeNumber_16 ⟨Nat.le_of_ble_eq_true rfl, Nat.le_of_ble_eq_true rfl⟩ rfl (fun H locs hw => ?_)
    refine lv_iconst (v := 0) X.1 X.2.1 dX4_takeNumber_19 (by decide) ?_
    cases hf
    exact r_iret X hw dX4_takeNumber_20
theorem hd_X4_takeSign : yX4_takeSign.cls = RX4 ∧ yX4_takeSign.cls ≠ "java/lang/invoke/MethodHandle" ∧ yX4_takeSign.cls ≠ "java/lang/invoke/VarHandle" ∧ (parseMethodDescriptor yX4_takeSign.desc).map (fun d => d.parameters.length) = some 1 := by decide +kernel
set_option maxHeartbeats 4000000 in
theorem c_X4_takeSign (l : Launch) (D : va_G) (B : Nat) (cy : Nat → ClassId) (A : Nat → Prop) (ad av : Nat → Nat) (x1 : Int32) {S Z : HS} (hfr : hFr S) (hG : hC S) (hf : fn_X4_takeSign x1 S = some Z) : hMet l yX4_takeSign cX4_takeSign 2 none ({ frames := 3, cells := 0, slots := 0, locals := 64 } : Room) D B cy A ad av true hC [.ref (B + 2), .int x1] S Z none 0 0 := by
  refine h_entry (by decide) hfr hG ?_
  intro p e s m below meth c args X hnm hw
  have hl := lv_entry ([.ref (B + 2), .int x1]) (n := 2) (Nat.le_of_ble_eq_true rfl)
  rw [lg_entry_eq]
  generalize (lg_sl ([.ref (B + 2), .int x1]) ++ List.replicate (2 - (lg_sl ([.ref (B + 2), .int x1])).length) Slot.unset).toArray = ls at hl ⊢
  have hl : lv_has ls 2 [(0, .ref (B + 2)), (1, .int x1)] := hl
  unfold fn_X4_takeSign at hf
  refine lv_aload_n X.1 X.2.1 dX4_takeSign_0 rfl (lv_at hl 0 rfl) ?_
  refine r_getI X hw (κ := 5) rfl inlX4 5 (by decide) rfl (by decide) tw_185 (hCk hw.2.2.2.2.2 2 (by decide) rfl) dX4_takeSign_1 ?_
  refine lv_iload_n X.1 X.2.1 dX4_takeSign_4 rfl (lv_at hl 1 rfl) ?_
  refine lv_icmp_eq (tgt := 18) X.1 X.2.1 dX4_takeSign_5 (by decide) (fun hq => ?_) (fun hq => ?_)
  · replace hf := cd_tk hq hf
    refine lv_aload_n X.1 X.2.1 dX4_takeSign_18 rfl (lv_at hl 0 rfl) ?_
    obtain ⟨S1, hS1, hf⟩ := bn_ok hf
    refine r_callV (As := []) (rest := []) (st1 := []) (κ := 5) X hw (c_X4_advance l D B cy A ad av  hw.2.2.2.2.1 hw.2.2.2.2.2 hS1) ⟨rfl, rfl, Nat.le_of_ble_eq_true rfl, Nat.le_of_ble_eq_true rfl⟩ rfl (by decide) (hCk hw.2.2.2.2.2 2 (by decide) rfl) tw_194 tw_195 tw_196 tw_16 tw_197 hd_X4_advance rfl hl.1 rfl (Nat.le_of_ble_eq_true rfl) dX4_takeSign_19 ⟨Nat.le_of_ble_eq_true rfl, Nat.le_of_ble_eq_true rfl⟩ rfl (fun H locs hw => ?_)
    cases hf
    exact r_vret X hw dX4_takeSign_22
  · replace hf := cd_fk hq hf
    refine lv_aload_n X.1 X.2.1 dX4_takeSign_8 rfl (lv_at hl 0 rfl) ?_
    refine lv_iconst (v := 1) X.1 X.2.1 dX4_takeSign_9 (by decide) ?_
    refine lv_aload_n X.1 X.2.1 dX4_takeSign_10 rfl (lv_at hl 0 rfl) ?_
    refine r_getI X hw (κ := 5) rfl inlX4 3 (by decide) rfl (by decide) tw_186 (hCk hw.2.2.2.2.2 2 (by decide) rfl) dX4_takeSign_11 ?_
    obtain ⟨S2, hS2, hf⟩ := bn_ok hf
    refine r_callV (As := [.int 1, .int (gI S 2 3)]) (rest := []) (st1 := []) (κ := 5) X hw (c_X4_refuse l D B cy A ad av 1 (gI S 2 3) hw.2.2.2.2.1 hw.2.2.2.2.2 hS2) ⟨rfl, rfl, Nat.le_of_ble_eq_true rfl, Nat.le_of_ble_eq_true rfl⟩ rfl (by decide) (hCk hw.2.2.2.2.2 2 (by decide) rfl) tw_271 tw_272 tw_273 tw_16 tw_274 hd_X4_refuse rfl hl.1 rfl (Nat.le_of_ble_eq_true rfl) dX4_takeSign_14 ⟨Nat.le_of_ble_eq_true rfl, Nat.le_of_ble_eq_true rfl⟩ rfl (fun H locs hw => ?_)
    cases hf
    exact r_vret X hw dX4_takeSign_17
theorem hd_X4_takeFrom : yX4_takeFrom.cls = RX4 ∧ yX4_takeFrom.cls ≠ "java/lang/invoke/MethodHandle" ∧ yX4_takeFrom.cls ≠ "java/lang/invoke/VarHandle" ∧ (parseMethodDescriptor yX4_takeFrom.desc).map (fun d => d.parameters.length) = some 0 := by decide +kernel
set_option maxHeartbeats 4000000 in
theorem c_X4_takeFrom (l : Launch) (D : va_G) (B : Nat) (cy : Nat → ClassId) (A : Nat → Prop) (ad av : Nat → Nat)  {S Z : HS} (hfr : hFr S) (hG : hC S) (hf : fn_X4_takeFrom S = some Z) : hMet l yX4_takeFrom cX4_takeFrom 1 none ({ frames := 5, cells := 0, slots := 0, locals := 107 } : Room) D B cy A ad av true hC [.ref (B + 2)] S Z none 0 0 := by
  refine h_entry (by decide) hfr hG ?_
  intro p e s m below meth c args X hnm hw
  have hl := lv_entry ([.ref (B + 2)]) (n := 1) (Nat.le_of_ble_eq_true rfl)
  rw [lg_entry_eq]
  generalize (lg_sl ([.ref (B + 2)]) ++ List.replicate (1 - (lg_sl ([.ref (B + 2)])).length) Slot.unset).toArray = ls at hl ⊢
  have hl : lv_has ls 1 [(0, .ref (B + 2))] := hl
  unfold fn_X4_takeFrom at hf
  refine lv_aload_n X.1 X.2.1 dX4_takeFrom_0 rfl (lv_at hl 0 rfl) ?_
  refine va_ldcS (q := ad 7) X.1 X.2.1 X.2.2.2.1 (X.2.2.2.2.2.2.1.2.1 7 (by decide)) dX4_takeFrom_1 ?_
  obtain ⟨r2, S1, hS1, hf⟩ := bn2_ok hf
  refine r_callV (As := [.ref (ad 7)]) (rest := []) (st1 := [.int r2]) (κ := 5) X hw (c_X4_tokenIs l D B cy A ad av 7 hw.2.2.2.2.1 hw.2.2.2.2.2 hS1) ⟨rfl, rfl, Nat.le_of_ble_eq_true rfl, Nat.le_of_ble_eq_true rfl⟩ rfl (by decide) (hCk hw.2.2.2.2.2 2 (by decide) rfl) tw_218 tw_219 tw_220 tw_16 tw_221 hd_X4_tokenIs rfl hl.1 rfl (Nat.le_of_ble_eq_true rfl) dX4_takeFrom_3 ⟨Nat.le_of_ble_eq_true rfl, Nat.le_of_ble_eq_true rfl⟩ rfl (fun H locs hw => ?_)
  refine lv_if_ne (tgt := 19) X.1 X.2.1 dX4_takeFrom_6 (by decide) (fun hq => ?_) (fun hq => ?_)
  · replace hf := cd_fk hq hf
    refine lv_aload_n X.1 X.2.1 dX4_takeFrom_19 rfl (lv_at hl 0 rfl) ?_
    obtain ⟨S3, hS3, hf⟩ := bn_ok hf
    refine r_callV (As := []) (rest := []) (st1 := []) (κ := 5) X hw (c_X4_advance l D B cy A ad av  hw.2.2.2.2.1 hw.2.2.2.2.2 hS3) ⟨rfl, rfl, Nat.le_of_ble_eq_true rfl, Nat.le_of_ble_eq_true rfl⟩ rfl (by decide) (hCk hw.2.2.2.2.2 2 (by decide) rfl) tw_194 tw_195 tw_196 tw_16 tw_197 hd_X4_advance rfl hl.1 rfl (Nat.le_of_ble_eq_true rfl) dX4_takeFrom_20 ⟨Nat.le_of_ble_eq_true rfl, Nat.le_of_ble_eq_true rfl⟩ rfl (fun H locs hw => ?_)
    cases hf
    exact r_vret X hw dX4_takeFrom_23
  · replace hf := cd_tk hq hf
    refine lv_aload_n X.1 X.2.1 dX4_takeFrom_9 rfl (lv_at hl 0 rfl) ?_
    refine lv_iconst (v := 1) X.1 X.2.1 dX4_takeFrom_10 (by decide) ?_
    refine lv_aload_n X.1 X.2.1 dX4_takeFrom_11 rfl (lv_at hl 0 rfl) ?_
    refine r_getI X hw (κ := 5) rfl inlX4 3 (by decide) rfl (by decide) tw_186 (hCk hw.2.2.2.2.2 2 (by decide) rfl) dX4_takeFrom_12 ?_
    obtain ⟨S4, hS4, hf⟩ := bn_ok hf
    refine r_callV (As := [.int 1, .int (gI S1 2 3)]) (rest := []) (st1 := []) (κ := 5) X hw (c_X4_refuse l D B cy A ad av 1 (gI S1 2 3) hw.2.2.2.2.1 hw.2.2.2.2.2 hS4) ⟨rfl, rfl, Nat.le_of_ble_eq_true rfl, Nat.le_of_ble_eq_true rfl⟩ rfl (by decide) (hCk hw.2.2.2.2.2 2 (by decide) rfl) tw_271 tw_272 tw_273 tw_16 tw_274 hd_X4_refuse rfl hl.1 rfl (Nat.le_of_ble_eq_true rfl) dX4_takeFrom_15 ⟨Nat.le_of_ble_eq_true rfl, Nat.le_of_ble_eq_true rfl⟩ rfl (fun H locs hw => ?_)
    cases hf
    exact r_vret X hw dX4_takeFrom_18
set_option maxHeartbeats 4000000 in
theorem w_X4_checkKey_29 {p : Program} {l : Launch} {e : Env} {s : State} {m : MethodId} {args : Array Value} {below : List Frame} {meth : Method} {c : Code} {D : va_G} {B : Nat} {cy : Nat → ClassId} {A : Nat → Prop} {ad av : Nat → Nat} {Z : HS} (X : hCX p s m args meth c RX4 cX4_checkKey 3 none D cy A ad av)  (x1 : Int32) (S : HS) (H : Heap) (locs : List Loc) (ls : Array Slot) (hf : fn_X4_checkKey_29 x1 S = some Z) (hw : hWd D B cy A true hC S s.heap H locs) (hl : lv_has ls 3 [(0, .ref (B + 2)), (1, .int x1)]) : W p l e ({ frames := 1, cells := 0, slots := 0, locals := 22 } : Room) s m args below meth c H locs 0 0 (MQ below (hQo D B cy A true hC Z none) args s 0 0 A) (F0 m 29 ls []) := by
  unfold fn_X4_checkKey_29 at hf
  refine lv_aload_n X.1 X.2.1 dX4_checkKey_29 rfl (lv_at hl 0 rfl) ?_
  refine r_getF X hw (κ := 5) rfl inlX4 1 (by decide) rfl (by decide) tw_48 (hCk hw.2.2.2.2.2 2 (by decide) rfl) (hCr (c := 2) (k := 1) (d := 3) hw.2.2.2.2.2 (by decide)) dX4_checkKey_30 ?_
  refine lv_iload_n X.1 X.2.1 dX4_checkKey_33 rfl (lv_at hl 1 rfl) ?_
  refine lv_iconst (v := 1) X.1 X.2.1 dX4_checkKey_34 (by decide) ?_
  obtain ⟨g1, hf⟩ := gd_ok hf
  obtain ⟨S2, eS2, hf⟩ := bn_ok hf
  replace eS2 := Option.some.inj eS2
  refine r_zast X hw (hCk hw.2.2.2.2.2 3 (by decide) rfl) (hCn hw.2.2.2.2.2 3 (by decide) rfl) g1 (by decide) hw.2.2.2.2.2 dX4_checkKey_35 (fun H locs hw => ?_)
  rw [eS2] at hw
  cases hf
  exact r_vret X hw dX4_checkKey_36
set_option maxHeartbeats 4000000 in
theorem w_X4_checkKey_13 {p : Program} {l : Launch} {e : Env} {s : State} {m : MethodId} {args : Array Value} {below : List Frame} {meth : Method} {c : Code} {D : va_G} {B : Nat} {cy : Nat → ClassId} {A : Nat → Prop} {ad av : Nat → Nat} {Z : HS} (X : hCX p s m args meth c RX4 cX4_checkKey 3 none D cy A ad av)   (S : HS) (H : Heap) (locs : List Loc) (ls : Array Slot) (hf : fn_X4_checkKey_13 S = some Z) (hw : hWd D B cy A true hC S s.heap H locs) (hl : lv_has ls 3 []) : W p l e ({ frames := 1, cells := 0, slots := 0, locals := 22 } : Room) s m args below meth c H locs 0 0 (MQ below (hQo D B cy A true hC Z none) args s 0 0 A) (F0 m 13 ls []) := by
  unfold fn_X4_checkKey_13 at hf
  cases hf
  exact r_vret X hw dX4_checkKey_13
theorem hd_X4_checkKey : yX4_checkKey.cls = RX4 ∧ yX4_checkKey.cls ≠ "java/lang/invoke/MethodHandle" ∧ yX4_checkKey.cls ≠ "java/lang/invoke/VarHandle" ∧ (parseMethodDescriptor yX4_checkKey.desc).map (fun d => d.parameters.length) = some 2 := by decide +kernel
set_option maxHeartbeats 4000000 in
theorem c_X4_checkKey (l : Launch) (D : va_G) (B : Nat) (cy : Nat → ClassId) (A : Nat → Prop) (ad av : Nat → Nat) (x1 : Int32) (x2 : Int32) {S Z : HS} (hfr : hFr S) (hG : hC S) (hf : fn_X4_checkKey x1 x2 S = some Z) : hMet l yX4_checkKey cX4_checkKey 3 none ({ frames := 1, cells := 0, slots := 0, locals := 22 } : Room) D B cy A ad av true hC [.ref (B + 2), .int x1, .int x2] S Z none 0 0 := by
  refine h_entry (by decide) hfr hG ?_
  intro p e s m below meth c args X hnm hw
  have hl := lv_entry ([.ref (B + 2), .int x1, .int x2]) (n := 3) (Nat.le_of_ble_eq_true rfl)
  rw [lg_entry_eq]
  generalize (lg_sl ([.ref (B + 2), .int x1, .int x2]) ++ List.replicate (3 - (lg_sl ([.ref (B + 2), .int x1, .int x2])).length) Slot.unset).toArray = ls at hl ⊢
  have hl : lv_has ls 3 [(0, .ref (B + 2)), (1, .int x1), (2, .int x2)] := hl
  unfold fn_X4_checkKey at hf
  refine lv_iload_n X.1 X.2.1 dX4_checkKey_0 rfl (lv_at hl 1 rfl) ?_
  refine lv_if_lt (tgt := 13) X.1 X.2.1 dX4_checkKey_1 (by decide) (fun hq => ?_) (fun hq => ?_)
  · replace hf := cd_tk hq hf
    exact w_X4_checkKey_13 X  _ _ _ _ hf hw (lv_sub hl [] rfl)
  · replace hf := cd_fk hq hf
    refine lv_iload_n X.1 X.2.1 dX4_checkKey_4 rfl (lv_at hl 1 rfl) ?_
    refine lv_aload_n X.1 X.2.1 dX4_checkKey_5 rfl (lv_at hl 0 rfl) ?_
    refine r_getF X hw (κ := 5) rfl inlX4 1 (by decide) rfl (by decide) tw_48 (hCk hw.2.2.2.2.2 2 (by decide) rfl) (hCr (c := 2) (k := 1) (d := 3) hw.2.2.2.2.2 (by decide)) dX4_checkKey_6 ?_
    refine r_alen (κ := 23) X hw (hCk hw.2.2.2.2.2 3 (by decide) rfl) (by decide) (hCn hw.2.2.2.2.2 3 (by decide) rfl) dX4_checkKey_9 ?_
    refine lv_icmp_lt (tgt := 14) X.1 X.2.1 dX4_checkKey_10 (by decide) (fun hq => ?_) (fun hq => ?_)
    · replace hf := cd_tk hq hf
      refine lv_aload_n X.1 X.2.1 dX4_checkKey_14 rfl (lv_at hl 0 rfl) ?_
      refine r_getF X hw (κ := 5) rfl inlX4 1 (by decide) rfl (by decide) tw_48 (hCk hw.2.2.2.2.2 2 (by decide) rfl) (hCr (c := 2) (k := 1) (d := 3) hw.2.2.2.2.2 (by decide)) dX4_checkKey_15 ?_
      refine lv_iload_n X.1 X.2.1 dX4_checkKey_18 rfl (lv_at hl 1 rfl) ?_
      obtain ⟨g1, hf⟩ := gd_ok hf
      refine r_zald X hw (hCk hw.2.2.2.2.2 3 (by decide) rfl) (hCn hw.2.2.2.2.2 3 (by decide) rfl) g1 dX4_checkKey_19 ?_
      refine lv_if_eq (tgt := 29) X.1 X.2.1 dX4_checkKey_20 (by decide) (fun hq => ?_) (fun hq => ?_)
      · replace hf := cd_tk hq hf
        exact w_X4_checkKey_29 X  _ _ _ _ _ hf hw (lv_sub hl [0, 1] rfl)
      · replace hf := cd_fk hq hf
        refine lv_aload_n X.1 X.2.1 dX4_checkKey_23 rfl (lv_at hl 0 rfl) ?_
        refine lv_iconst (v := 3) X.1 X.2.1 dX4_checkKey_24 (by decide) ?_
        refine lv_iload_n X.1 X.2.1 dX4_checkKey_25 rfl (lv_at hl 2 rfl) ?_
        obtain ⟨S2, hS2, hf⟩ := bn_ok hf
        refine r_callV (As := [.int 3, .int x2]) (rest := []) (st1 := []) (κ := 5) X hw (c_X4_refuse l D B cy A ad av 3 x2 hw.2.2.2.2.1 hw.2.2.2.2.2 hS2) ⟨rfl, rfl, Nat.le_of_ble_eq_true rfl, Nat.le_of_ble_eq_true rfl⟩ rfl (by decide) (hCk hw.2.2.2.2.2 2 (by decide) rfl) tw_271 tw_272 tw_273 tw_16 tw_274 hd_X4_refuse rfl hl.1 rfl (Nat.le_of_ble_eq_true rfl) dX4_checkKey_26 ⟨Nat.le_of_ble_eq_true rfl, Nat.le_of_ble_eq_true rfl⟩ rfl (fun H locs hw => ?_)
        exact w_X4_checkKey_29 X  _ _ _ _ _ hf hw (lv_sub hl [0, 1] rfl)
    · replace hf := cd_fk hq hf
      exact w_X4_checkKey_13 X  _ _ _ _ hf hw (lv_sub hl [] rfl)
theorem hd_X4_readCondition : yX4_readCondition.cls = RX4 ∧ yX4_readCondition.cls ≠ "java/lang/invoke/MethodHandle" ∧ yX4_readCondition.cls ≠ "java/lang/invoke/VarHandle" ∧ (parseMethodDescriptor yX4_readCondition.desc).map (fun d => d.parameters.length) = some 1 := by decide +kernel
set_option maxHeartbeats 4000000 in
theorem c_X4_readCondition (l : Launch) (D : va_G) (B : Nat) (cy : Nat → ClassId) (A : Nat → Prop) (ad av : Nat → Nat) (x1 : Nat) {S Z : HS} (hfr : hFr S) (hG : hC S) (hf : fn_X4_readCondition x1 S = some Z) : hMet l yX4_readCondition cX4_readCondition 2 none ({ frames := 4, cells := 0, slots := 0, locals := 87 } : Room) D B cy A ad av true hC [.ref (B + 2), .ref (B + x1)] S Z none 0 0 := by
  refine h_entry (by decide) hfr hG ?_
  intro p e s m below meth c args X hnm hw
  have hl := lv_entry ([.ref (B + 2), .ref (B + x1)]) (n := 2) (Nat.le_of_ble_eq_true rfl)
  rw [lg_entry_eq]
  generalize (lg_sl ([.ref (B + 2), .ref (B + x1)]) ++ List.replicate (2 - (lg_sl ([.ref (B + 2), .ref (B + x1)])).length) Slot.unset).toArray = ls at hl ⊢
  have hl : lv_has ls 2 [(0, .ref (B + 2)), (1, .ref (B + x1))] := hl
  unfold fn_X4_readCondition at hf
  refine lv_aload_n X.1 X.2.1 dX4_readCondition_0 rfl (lv_at hl 1 rfl) ?_
  refine lv_aload_n X.1 X.2.1 dX4_readCondition_1 rfl (lv_at hl 0 rfl) ?_
  refine lv_bipush (v := 65) X.1 X.2.1 dX4_readCondition_2 (by decide) ?_
  refine lv_bipush (v := 70) X.1 X.2.1 dX4_readCondition_4 (by decide) ?_
  obtain ⟨r2, S1, hS1, hf⟩ := bn2_ok hf
  refine r_callV (As := [.int 65, .int 70]) (rest := [.ref (B + x1)]) (st1 := [.int r2, .ref (B + x1)]) (κ := 5) X hw (c_X4_takeLetter l D B cy A ad av 65 70 hw.2.2.2.2.1 hw.2.2.2.2.2 hS1) ⟨rfl, rfl, Nat.le_of_ble_eq_true rfl, Nat.le_of_ble_eq_true rfl⟩ rfl (by decide) (hCk hw.2.2.2.2.2 2 (by decide) rfl) tw_291 tw_292 tw_293 tw_16 tw_294 hd_X4_takeLetter rfl hl.1 rfl (Nat.le_of_ble_eq_true rfl) dX4_readCondition_6 ⟨Nat.le_of_ble_eq_true rfl, Nat.le_of_ble_eq_true rfl⟩ rfl (fun H locs hw => ?_)
  obtain ⟨g3, hf⟩ := gd_ok hf
  obtain ⟨S4, eS4, hf⟩ := bn_ok hf
  replace eS4 := Option.some.inj eS4
  refine r_putI X hw (κ := 3) rfl inlX2 tyX2 tyX2_ok nmX2 5 (by decide) rfl (by decide) tw_304 (Or.inl rfl) g3 rfl rfl hw.2.2.2.2.2 dX4_readCondition_9 (fun H locs hw => ?_)
  rw [eS4] at hw
  refine lv_aload_n X.1 X.2.1 dX4_readCondition_12 rfl (lv_at hl 1 rfl) ?_
  refine lv_aload_n X.1 X.2.1 dX4_readCondition_13 rfl (lv_at hl 0 rfl) ?_
  obtain ⟨r6, S5, hS5, hf⟩ := bn2_ok hf
  refine r_callV (As := []) (rest := [.ref (B + x1)]) (st1 := [.int r6, .ref (B + x1)]) (κ := 5) X hw (c_X4_takeRelation l D B cy A ad av  hw.2.2.2.2.1 hw.2.2.2.2.2 hS5) ⟨rfl, rfl, Nat.le_of_ble_eq_true rfl, Nat.le_of_ble_eq_true rfl⟩ rfl (by decide) (hCk hw.2.2.2.2.2 2 (by decide) rfl) tw_307 tw_308 tw_309 tw_16 tw_310 hd_X4_takeRelation rfl hl.1 rfl (Nat.le_of_ble_eq_true rfl) dX4_readCondition_14 ⟨Nat.le_of_ble_eq_true rfl, Nat.le_of_ble_eq_true rfl⟩ rfl (fun H locs hw => ?_)
  obtain ⟨g7, hf⟩ := gd_ok hf
  obtain ⟨S8, eS8, hf⟩ := bn_ok hf
  replace eS8 := Option.some.inj eS8
  refine r_putI X hw (κ := 3) rfl inlX2 tyX2 tyX2_ok nmX2 6 (by decide) rfl (by decide) tw_305 (Or.inl rfl) g7 rfl rfl hw.2.2.2.2.2 dX4_readCondition_17 (fun H locs hw => ?_)
  rw [eS8] at hw
  refine lv_aload_n X.1 X.2.1 dX4_readCondition_20 rfl (lv_at hl 1 rfl) ?_
  refine lv_aload_n X.1 X.2.1 dX4_readCondition_21 rfl (lv_at hl 0 rfl) ?_
  obtain ⟨r10, S9, hS9, hf⟩ := bn2_ok hf
  refine r_callV (As := []) (rest := [.ref (B + x1)]) (st1 := [.int r10, .ref (B + x1)]) (κ := 5) X hw (c_X4_takeNumber l D B cy A ad av  hw.2.2.2.2.1 hw.2.2.2.2.2 hS9) ⟨rfl, rfl, Nat.le_of_ble_eq_true rfl, Nat.le_of_ble_eq_true rfl⟩ rfl (by decide) (hCk hw.2.2.2.2.2 2 (by decide) rfl) tw_311 tw_312 tw_313 tw_16 tw_314 hd_X4_takeNumber rfl hl.1 rfl (Nat.le_of_ble_eq_true rfl) dX4_readCondition_22 ⟨Nat.le_of_ble_eq_true rfl, Nat.le_of_ble_eq_true rfl⟩ rfl (fun H locs hw => ?_)
  obtain ⟨g11, hf⟩ := gd_ok hf
  obtain ⟨S12, eS12, hf⟩ := bn_ok hf
  replace eS12 := Option.some.inj eS12
  refine r_putI X hw (κ := 3) rfl inlX2 tyX2 tyX2_ok nmX2 7 (by decide) rfl (by decide) tw_306 (Or.inl rfl) g11 rfl rfl hw.2.2.2.2.2 dX4_readCondition_25 (fun H locs hw => ?_)
  rw [eS12] at hw
  cases hf
  exact r_vret X hw dX4_readCondition_28
set_option maxHeartbeats 4000000 in
theorem w_X4_readScale_87 {p : Program} {l : Launch} {e : Env} {s : State} {m : MethodId} {args : Array Value} {below : List Frame} {meth : Method} {c : Code} {D : va_G} {B : Nat} {cy : Nat → ClassId} {A : Nat → Prop} {ad av : Nat → Nat} {Z : HS} (X : hCX p s m args meth c RX4 cX4_readScale 4 none D cy A ad av)   (S : HS) (H : Heap) (locs : List Loc) (ls : Array Slot) (hf : fn_X4_readScale_87 S = some Z) (hw : hWd D B cy A true hC S s.heap H locs) (hl : lv_has ls 4 []) : W p l e ({ frames := 4, cells := 0, slots := 0, locals := 85 } : Room) s m args below meth c H locs 0 0 (MQ below (hQo D B cy A true hC Z none) args s 0 0 A) (F0 m 87 ls []) := by
  unfold fn_X4_readScale_87 at hf
  cases hf
  exact r_vret X hw dX4_readScale_87
set_option maxHeartbeats 4000000 in
theorem w_X4_readScale_81 {p : Program} {l : Launch} {e : Env} {s : State} {m : MethodId} {args : Array Value} {below : List Frame} {meth : Method} {c : Code} {D : va_G} {B : Nat} {cy : Nat → ClassId} {A : Nat → Prop} {ad av : Nat → Nat} {Z : HS} (X : hCX p s m args meth c RX4 cX4_readScale 4 none D cy A ad av) (k4 : Nat → Int32 → Int32 → HS → Option HS) (hk4 : ∀ (x1 : Nat) (x2 : Int32) (x3 : Int32) (S : HS) (H : Heap) (locs : List Loc) (ls : Array Slot), k4 x1 x2 x3 S = some Z → hWd D B cy A true hC S s.heap H locs → lv_has ls 4 [(0, .ref (B + 2)), (1, .ref (B + x1)), (2, .int x2), (3, .int x3)] → W p l e ({ frames := 4, cells := 0, slots := 0, locals := 85 } : Room) s m args below meth c H locs 0 0 (MQ below (hQo D B cy A true hC Z none) args s 0 0 A) (F0 m 4 ls [])) (x1 : Nat) (x2 : Int32) (x3 : Int32) (S : HS) (H : Heap) (locs : List Loc) (ls : Array Slot) (hf : fn_X4_readScale_81 k4 x1 x2 x3 S = some Z) (hw : hWd D B cy A true hC S s.heap H locs) (hl : lv_has ls 4 [(0, .ref (B + 2)), (1, .ref (B + x1)), (2, .int x2), (3, .int x3)]) : W p l e ({ frames := 4, cells := 0, slots := 0, locals := 85 } : Room) s m args below meth c H locs 0 0 (MQ below (hQo D B cy A true hC Z none) args s 0 0 A) (F0 m 81 ls []) := by
  unfold fn_X4_readScale_81 at hf
  obtain ⟨v1, ev1, hf⟩ := bn_ok hf
  replace ev1 := Option.some.inj ev1
  refine lv_iinc (v := v1) (lv' := [(3, .int v1), (0, .ref (B + 2)), (1, .ref (B + x1)), (2, .int x2)]) X.1 X.2.1 dX4_readScale_81 hl (k := 3) rfl ev1 (by decide) rfl (fun ls hl => ?_)
  refine lv_goto (tgt := 4) X.1 X.2.1 dX4_readScale_84 (by decide) ?_
  exact hk4 _ _ _ _ _ _ _ hf hw (lv_sub hl [1, 2, 3, 0] rfl)
set_option maxHeartbeats 4000000 in
theorem w_X4_readScale_72 {p : Program} {l : Launch} {e : Env} {s : State} {m : MethodId} {args : Array Value} {below : List Frame} {meth : Method} {c : Code} {D : va_G} {B : Nat} {cy : Nat → ClassId} {A : Nat → Prop} {ad av : Nat → Nat} {Z : HS} (X : hCX p s m args meth c RX4 cX4_readScale 4 none D cy A ad av) (k4 : Nat → Int32 → Int32 → HS → Option HS) (hk4 : ∀ (x1 : Nat) (x2 : Int32) (x3 : Int32) (S : HS) (H : Heap) (locs : List Loc) (ls : Array Slot), k4 x1 x2 x3 S = some Z → hWd D B cy A true hC S s.heap H locs → lv_has ls 4 [(0, .ref (B + 2)), (1, .ref (B + x1)), (2, .int x2), (3, .int x3)] → W p l e ({ frames := 4, cells := 0, slots := 0, locals := 85 } : Room) s m args below meth c H locs 0 0 (MQ below (hQo D B cy A true hC Z none) args s 0 0 A) (F0 m 4 ls [])) (x1 : Nat) (x3 : Int32) (y0 : Int32) (S : HS) (H : Heap) (locs : List Loc) (ls : Array Slot) (hf : fn_X4_readScale_72 k4 x1 x3 y0 S = some Z) (hw : hWd D B cy A true hC S s.heap H locs) (hl : lv_has ls 4 [(0, .ref (B + 2)), (1, .ref (B + x1)), (3, .int x3)]) : W p l e ({ frames := 4, cells := 0, slots := 0, locals := 85 } : Room) s m args below meth c H locs 0 0 (MQ below (hQo D B cy A true hC Z none) args s 0 0 A) (F0 m 72 ls [.int y0]) := by
  unfold fn_X4_readScale_72 at hf
  refine lv_istore_n (lv' := [(2, .int y0), (0, .ref (B + 2)), (1, .ref (B + x1)), (3, .int x3)]) X.1 X.2.1 dX4_readScale_72 rfl hl (by decide) rfl (fun ls hl => ?_)
  refine lv_iload_n X.1 X.2.1 dX4_readScale_73 rfl (lv_at hl 0 rfl) ?_
  refine lv_if_eq (tgt := 81) X.1 X.2.1 dX4_readScale_74 (by decide) (fun hq => ?_) (fun hq => ?_)
  · replace hf := cd_tk hq hf
    exact w_X4_readScale_81 X k4 hk4 _ _ _ _ _ _ _ hf hw (lv_sub hl [1, 2, 0, 3] rfl)
  · replace hf := cd_fk hq hf
    refine lv_aload_n X.1 X.2.1 dX4_readScale_77 rfl (lv_at hl 1 rfl) ?_
    obtain ⟨S1, hS1, hf⟩ := bn_ok hf
    refine r_callV (As := []) (rest := []) (st1 := []) (κ := 5) X hw (c_X4_advance l D B cy A ad av  hw.2.2.2.2.1 hw.2.2.2.2.2 hS1) ⟨rfl, rfl, Nat.le_of_ble_eq_true rfl, Nat.le_of_ble_eq_true rfl⟩ rfl (by decide) (hCk hw.2.2.2.2.2 2 (by decide) rfl) tw_194 tw_195 tw_196 tw_16 tw_197 hd_X4_advance rfl hl.1 rfl (Nat.le_of_ble_eq_true rfl) dX4_readScale_78 ⟨Nat.le_of_ble_eq_true rfl, Nat.le_of_ble_eq_true rfl⟩ rfl (fun H locs hw => ?_)
    exact w_X4_readScale_81 X k4 hk4 _ _ _ _ _ _ _ hf hw (lv_sub hl [1, 2, 0, 3] rfl)
set_option maxHeartbeats 4000000 in
theorem w_X4_readScale_50 {p : Program} {l : Launch} {e : Env} {s : State} {m : MethodId} {args : Array Value} {below : List Frame} {meth : Method} {c : Code} {D : va_G} {B : Nat} {cy : Nat → ClassId} {A : Nat → Prop} {ad av : Nat → Nat} {Z : HS} (X : hCX p s m args meth c RX4 cX4_readScale 4 none D cy A ad av) (k4 : Nat → Int32 → Int32 → HS → Option HS) (hk4 : ∀ (x1 : Nat) (x2 : Int32) (x3 : Int32) (S : HS) (H : Heap) (locs : List Loc) (ls : Array Slot), k4 x1 x2 x3 S = some Z → hWd D B cy A true hC S s.heap H locs → lv_has ls 4 [(0, .ref (B + 2)), (1, .ref (B + x1)), (2, .int x2), (3, .int x3)] → W p l e ({ frames := 4, cells := 0, slots := 0, locals := 85 } : Room) s m args below meth c H locs 0 0 (MQ below (hQo D B cy A true hC Z none) args s 0 0 A) (F0 m 4 ls [])) (x1 : Nat) (x3 : Int32) (S : HS) (H : Heap) (locs : List Loc) (ls : Array Slot) (hf : fn_X4_readScale_50 k4 x1 x3 S = some Z) (hw : hWd D B cy A true hC S s.heap H locs) (hl : lv_has ls 4 [(0, .ref (B + 2)), (1, .ref (B + x1)), (3, .int x3)]) : W p l e ({ frames := 4, cells := 0, slots := 0, locals := 85 } : Room) s m args below meth c H locs 0 0 (MQ below (hQo D B cy A true hC Z none) args s 0 0 A) (F0 m 50 ls []) := by
  unfold fn_X4_readScale_50 at hf
  refine lv_aload_n X.1 X.2.1 dX4_readScale_50 rfl (lv_at hl 1 rfl) ?_
  refine lv_aload_n X.1 X.2.1 dX4_readScale_51 rfl (lv_at hl 0 rfl) ?_
  obtain ⟨r2, S1, hS1, hf⟩ := bn2_ok hf
  refine r_callV (As := []) (rest := [.ref (B + x1)]) (st1 := [.int r2, .ref (B + x1)]) (κ := 5) X hw (c_X4_takeNumber l D B cy A ad av  hw.2.2.2.2.1 hw.2.2.2.2.2 hS1) ⟨rfl, rfl, Nat.le_of_ble_eq_true rfl, Nat.le_of_ble_eq_true rfl⟩ rfl (by decide) (hCk hw.2.2.2.2.2 2 (by decide) rfl) tw_311 tw_312 tw_313 tw_16 tw_314 hd_X4_takeNumber rfl hl.1 rfl (Nat.le_of_ble_eq_true rfl) dX4_readScale_52 ⟨Nat.le_of_ble_eq_true rfl, Nat.le_of_ble_eq_true rfl⟩ rfl (fun H locs hw => ?_)
  obtain ⟨g3, hf⟩ := gd_ok hf
  obtain ⟨S4, hS4, hf⟩ := bn_ok hf
  refine r_callV (As := [.int r2]) (rest := []) (st1 := []) (κ := 3) X hw (c_X2_addToScale l D B cy A ad av x1 r2 hw.2.2.2.2.1 hw.2.2.2.2.2 hS4) ⟨rfl, rfl, Nat.le_of_ble_eq_true rfl, Nat.le_of_ble_eq_true rfl⟩ rfl (by decide) g3 tw_335 tw_336 tw_337 tw_281 tw_338 hd_X2_addToScale rfl hl.1 rfl (Nat.le_of_ble_eq_true rfl) dX4_readScale_55 ⟨Nat.le_of_ble_eq_true rfl, Nat.le_of_ble_eq_true rfl⟩ rfl (fun H locs hw => ?_)
  refine lv_aload_n X.1 X.2.1 dX4_readScale_58 rfl (lv_at hl 0 rfl) ?_
  refine r_getI X hw (κ := 5) rfl inlX4 5 (by decide) rfl (by decide) tw_185 (hCk hw.2.2.2.2.2 2 (by decide) rfl) dX4_readScale_59 ?_
  refine lv_bipush (v := 44) X.1 X.2.1 dX4_readScale_62 (by decide) ?_
  refine lv_icmp_ne (tgt := 71) X.1 X.2.1 dX4_readScale_64 (by decide) (fun hq => ?_) (fun hq => ?_)
  · replace hf := cd_fk hq hf
    refine lv_iconst (v := 0) X.1 X.2.1 dX4_readScale_71 (by decide) ?_
    exact w_X4_readScale_72 X k4 hk4 _ _ _ _ _ _ _ hf hw (lv_sub hl [0, 1, 2] rfl)
  · replace hf := cd_tk hq hf
    refine lv_iconst (v := 1) X.1 X.2.1 dX4_readScale_67 (by decide) ?_
    refine lv_goto (tgt := 72) X.1 X.2.1 dX4_readScale_68 (by decide) ?_
    exact w_X4_readScale_72 X k4 hk4 _ _ _ _ _ _ _ hf hw (lv_sub hl [0, 1, 2] rfl)
set_option maxHeartbeats 4000000 in
theorem w_X4_readScale_4 {p : Program} {l : Launch} {e : Env} {s : State} {m : MethodId} {args : Array Value} {below : List Frame} {meth : Method} {c : Code} {D : va_G} {B : Nat} {cy : Nat → ClassId} {A : Nat → Prop} {ad av : Nat → Nat} {Z : HS} (X : hCX p s m args meth c RX4 cX4_readScale 4 none D cy A ad av)  : ∀ (n : Nat) (x1 : Nat) (x2 : Int32) (x3 : Int32) (S : HS) (H : Heap) (locs : List Loc) (ls : Array Slot), fn_X4_readScale_4 n x1 x2 x3 S = some Z → hWd D B cy A true hC S s.heap H locs → lv_has ls 4 [(0, .ref (B + 2)), (1, .ref (B + x1)), (2, .int x2), (3, .int x3)] → W p l e ({ frames := 4, cells := 0, slots := 0, locals := 85 } : Room) s m args below meth c H locs 0 0 (MQ below (hQo D B cy A true hC Z none) args s 0 0 A) (F0 m 4 ls []) := by
  intro n
  induction n with
  | zero =>
    intro x1 x2 x3 S H locs ls hf
    cases hf
  | succ n ih =>
    intro x1 x2 x3 S H locs ls hf hw hl
    rw [fn_X4_readScale_4] at hf
    refine lv_iload_n X.1 X.2.1 dX4_readScale_4 rfl (lv_at hl 3 rfl) ?_
    refine lv_sipush (v := 2000) X.1 X.2.1 dX4_readScale_5 (by decide) ?_
    refine lv_icmp_ge (tgt := 87) X.1 X.2.1 dX4_readScale_8 (by decide) (fun hq => ?_) (fun hq => ?_)
    · replace hf := cd_tk hq hf
      exact w_X4_readScale_87 X  _ _ _ _ hf hw (lv_sub hl [] rfl)
    · replace hf := cd_fk hq hf
      refine lv_iload_n X.1 X.2.1 dX4_readScale_11 rfl (lv_at hl 2 rfl) ?_
      refine lv_if_eq (tgt := 87) X.1 X.2.1 dX4_readScale_12 (by decide) (fun hq => ?_) (fun hq => ?_)
      · replace hf := cd_tk hq hf
        exact w_X4_readScale_87 X  _ _ _ _ hf hw (lv_sub hl [] rfl)
      · replace hf := cd_fk hq hf
        refine lv_aload_n X.1 X.2.1 dX4_readScale_15 rfl (lv_at hl 0 rfl) ?_
        refine r_getI X hw (κ := 5) rfl inlX4 6 (by decide) rfl (by decide) tw_184 (hCk hw.2.2.2.2.2 2 (by decide) rfl) dX4_readScale_16 ?_
        refine lv_if_ne (tgt := 87) X.1 X.2.1 dX4_readScale_19 (by decide) (fun hq => ?_) (fun hq => ?_)
        · replace hf := cd_fk hq hf
          exact w_X4_readScale_87 X  _ _ _ _ hf hw (lv_sub hl [] rfl)
        · replace hf := cd_tk hq hf
          refine lv_aload_n X.1 X.2.1 dX4_readScale_22 rfl (lv_at hl 0 rfl) ?_
          refine r_getI X hw (κ := 5) rfl inlX4 5 (by decide) rfl (by decide) tw_185 (hCk hw.2.2.2.2.2 2 (by decide) rfl) dX4_readScale_23 ?_
          refine lv_sipush (v := 258) X.1 X.2.1 dX4_readScale_26 (by decide) ?_
          refine lv_icmp_ne (tgt := 50) X.1 X.2.1 dX4_readScale_29 (by decide) (fun hq => ?_) (fun hq => ?_)
          · replace hf := cd_fk hq hf
            exact w_X4_readScale_50 X (fn_X4_readScale_4 n) ih _ _ _ _ _ _ hf hw (lv_sub hl [0, 1, 3] rfl)
          · replace hf := cd_tk hq hf
            refine lv_aload_n X.1 X.2.1 dX4_readScale_32 rfl (lv_at hl 1 rfl) ?_
            obtain ⟨g1, hf⟩ := gd_ok hf
            refine r_getI X hw (κ := 3) rfl inlX2 3 (by decide) rfl (by decide) tw_334 g1 dX4_readScale_33 ?_
            refine lv_bipush (v := 8) X.1 X.2.1 dX4_readScale_36 (by decide) ?_
            refine lv_icmp_lt (tgt := 50) X.1 X.2.1 dX4_readScale_38 (by decide) (fun hq => ?_) (fun hq => ?_)
            · replace hf := cd_tk hq hf
              exact w_X4_readScale_50 X (fn_X4_readScale_4 n) ih _ _ _ _ _ _ hf hw (lv_sub hl [0, 1, 3] rfl)
            · replace hf := cd_fk hq hf
              refine lv_aload_n X.1 X.2.1 dX4_readScale_41 rfl (lv_at hl 0 rfl) ?_
              refine lv_iconst (v := 2) X.1 X.2.1 dX4_readScale_42 (by decide) ?_
              refine lv_aload_n X.1 X.2.1 dX4_readScale_43 rfl (lv_at hl 0 rfl) ?_
              refine r_getI X hw (κ := 5) rfl inlX4 3 (by decide) rfl (by decide) tw_186 (hCk hw.2.2.2.2.2 2 (by decide) rfl) dX4_readScale_44 ?_
              obtain ⟨S2, hS2, hf⟩ := bn_ok hf
              refine r_callV (As := [.int 2, .int (gI S 2 3)]) (rest := []) (st1 := []) (κ := 5) X hw (c_X4_refuse l D B cy A ad av 2 (gI S 2 3) hw.2.2.2.2.1 hw.2.2.2.2.2 hS2) ⟨rfl, rfl, Nat.le_of_ble_eq_true rfl, Nat.le_of_ble_eq_true rfl⟩ rfl (by decide) (hCk hw.2.2.2.2.2 2 (by decide) rfl) tw_271 tw_272 tw_273 tw_16 tw_274 hd_X4_refuse rfl hl.1 rfl (Nat.le_of_ble_eq_true rfl) dX4_readScale_47 ⟨Nat.le_of_ble_eq_true rfl, Nat.le_of_ble_eq_true rfl⟩ rfl (fun H locs hw => ?_)
              exact w_X4_readScale_50 X (fn_X4_readScale_4 n) ih _ _ _ _ _ _ hf hw (lv_sub hl [0, 1, 3] rfl)
theorem hd_X4_readScale : yX4_readScale.cls = RX4 ∧ yX4_readScale.cls ≠ "java/lang/invoke/MethodHandle" ∧ yX4_readScale.cls ≠ "java/lang/invoke/VarHandle" ∧ (parseMethodDescriptor yX4_readScale.desc).map (fun d => d.parameters.length) = some 1 := by decide +kernel
set_option maxHeartbeats 4000000 in
theorem c_X4_readScale (l : Launch) (D : va_G) (B : Nat) (cy : Nat → ClassId) (A : Nat → Prop) (ad av : Nat → Nat) (x1 : Nat) {S Z : HS} (hfr : hFr S) (hG : hC S) (hf : fn_X4_readScale x1 S = some Z) : hMet l yX4_readScale cX4_readScale 4 none ({ frames := 4, cells := 0, slots := 0, locals := 85 } : Room) D B cy A ad av true hC [.ref (B + 2), .ref (B + x1)] S Z none 0 0 := by
  refine h_entry (by decide) hfr hG ?_
  intro p e s m below meth c args X hnm hw
  have hl := lv_entry ([.ref (B + 2), .ref (B + x1)]) (n := 4) (Nat.le_of_ble_eq_true rfl)
  rw [lg_entry_eq]
  generalize (lg_sl ([.ref (B + 2), .ref (B + x1)]) ++ List.replicate (4 - (lg_sl ([.ref (B + 2), .ref (B + x1)])).length) Slot.unset).toArray = ls at hl ⊢
  have hl : lv_has ls 4 [(0, .ref (B + 2)), (1, .ref (B + x1))] := hl
  unfold fn_X4_readScale at hf
  refine lv_iconst (v := 1) X.1 X.2.1 dX4_readScale_0 (by decide) ?_
  refine lv_istore_n (lv' := [(2, .int 1), (0, .ref (B + 2)), (1, .ref (B + x1))]) X.1 X.2.1 dX4_readScale_1 rfl hl (by decide) rfl (fun ls hl => ?_)
  refine lv_iconst (v := 0) X.1 X.2.1 dX4_readScale_2 (by decide) ?_
  refine lv_istore_n (lv' := [(3, .int 0), (2, .int 1), (0, .ref (B + 2)), (1, .ref (B + x1))]) X.1 X.2.1 dX4_readScale_3 rfl hl (by decide) rfl (fun ls hl => ?_)
  exact w_X4_readScale_4 X  _ _ _ _ _ _ _ _ hf hw (lv_sub hl [2, 3, 1, 0] rfl)
set_option maxHeartbeats 4000000 in
theorem w_X4_readStepDays_26 {p : Program} {l : Launch} {e : Env} {s : State} {m : MethodId} {args : Array Value} {below : List Frame} {meth : Method} {c : Code} {D : va_G} {B : Nat} {cy : Nat → ClassId} {A : Nat → Prop} {ad av : Nat → Nat} {Z : HS} (X : hCX p s m args meth c RX4 cX4_readStepDays 3 none D cy A ad av)   (S : HS) (H : Heap) (locs : List Loc) (ls : Array Slot) (hf : fn_X4_readStepDays_26 S = some Z) (hw : hWd D B cy A true hC S s.heap H locs) (hl : lv_has ls 3 []) : W p l e ({ frames := 4, cells := 0, slots := 0, locals := 85 } : Room) s m args below meth c H locs 0 0 (MQ below (hQo D B cy A true hC Z none) args s 0 0 A) (F0 m 26 ls []) := by
  unfold fn_X4_readStepDays_26 at hf
  cases hf
  exact r_vret X hw dX4_readStepDays_26
theorem hd_X4_readStepDays : yX4_readStepDays.cls = RX4 ∧ yX4_readStepDays.cls ≠ "java/lang/invoke/MethodHandle" ∧ yX4_readStepDays.cls ≠ "java/lang/invoke/VarHandle" ∧ (parseMethodDescriptor yX4_readStepDays.desc).map (fun d => d.parameters.length) = some 1 := by decide +kernel
set_option maxHeartbeats 4000000 in
theorem c_X4_readStepDays (l : Launch) (D : va_G) (B : Nat) (cy : Nat → ClassId) (A : Nat → Prop) (ad av : Nat → Nat) (x1 : Nat) {S Z : HS} (hfr : hFr S) (hG : hC S) (hf : fn_X4_readStepDays x1 S = some Z) : hMet l yX4_readStepDays cX4_readStepDays 3 none ({ frames := 4, cells := 0, slots := 0, locals := 85 } : Room) D B cy A ad av true hC [.ref (B + 2), .ref (B + x1)] S Z none 0 0 := by
  refine h_entry (by decide) hfr hG ?_
  intro p e s m below meth c args X hnm hw
  have hl := lv_entry ([.ref (B + 2), .ref (B + x1)]) (n := 3) (Nat.le_of_ble_eq_true rfl)
  rw [lg_entry_eq]
  generalize (lg_sl ([.ref (B + 2), .ref (B + x1)]) ++ List.replicate (3 - (lg_sl ([.ref (B + 2), .ref (B + x1)])).length) Slot.unset).toArray = ls at hl ⊢
  have hl : lv_has ls 3 [(0, .ref (B + 2)), (1, .ref (B + x1))] := hl
  unfold fn_X4_readStepDays at hf
  refine lv_aload_n X.1 X.2.1 dX4_readStepDays_0 rfl (lv_at hl 0 rfl) ?_
  refine r_getI X hw (κ := 5) rfl inlX4 3 (by decide) rfl (by decide) tw_186 (hCk hw.2.2.2.2.2 2 (by decide) rfl) dX4_readStepDays_1 ?_
  obtain ⟨v1, ev1, hf⟩ := bn_ok hf
  replace ev1 := Option.some.inj ev1
  refine lv_ren ev1 ?_
  refine lv_istore_n (lv' := [(2, .int v1), (0, .ref (B + 2)), (1, .ref (B + x1))]) X.1 X.2.1 dX4_readStepDays_4 rfl hl (by decide) rfl (fun ls hl => ?_)
  refine lv_aload_n X.1 X.2.1 dX4_readStepDays_5 rfl (lv_at hl 2 rfl) ?_
  refine lv_aload_n X.1 X.2.1 dX4_readStepDays_6 rfl (lv_at hl 1 rfl) ?_
  obtain ⟨r3, S2, hS2, hf⟩ := bn2_ok hf
  refine r_callV (As := []) (rest := [.ref (B + x1)]) (st1 := [.int r3, .ref (B + x1)]) (κ := 5) X hw (c_X4_takeNumber l D B cy A ad av  hw.2.2.2.2.1 hw.2.2.2.2.2 hS2) ⟨rfl, rfl, Nat.le_of_ble_eq_true rfl, Nat.le_of_ble_eq_true rfl⟩ rfl (by decide) (hCk hw.2.2.2.2.2 2 (by decide) rfl) tw_311 tw_312 tw_313 tw_16 tw_314 hd_X4_takeNumber rfl hl.1 rfl (Nat.le_of_ble_eq_true rfl) dX4_readStepDays_7 ⟨Nat.le_of_ble_eq_true rfl, Nat.le_of_ble_eq_true rfl⟩ rfl (fun H locs hw => ?_)
  obtain ⟨g4, hf⟩ := gd_ok hf
  obtain ⟨S5, eS5, hf⟩ := bn_ok hf
  replace eS5 := Option.some.inj eS5
  refine r_putI X hw (κ := 3) rfl inlX2 tyX2 tyX2_ok nmX2 8 (by decide) rfl (by decide) tw_299 (Or.inl rfl) g4 rfl rfl hw.2.2.2.2.2 dX4_readStepDays_10 (fun H locs hw => ?_)
  rw [eS5] at hw
  refine lv_aload_n X.1 X.2.1 dX4_readStepDays_13 rfl (lv_at hl 2 rfl) ?_
  obtain ⟨g6, hf⟩ := gd_ok hf
  refine r_getI X hw (κ := 3) rfl inlX2 8 (by decide) rfl (by decide) tw_299 g6 dX4_readStepDays_14 ?_
  refine lv_if_ne (tgt := 26) X.1 X.2.1 dX4_readStepDays_17 (by decide) (fun hq => ?_) (fun hq => ?_)
  · replace hf := cd_fk hq hf
    exact w_X4_readStepDays_26 X  _ _ _ _ hf hw (lv_sub hl [] rfl)
  · replace hf := cd_tk hq hf
    refine lv_aload_n X.1 X.2.1 dX4_readStepDays_20 rfl (lv_at hl 1 rfl) ?_
    refine lv_iconst (v := 2) X.1 X.2.1 dX4_readStepDays_21 (by decide) ?_
    refine lv_iload_n X.1 X.2.1 dX4_readStepDays_22 rfl (lv_at hl 0 rfl) ?_
    obtain ⟨S7, hS7, hf⟩ := bn_ok hf
    refine r_callV (As := [.int 2, .int v1]) (rest := []) (st1 := []) (κ := 5) X hw (c_X4_refuse l D B cy A ad av 2 v1 hw.2.2.2.2.1 hw.2.2.2.2.2 hS7) ⟨rfl, rfl, Nat.le_of_ble_eq_true rfl, Nat.le_of_ble_eq_true rfl⟩ rfl (by decide) (hCk hw.2.2.2.2.2 2 (by decide) rfl) tw_271 tw_272 tw_273 tw_16 tw_274 hd_X4_refuse rfl hl.1 rfl (Nat.le_of_ble_eq_true rfl) dX4_readStepDays_23 ⟨Nat.le_of_ble_eq_true rfl, Nat.le_of_ble_eq_true rfl⟩ rfl (fun H locs hw => ?_)
    exact w_X4_readStepDays_26 X  _ _ _ _ hf hw (lv_sub hl [] rfl)
set_option maxHeartbeats 4000000 in
theorem w_X4_readPlusNumber_45 {p : Program} {l : Launch} {e : Env} {s : State} {m : MethodId} {args : Array Value} {below : List Frame} {meth : Method} {c : Code} {D : va_G} {B : Nat} {cy : Nat → ClassId} {A : Nat → Prop} {ad av : Nat → Nat} {Z : HS} (X : hCX p s m args meth c RX4 cX4_readPlusNumber 2 none D cy A ad av)   (S : HS) (H : Heap) (locs : List Loc) (ls : Array Slot) (hf : fn_X4_readPlusNumber_45 S = some Z) (hw : hWd D B cy A true hC S s.heap H locs) (hl : lv_has ls 2 []) : W p l e ({ frames := 4, cells := 0, slots := 0, locals := 85 } : Room) s m args below meth c H locs 0 0 (MQ below (hQo D B cy A true hC Z none) args s 0 0 A) (F0 m 45 ls []) := by
  unfold fn_X4_readPlusNumber_45 at hf
  cases hf
  exact r_vret X hw dX4_readPlusNumber_45
set_option maxHeartbeats 4000000 in
theorem w_X4_readPlusNumber_36 {p : Program} {l : Launch} {e : Env} {s : State} {m : MethodId} {args : Array Value} {below : List Frame} {meth : Method} {c : Code} {D : va_G} {B : Nat} {cy : Nat → ClassId} {A : Nat → Prop} {ad av : Nat → Nat} {Z : HS} (X : hCX p s m args meth c RX4 cX4_readPlusNumber 2 none D cy A ad av)  (x1 : Nat) (S : HS) (H : Heap) (locs : List Loc) (ls : Array Slot) (hf : fn_X4_readPlusNumber_36 x1 S = some Z) (hw : hWd D B cy A true hC S s.heap H locs) (hl : lv_has ls 2 [(0, .ref (B + 2)), (1, .ref (B + x1))]) : W p l e ({ frames := 4, cells := 0, slots := 0, locals := 85 } : Room) s m args below meth c H locs 0 0 (MQ below (hQo D B cy A true hC Z none) args s 0 0 A) (F0 m 36 ls []) := by
  unfold fn_X4_readPlusNumber_36 at hf
  refine lv_aload_n X.1 X.2.1 dX4_readPlusNumber_36 rfl (lv_at hl 1 rfl) ?_
  refine lv_iconst (v := 1) X.1 X.2.1 dX4_readPlusNumber_37 (by decide) ?_
  obtain ⟨g1, hf⟩ := gd_ok hf
  obtain ⟨S2, eS2, hf⟩ := bn_ok hf
  replace eS2 := Option.some.inj eS2
  refine r_putI X hw (κ := 3) rfl inlX2 tyX2 tyX2_ok nmX2 9 (by decide) rfl (by decide) tw_348 (Or.inl rfl) g1 (zb_n (by decide)) (zb_f (by decide)) hw.2.2.2.2.2 dX4_readPlusNumber_38 (fun H locs hw => ?_)
  rw [eS2] at hw
  refine lv_aload_n X.1 X.2.1 dX4_readPlusNumber_41 rfl (lv_at hl 0 rfl) ?_
  obtain ⟨S3, hS3, hf⟩ := bn_ok hf
  refine r_callV (As := []) (rest := []) (st1 := []) (κ := 5) X hw (c_X4_advance l D B cy A ad av  hw.2.2.2.2.1 hw.2.2.2.2.2 hS3) ⟨rfl, rfl, Nat.le_of_ble_eq_true rfl, Nat.le_of_ble_eq_true rfl⟩ rfl (by decide) (hCk hw.2.2.2.2.2 2 (by decide) rfl) tw_194 tw_195 tw_196 tw_16 tw_197 hd_X4_advance rfl hl.1 rfl (Nat.le_of_ble_eq_true rfl) dX4_readPlusNumber_42 ⟨Nat.le_of_ble_eq_true rfl, Nat.le_of_ble_eq_true rfl⟩ rfl (fun H locs hw => ?_)
  exact w_X4_readPlusNumber_45 X  _ _ _ _ hf hw (lv_sub hl [] rfl)
theorem hd_X4_readPlusNumber : yX4_readPlusNumber.cls = RX4 ∧ yX4_readPlusNumber.cls ≠ "java/lang/invoke/MethodHandle" ∧ yX4_readPlusNumber.cls ≠ "java/lang/invoke/VarHandle" ∧ (parseMethodDescriptor yX4_readPlusNumber.desc).map (fun d => d.parameters.length) = some 1 := by decide +kernel
set_option maxHeartbeats 4000000 in
theorem c_X4_readPlusNumber (l : Launch) (D : va_G) (B : Nat) (cy : Nat → ClassId) (A : Nat → Prop) (ad av : Nat → Nat) (x1 : Nat) {S Z : HS} (hfr : hFr S) (hG : hC S) (hf : fn_X4_readPlusNumber x1 S = some Z) : hMet l yX4_readPlusNumber cX4_readPlusNumber 2 none ({ frames := 4, cells := 0, slots := 0, locals := 85 } : Room) D B cy A ad av true hC [.ref (B + 2), .ref (B + x1)] S Z none 0 0 := by
  refine h_entry (by decide) hfr hG ?_
  intro p e s m below meth c args X hnm hw
  have hl := lv_entry ([.ref (B + 2), .ref (B + x1)]) (n := 2) (Nat.le_of_ble_eq_true rfl)
  rw [lg_entry_eq]
  generalize (lg_sl ([.ref (B + 2), .ref (B + x1)]) ++ List.replicate (2 - (lg_sl ([.ref (B + 2), .ref (B + x1)])).length) Slot.unset).toArray = ls at hl ⊢
  have hl : lv_has ls 2 [(0, .ref (B + 2)), (1, .ref (B + x1))] := hl
  unfold fn_X4_readPlusNumber at hf
  refine lv_aload_n X.1 X.2.1 dX4_readPlusNumber_0 rfl (lv_at hl 1 rfl) ?_
  refine lv_aload_n X.1 X.2.1 dX4_readPlusNumber_1 rfl (lv_at hl 0 rfl) ?_
  obtain ⟨r2, S1, hS1, hf⟩ := bn2_ok hf
  refine r_callV (As := []) (rest := [.ref (B + x1)]) (st1 := [.int r2, .ref (B + x1)]) (κ := 5) X hw (c_X4_takeNumber l D B cy A ad av  hw.2.2.2.2.1 hw.2.2.2.2.2 hS1) ⟨rfl, rfl, Nat.le_of_ble_eq_true rfl, Nat.le_of_ble_eq_true rfl⟩ rfl (by decide) (hCk hw.2.2.2.2.2 2 (by decide) rfl) tw_311 tw_312 tw_313 tw_16 tw_314 hd_X4_takeNumber rfl hl.1 rfl (Nat.le_of_ble_eq_true rfl) dX4_readPlusNumber_2 ⟨Nat.le_of_ble_eq_true rfl, Nat.le_of_ble_eq_true rfl⟩ rfl (fun H locs hw => ?_)
  obtain ⟨g3, hf⟩ := gd_ok hf
  obtain ⟨S4, eS4, hf⟩ := bn_ok hf
  replace eS4 := Option.some.inj eS4
  refine r_putI X hw (κ := 3) rfl inlX2 tyX2 tyX2_ok nmX2 8 (by decide) rfl (by decide) tw_299 (Or.inl rfl) g3 rfl rfl hw.2.2.2.2.2 dX4_readPlusNumber_5 (fun H locs hw => ?_)
  rw [eS4] at hw
  refine lv_aload_n X.1 X.2.1 dX4_readPlusNumber_8 rfl (lv_at hl 0 rfl) ?_
  refine r_getI X hw (κ := 5) rfl inlX4 5 (by decide) rfl (by decide) tw_185 (hCk hw.2.2.2.2.2 2 (by decide) rfl) dX4_readPlusNumber_9 ?_
  refine lv_bipush (v := 37) X.1 X.2.1 dX4_readPlusNumber_12 (by decide) ?_
  refine lv_icmp_ne (tgt := 45) X.1 X.2.1 dX4_readPlusNumber_14 (by decide) (fun hq => ?_) (fun hq => ?_)
  · replace hf := cd_fk hq hf
    exact w_X4_readPlusNumber_45 X  _ _ _ _ hf hw (lv_sub hl [] rfl)
  · replace hf := cd_tk hq hf
    refine lv_aload_n X.1 X.2.1 dX4_readPlusNumber_17 rfl (lv_at hl 1 rfl) ?_
    obtain ⟨g5, hf⟩ := gd_ok hf
    refine r_getI X hw (κ := 3) rfl inlX2 8 (by decide) rfl (by decide) tw_299 g5 dX4_readPlusNumber_18 ?_
    refine lv_sipush (v := 999) X.1 X.2.1 dX4_readPlusNumber_21 (by decide) ?_
    refine lv_icmp_le (tgt := 36) X.1 X.2.1 dX4_readPlusNumber_24 (by decide) (fun hq => ?_) (fun hq => ?_)
    · replace hf := cd_tk hq hf
      exact w_X4_readPlusNumber_36 X  _ _ _ _ _ hf hw (lv_sub hl [0, 1] rfl)
    · replace hf := cd_fk hq hf
      refine lv_aload_n X.1 X.2.1 dX4_readPlusNumber_27 rfl (lv_at hl 0 rfl) ?_
      refine lv_iconst (v := 2) X.1 X.2.1 dX4_readPlusNumber_28 (by decide) ?_
      refine lv_aload_n X.1 X.2.1 dX4_readPlusNumber_29 rfl (lv_at hl 0 rfl) ?_
      refine r_getI X hw (κ := 5) rfl inlX4 3 (by decide) rfl (by decide) tw_186 (hCk hw.2.2.2.2.2 2 (by decide) rfl) dX4_readPlusNumber_30 ?_
      obtain ⟨S6, hS6, hf⟩ := bn_ok hf
      refine r_callV (As := [.int 2, .int (gI S4 2 3)]) (rest := []) (st1 := []) (κ := 5) X hw (c_X4_refuse l D B cy A ad av 2 (gI S4 2 3) hw.2.2.2.2.1 hw.2.2.2.2.2 hS6) ⟨rfl, rfl, Nat.le_of_ble_eq_true rfl, Nat.le_of_ble_eq_true rfl⟩ rfl (by decide) (hCk hw.2.2.2.2.2 2 (by decide) rfl) tw_271 tw_272 tw_273 tw_16 tw_274 hd_X4_refuse rfl hl.1 rfl (Nat.le_of_ble_eq_true rfl) dX4_readPlusNumber_33 ⟨Nat.le_of_ble_eq_true rfl, Nat.le_of_ble_eq_true rfl⟩ rfl (fun H locs hw => ?_)
      exact w_X4_readPlusNumber_36 X  _ _ _ _ _ hf hw (lv_sub hl [0, 1] rfl)
