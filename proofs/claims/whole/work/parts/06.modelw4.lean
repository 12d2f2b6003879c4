set_option maxHeartbeats 4000000 in
theorem w_X9_isKnown_17 {p : Program} {l : Launch} {e : Env} {s : State} {m : MethodId} {args : Array Value} {below : List Frame} {meth : Method} {c : Code} {D : va_G} {B : Nat} {cy : Nat → ClassId} {A : Nat → Prop} {ad av : Nat → Nat} {rv : Int32} {Z : HS} (X : hCX p s m args meth c RX9 cX9_isKnown 2 (some .boolean) D cy A ad av) {z : Nat}  (y0 : Int32) (S : HS) (H : Heap) (locs : List Loc) (ls : Array Slot) (hf : fn_X9_isKnown_17 y0 S = some (rv, Z)) (hw : hWd D B cy A true (hMz z) S s.heap H locs) (hl : lv_has ls 2 []) : W p l e ({ frames := 0, cells := 0, slots := 0, locals := 0 } : Room) s m args below meth c H locs 0 0 (MQ below (hQo D B cy A true (hMz z) Z (some (.int rv))) args s 0 0 A) (F0 m 17 ls [.int y0]) := by
  unfold fn_X9_isKnown_17 at hf
  obtain ⟨g1, hf⟩ := gd_ok hf
  cases hf
  exact r_zret X hw g1 dX9_isKnown_17
set_option maxHeartbeats 4000000 in
theorem w_X9_isKnown_16 {p : Program} {l : Launch} {e : Env} {s : State} {m : MethodId} {args : Array Value} {below : List Frame} {meth : Method} {c : Code} {D : va_G} {B : Nat} {cy : Nat → ClassId} {A : Nat → Prop} {ad av : Nat → Nat} {rv : Int32} {Z : HS} (X : hCX p s m args meth c RX9 cX9_isKnown 2 (some .boolean) D cy A ad av) {z : Nat}   (S : HS) (H : Heap) (locs : List Loc) (ls : Array Slot) (hf : fn_X9_isKnown_16 S = some (rv, Z)) (hw : hWd D B cy A true (hMz z) S s.heap H locs) (hl : lv_has ls 2 []) : W p l e ({ frames := 0, cells := 0, slots := 0, locals := 0 } : Room) s m args below meth c H locs 0 0 (MQ below (hQo D B cy A true (hMz z) Z (some (.int rv))) args s 0 0 A) (F0 m 16 ls []) := by
  unfold fn_X9_isKnown_16 at hf
  refine lv_iconst (v := 0) X.1 X.2.1 dX9_isKnown_16 (by decide) ?_
  exact w_X9_isKnown_17 X  _ _ _ _ _ hf hw (lv_sub hl [] rfl)
theorem hd_X9_isKnown : yX9_isKnown.cls = RX9 ∧ yX9_isKnown.cls ≠ "java/lang/invoke/MethodHandle" ∧ yX9_isKnown.cls ≠ "java/lang/invoke/VarHandle" ∧ (parseMethodDescriptor yX9_isKnown.desc).map (fun d => d.parameters.length) = some 1 := by decide +kernel
set_option maxHeartbeats 4000000 in
theorem c_X9_isKnown (l : Launch) (D : va_G) (B : Nat) (cy : Nat → ClassId) (A : Nat → Prop) (ad av : Nat → Nat) {z : Nat} (x1 : Int32) {S Z : HS} {rv : Int32} (hfr : hFr S) (hG : (hMz z) S) (hf : fn_X9_isKnown x1 S = some (rv, Z)) : hMet l yX9_isKnown cX9_isKnown 2 (some .boolean) ({ frames := 0, cells := 0, slots := 0, locals := 0 } : Room) D B cy A ad av true (hMz z) [.ref (B + 0), .int x1] S Z (some (.int rv)) 0 0 := by
  refine h_entry (by decide) hfr hG ?_
  intro p e s m below meth c args X hnm hw
  have hl := lv_entry ([.ref (B + 0), .int x1]) (n := 2) (Nat.le_of_ble_eq_true rfl)
  rw [lg_entry_eq]
  generalize (lg_sl ([.ref (B + 0), .int x1]) ++ List.replicate (2 - (lg_sl ([.ref (B + 0), .int x1])).length) Slot.unset).toArray = ls at hl ⊢
  have hl : lv_has ls 2 [(0, .ref (B + 0)), (1, .int x1)] := hl
  unfold fn_X9_isKnown at hf
  refine lv_iload_n X.1 X.2.1 dX9_isKnown_0 rfl (lv_at hl 1 rfl) ?_
  refine lv_if_lt (tgt := 16) X.1 X.2.1 dX9_isKnown_1 (by decide) (fun hq => ?_) (fun hq => ?_)
  · replace hf := cd_tk hq hf
    exact w_X9_isKnown_16 X  _ _ _ _ hf hw (lv_sub hl [] rfl)
  · replace hf := cd_fk hq hf
    refine lv_iload_n X.1 X.2.1 dX9_isKnown_4 rfl (lv_at hl 1 rfl) ?_
    refine lv_aload_n X.1 X.2.1 dX9_isKnown_5 rfl (lv_at hl 0 rfl) ?_
    refine r_getI X hw (κ := 10) rfl inlX9 3 (by decide) rfl (by decide) tw_450 (hMk hw.2.2.2.2.2.1 0 rfl) dX9_isKnown_6 ?_
    refine lv_icmp_gt (tgt := 16) X.1 X.2.1 dX9_isKnown_9 (by decide) (fun hq => ?_) (fun hq => ?_)
    · replace hf := cd_tk hq hf
      exact w_X9_isKnown_16 X  _ _ _ _ hf hw (lv_sub hl [] rfl)
    · replace hf := cd_fk hq hf
      refine lv_iconst (v := 1) X.1 X.2.1 dX9_isKnown_12 (by decide) ?_
      refine lv_goto (tgt := 17) X.1 X.2.1 dX9_isKnown_13 (by decide) ?_
      exact w_X9_isKnown_17 X  _ _ _ _ _ hf hw (lv_sub hl [] rfl)
set_option maxHeartbeats 4000000 in
theorem w_X9_isPost_17 {p : Program} {l : Launch} {e : Env} {s : State} {m : MethodId} {args : Array Value} {below : List Frame} {meth : Method} {c : Code} {D : va_G} {B : Nat} {cy : Nat → ClassId} {A : Nat → Prop} {ad av : Nat → Nat} {rv : Int32} {Z : HS} (X : hCX p s m args meth c RX9 cX9_isPost 2 (some .boolean) D cy A ad av) {z : Nat}  (y0 : Int32) (S : HS) (H : Heap) (locs : List Loc) (ls : Array Slot) (hf : fn_X9_isPost_17 y0 S = some (rv, Z)) (hw : hWd D B cy A true (hMz z) S s.heap H locs) (hl : lv_has ls 2 []) : W p l e ({ frames := 0, cells := 0, slots := 0, locals := 0 } : Room) s m args below meth c H locs 0 0 (MQ below (hQo D B cy A true (hMz z) Z (some (.int rv))) args s 0 0 A) (F0 m 17 ls [.int y0]) := by
  unfold fn_X9_isPost_17 at hf
  obtain ⟨g1, hf⟩ := gd_ok hf
  cases hf
  exact r_zret X hw g1 dX9_isPost_17
set_option maxHeartbeats 4000000 in
theorem w_X9_isPost_16 {p : Program} {l : Launch} {e : Env} {s : State} {m : MethodId} {args : Array Value} {below : List Frame} {meth : Method} {c : Code} {D : va_G} {B : Nat} {cy : Nat → ClassId} {A : Nat → Prop} {ad av : Nat → Nat} {rv : Int32} {Z : HS} (X : hCX p s m args meth c RX9 cX9_isPost 2 (some .boolean) D cy A ad av) {z : Nat}   (S : HS) (H : Heap) (locs : List Loc) (ls : Array Slot) (hf : fn_X9_isPost_16 S = some (rv, Z)) (hw : hWd D B cy A true (hMz z) S s.heap H locs) (hl : lv_has ls 2 []) : W p l e ({ frames := 0, cells := 0, slots := 0, locals := 0 } : Room) s m args below meth c H locs 0 0 (MQ below (hQo D B cy A true (hMz z) Z (some (.int rv))) args s 0 0 A) (F0 m 16 ls []) := by
  unfold fn_X9_isPost_16 at hf
  refine lv_iconst (v := 0) X.1 X.2.1 dX9_isPost_16 (by decide) ?_
  exact w_X9_isPost_17 X  _ _ _ _ _ hf hw (lv_sub hl [] rfl)
theorem hd_X9_isPost : yX9_isPost.cls = RX9 ∧ yX9_isPost.cls ≠ "java/lang/invoke/MethodHandle" ∧ yX9_isPost.cls ≠ "java/lang/invoke/VarHandle" ∧ (parseMethodDescriptor yX9_isPost.desc).map (fun d => d.parameters.length) = some 1 := by decide +kernel
set_option maxHeartbeats 4000000 in
theorem c_X9_isPost (l : Launch) (D : va_G) (B : Nat) (cy : Nat → ClassId) (A : Nat → Prop) (ad av : Nat → Nat) {z : Nat} (x1 : Int32) {S Z : HS} {rv : Int32} (hfr : hFr S) (hG : (hMz z) S) (hf : fn_X9_isPost x1 S = some (rv, Z)) : hMet l yX9_isPost cX9_isPost 2 (some .boolean) ({ frames := 0, cells := 0, slots := 0, locals := 0 } : Room) D B cy A ad av true (hMz z) [.ref (B + 0), .int x1] S Z (some (.int rv)) 0 0 := by
  refine h_entry (by decide) hfr hG ?_
  intro p e s m below meth c args X hnm hw
  have hl := lv_entry ([.ref (B + 0), .int x1]) (n := 2) (Nat.le_of_ble_eq_true rfl)
  rw [lg_entry_eq]
  generalize (lg_sl ([.ref (B + 0), .int x1]) ++ List.replicate (2 - (lg_sl ([.ref (B + 0), .int x1])).length) Slot.unset).toArray = ls at hl ⊢
  have hl : lv_has ls 2 [(0, .ref (B + 0)), (1, .int x1)] := hl
  unfold fn_X9_isPost at hf
  refine lv_iload_n X.1 X.2.1 dX9_isPost_0 rfl (lv_at hl 1 rfl) ?_
  refine lv_if_lt (tgt := 16) X.1 X.2.1 dX9_isPost_1 (by decide) (fun hq => ?_) (fun hq => ?_)
  · replace hf := cd_tk hq hf
    exact w_X9_isPost_16 X  _ _ _ _ hf hw (lv_sub hl [] rfl)
  · replace hf := cd_fk hq hf
    refine lv_iload_n X.1 X.2.1 dX9_isPost_4 rfl (lv_at hl 1 rfl) ?_
    refine lv_aload_n X.1 X.2.1 dX9_isPost_5 rfl (lv_at hl 0 rfl) ?_
    refine r_getI X hw (κ := 10) rfl inlX9 28 (by decide) rfl (by decide) tw_538 (hMk hw.2.2.2.2.2.1 0 rfl) dX9_isPost_6 ?_
    refine lv_icmp_ge (tgt := 16) X.1 X.2.1 dX9_isPost_9 (by decide) (fun hq => ?_) (fun hq => ?_)
    · replace hf := cd_tk hq hf
      exact w_X9_isPost_16 X  _ _ _ _ hf hw (lv_sub hl [] rfl)
    · replace hf := cd_fk hq hf
      refine lv_iconst (v := 1) X.1 X.2.1 dX9_isPost_12 (by decide) ?_
      refine lv_goto (tgt := 17) X.1 X.2.1 dX9_isPost_13 (by decide) ?_
      exact w_X9_isPost_17 X  _ _ _ _ _ hf hw (lv_sub hl [] rfl)
set_option maxHeartbeats 4000000 in
theorem w_X9_look_41 {p : Program} {l : Launch} {e : Env} {s : State} {m : MethodId} {args : Array Value} {below : List Frame} {meth : Method} {c : Code} {D : va_G} {B : Nat} {cy : Nat → ClassId} {A : Nat → Prop} {ad av : Nat → Nat} {rv : Int32} {Z : HS} (X : hCX p s m args meth c RX9 cX9_look 5 (some .int) D cy A ad av) {z : Nat}   (S : HS) (H : Heap) (locs : List Loc) (ls : Array Slot) (hf : fn_X9_look_41 S = some (rv, Z)) (hw : hWd D B cy A true (hMz z) S s.heap H locs) (hl : lv_has ls 5 []) : W p l e ({ frames := 3, cells := 0, slots := 0, locals := 72 } : Room) s m args below meth c H locs 0 0 (MQ below (hQo D B cy A true (hMz z) Z (some (.int rv))) args s 0 0 A) (F0 m 41 ls []) := by
  unfold fn_X9_look_41 at hf
  refine lv_ldcw X.1 X.2.1 X.2.2.2.1 (X.2.2.2.2.1 _ tw_751) dX9_look_41 ?_
  cases hf
  exact r_iret X hw dX9_look_44
theorem hd_X9_look : yX9_look.cls = RX9 ∧ yX9_look.cls ≠ "java/lang/invoke/MethodHandle" ∧ yX9_look.cls ≠ "java/lang/invoke/VarHandle" ∧ (parseMethodDescriptor yX9_look.desc).map (fun d => d.parameters.length) = some 4 := by decide +kernel
set_option maxHeartbeats 4000000 in
theorem c_X9_look (l : Launch) (D : va_G) (B : Nat) (cy : Nat → ClassId) (A : Nat → Prop) (ad av : Nat → Nat) {z : Nat} (x1 : Int32) (x2 : Int32) (x3 : Int32) (x4 : Int32) {S Z : HS} {rv : Int32} (hfr : hFr S) (hG : (hMz z) S) (hf : fn_X9_look x1 x2 x3 x4 S = some (rv, Z)) : hMet l yX9_look cX9_look 5 (some .int) ({ frames := 3, cells := 0, slots := 0, locals := 72 } : Room) D B cy A ad av true (hMz z) [.ref (B + 0), .int x1, .int x2, .int x3, .int x4] S Z (some (.int rv)) 0 0 := by
  refine h_entry (by decide) hfr hG ?_
  intro p e s m below meth c args X hnm hw
  have hl := lv_entry ([.ref (B + 0), .int x1, .int x2, .int x3, .int x4]) (n := 5) (Nat.le_of_ble_eq_true rfl)
  rw [lg_entry_eq]
  generalize (lg_sl ([.ref (B + 0), .int x1, .int x2, .int x3, .int x4]) ++ List.replicate (5 - (lg_sl ([.ref (B + 0), .int x1, .int x2, .int x3, .int x4])).length) Slot.unset).toArray = ls at hl ⊢
  have hl : lv_has ls 5 [(0, .ref (B + 0)), (1, .int x1), (2, .int x2), (3, .int x3), (4, .int x4)] := hl
  unfold fn_X9_look at hf
  refine lv_aload_n X.1 X.2.1 dX9_look_0 rfl (lv_at hl 0 rfl) ?_
  refine lv_iconst (v := 0) X.1 X.2.1 dX9_look_1 (by decide) ?_
  obtain ⟨S1, eS1, hf⟩ := bn_ok hf
  replace eS1 := Option.some.inj eS1
  refine r_putI X hw (κ := 10) rfl inlX9 tyX9 tyX9_ok nmX9 0 (by decide) rfl (by decide) tw_158 (Or.inl rfl) (hMk hw.2.2.2.2.2.1 0 rfl) rfl rfl hw.2.2.2.2.2 dX9_look_2 (fun H locs hw => ?_)
  rw [eS1] at hw
  refine lv_aload_n X.1 X.2.1 dX9_look_5 rfl (lv_at hl 0 rfl) ?_
  refine lv_iload_n X.1 X.2.1 dX9_look_6 rfl (lv_at hl 1 rfl) ?_
  obtain ⟨r3, S2, hS2, hf⟩ := bn2_ok hf
  refine r_callV (As := [.int x1]) (rest := []) (st1 := [.int r3]) (κ := 10) X hw (c_X9_isPost l D B cy A ad av x1 hw.2.2.2.2.1 hw.2.2.2.2.2 hS2) ⟨rfl, rfl, Nat.le_of_ble_eq_true rfl, Nat.le_of_ble_eq_true rfl⟩ rfl (by decide) (hMk hw.2.2.2.2.2.1 0 rfl) tw_752 tw_753 tw_754 tw_5 tw_755 hd_X9_isPost rfl hl.1 rfl (Nat.le_of_ble_eq_true rfl) dX9_look_7 ⟨Nat.le_of_ble_eq_true rfl, Nat.le_of_ble_eq_true rfl⟩ rfl (fun H locs hw => ?_)
  refine lv_if_eq (tgt := 41) X.1 X.2.1 dX9_look_10 (by decide) (fun hq => ?_) (fun hq => ?_)
  · replace hf := cd_tk hq hf
    exact w_X9_look_41 X  _ _ _ _ hf hw (lv_sub hl [] rfl)
  · replace hf := cd_fk hq hf
    refine lv_aload_n X.1 X.2.1 dX9_look_13 rfl (lv_at hl 0 rfl) ?_
    refine lv_iload_n X.1 X.2.1 dX9_look_14 rfl (lv_at hl 2 rfl) ?_
    obtain ⟨r5, S4, hS4, hf⟩ := bn2_ok hf
    refine r_callV (As := [.int x2]) (rest := []) (st1 := [.int r5]) (κ := 10) X hw (c_X9_isDay l D B cy A ad av x2 hw.2.2.2.2.1 hw.2.2.2.2.2 hS4) ⟨rfl, rfl, Nat.le_of_ble_eq_true rfl, Nat.le_of_ble_eq_true rfl⟩ rfl (by decide) (hMk hw.2.2.2.2.2.1 0 rfl) tw_756 tw_757 tw_758 tw_5 tw_759 hd_X9_isDay rfl hl.1 rfl (Nat.le_of_ble_eq_true rfl) dX9_look_15 ⟨Nat.le_of_ble_eq_true rfl, Nat.le_of_ble_eq_true rfl⟩ rfl (fun H locs hw => ?_)
    refine lv_if_eq (tgt := 41) X.1 X.2.1 dX9_look_18 (by decide) (fun hq => ?_) (fun hq => ?_)
    · replace hf := cd_tk hq hf
      exact w_X9_look_41 X  _ _ _ _ hf hw (lv_sub hl [] rfl)
    · replace hf := cd_fk hq hf
      refine lv_aload_n X.1 X.2.1 dX9_look_21 rfl (lv_at hl 0 rfl) ?_
      refine lv_iload_n X.1 X.2.1 dX9_look_22 rfl (lv_at hl 3 rfl) ?_
      obtain ⟨r7, S6, hS6, hf⟩ := bn2_ok hf
      refine r_callV (As := [.int x3]) (rest := []) (st1 := [.int r7]) (κ := 10) X hw (c_X9_isKnown l D B cy A ad av x3 hw.2.2.2.2.1 hw.2.2.2.2.2 hS6) ⟨rfl, rfl, Nat.le_of_ble_eq_true rfl, Nat.le_of_ble_eq_true rfl⟩ rfl (by decide) (hMk hw.2.2.2.2.2.1 0 rfl) tw_760 tw_761 tw_762 tw_5 tw_763 hd_X9_isKnown rfl hl.1 rfl (Nat.le_of_ble_eq_true rfl) dX9_look_23 ⟨Nat.le_of_ble_eq_true rfl, Nat.le_of_ble_eq_true rfl⟩ rfl (fun H locs hw => ?_)
      refine lv_if_eq (tgt := 41) X.1 X.2.1 dX9_look_26 (by decide) (fun hq => ?_) (fun hq => ?_)
      · replace hf := cd_tk hq hf
        exact w_X9_look_41 X  _ _ _ _ hf hw (lv_sub hl [] rfl)
      · replace hf := cd_fk hq hf
        refine lv_iload X.1 X.2.1 dX9_look_29 (lv_at hl 4 rfl) ?_
        refine lv_if_lt (tgt := 41) X.1 X.2.1 dX9_look_31 (by decide) (fun hq => ?_) (fun hq => ?_)
        · replace hf := cd_tk hq hf
          exact w_X9_look_41 X  _ _ _ _ hf hw (lv_sub hl [] rfl)
        · replace hf := cd_fk hq hf
          refine lv_iload X.1 X.2.1 dX9_look_34 (lv_at hl 4 rfl) ?_
          refine lv_bipush (v := 15) X.1 X.2.1 dX9_look_36 (by decide) ?_
          refine lv_icmp_le (tgt := 45) X.1 X.2.1 dX9_look_38 (by decide) (fun hq => ?_) (fun hq => ?_)
          · replace hf := cd_tk hq hf
            refine lv_aload_n X.1 X.2.1 dX9_look_45 rfl (lv_at hl 0 rfl) ?_
            refine lv_iload_n X.1 X.2.1 dX9_look_46 rfl (lv_at hl 3 rfl) ?_
            refine lv_iload_n X.1 X.2.1 dX9_look_47 rfl (lv_at hl 2 rfl) ?_
            obtain ⟨S8, hS8, hf⟩ := bn_ok hf
            refine r_callV (As := [.int x3, .int x2]) (rest := []) (st1 := []) (κ := 10) X hw (c_X9_passes l D B cy A ad av x3 x2 hw.2.2.2.2.1 hw.2.2.2.2.2 hS8) ⟨rfl, rfl, Nat.le_of_ble_eq_true rfl, Nat.le_of_ble_eq_true rfl⟩ rfl (by decide) (hMk hw.2.2.2.2.2.1 0 rfl) tw_764 tw_765 tw_766 tw_5 tw_767 hd_X9_passes rfl hl.1 rfl (Nat.le_of_ble_eq_true rfl) dX9_look_48 ⟨Nat.le_of_ble_eq_true rfl, Nat.le_of_ble_eq_true rfl⟩ rfl (fun H locs hw => ?_)
            refine lv_iload X.1 X.2.1 dX9_look_51 (lv_at hl 4 rfl) ?_
            refine lv_bipush (v := 9) X.1 X.2.1 dX9_look_53 (by decide) ?_
            refine lv_icmp_ge (tgt := 71) X.1 X.2.1 dX9_look_55 (by decide) (fun hq => ?_) (fun hq => ?_)
            · replace hf := cd_tk hq hf
              refine lv_iload X.1 X.2.1 dX9_look_71 (lv_at hl 4 rfl) ?_
              by_cases hq0 : x4 = 9
              · replace hf := cd_tk hq0 hf
                refine lv_tableIn (off := 39) (tgt := 112) X.1 X.2.1 dX9_look_73 (by rw [hq0]; decide) (by rw [hq0]; decide) (by rw [hq0]; rfl) (by decide) ?_
                refine lv_aload_n X.1 X.2.1 dX9_look_112 rfl (lv_at hl 0 rfl) ?_
                refine r_getF X hw (κ := 10) rfl inlX9 41 (by decide) rfl (by decide) tw_130 (hMk hw.2.2.2.2.2.1 0 rfl) (hMr hw.2.2.2.2.2.1 0 41 rfl) dX9_look_113 ?_
                refine lv_iload_n X.1 X.2.1 dX9_look_116 rfl (lv_at hl 1 rfl) ?_
                obtain ⟨g9, hf⟩ := gd_ok hf
                refine r_iald X hw (hMk hw.2.2.2.2.2.1 26 rfl) (hMn hw.2.2.2.2.2.1 26 rfl) g9 dX9_look_117 ?_
                cases hf
                exact r_iret X hw dX9_look_118
              · replace hf := cd_fk hq0 hf
                by_cases hq1 : x4 = 10
                · replace hf := cd_tk hq1 hf
                  refine lv_tableIn (off := 46) (tgt := 119) X.1 X.2.1 dX9_look_73 (by rw [hq1]; decide) (by rw [hq1]; decide) (by rw [hq1]; rfl) (by decide) ?_
                  refine lv_aload_n X.1 X.2.1 dX9_look_119 rfl (lv_at hl 0 rfl) ?_
                  refine r_getF X hw (κ := 10) rfl inlX9 42 (by decide) rfl (by decide) tw_131 (hMk hw.2.2.2.2.2.1 0 rfl) (hMr hw.2.2.2.2.2.1 0 42 rfl) dX9_look_120 ?_
                  refine lv_iload_n X.1 X.2.1 dX9_look_123 rfl (lv_at hl 1 rfl) ?_
                  obtain ⟨g10, hf⟩ := gd_ok hf
                  refine r_iald X hw (hMk hw.2.2.2.2.2.1 27 rfl) (hMn hw.2.2.2.2.2.1 27 rfl) g10 dX9_look_124 ?_
                  cases hf
                  exact r_iret X hw dX9_look_125
                · replace hf := cd_fk hq1 hf
                  by_cases hq2 : x4 = 11
                  · replace hf := cd_tk hq2 hf
                    refine lv_tableIn (off := 53) (tgt := 126) X.1 X.2.1 dX9_look_73 (by rw [hq2]; decide) (by rw [hq2]; decide) (by rw [hq2]; rfl) (by decide) ?_
                    refine lv_aload_n X.1 X.2.1 dX9_look_126 rfl (lv_at hl 0 rfl) ?_
                    refine r_getF X hw (κ := 10) rfl inlX9 39 (by decide) rfl (by decide) tw_128 (hMk hw.2.2.2.2.2.1 0 rfl) (hMr hw.2.2.2.2.2.1 0 39 rfl) dX9_look_127 ?_
                    refine lv_aload_n X.1 X.2.1 dX9_look_130 rfl (lv_at hl 0 rfl) ?_
                    refine r_getF X hw (κ := 10) rfl inlX9 27 (by decide) rfl (by decide) tw_118 (hMk hw.2.2.2.2.2.1 0 rfl) (hMr hw.2.2.2.2.2.1 0 27 rfl) dX9_look_131 ?_
                    refine lv_iload_n X.1 X.2.1 dX9_look_134 rfl (lv_at hl 1 rfl) ?_
                    obtain ⟨g11, hf⟩ := gd_ok hf
                    refine r_iald X hw (hMk hw.2.2.2.2.2.1 14 rfl) (hMn hw.2.2.2.2.2.1 14 rfl) g11 dX9_look_135 ?_
                    obtain ⟨g12, hf⟩ := gd_ok hf
                    refine r_iald X hw (hMk hw.2.2.2.2.2.1 24 rfl) (hMn hw.2.2.2.2.2.1 24 rfl) g12 dX9_look_136 ?_
                    cases hf
                    exact r_iret X hw dX9_look_137
                  · replace hf := cd_fk hq2 hf
                    by_cases hq3 : x4 = 12
                    · replace hf := cd_tk hq3 hf
                      refine lv_tableIn (off := 65) (tgt := 138) X.1 X.2.1 dX9_look_73 (by rw [hq3]; decide) (by rw [hq3]; decide) (by rw [hq3]; rfl) (by decide) ?_
                      refine lv_aload_n X.1 X.2.1 dX9_look_138 rfl (lv_at hl 0 rfl) ?_
                      refine r_getF X hw (κ := 10) rfl inlX9 43 (by decide) rfl (by decide) tw_132 (hMk hw.2.2.2.2.2.1 0 rfl) (hMr hw.2.2.2.2.2.1 0 43 rfl) dX9_look_139 ?_
                      refine lv_iload_n X.1 X.2.1 dX9_look_142 rfl (lv_at hl 1 rfl) ?_
                      obtain ⟨g13, hf⟩ := gd_ok hf
                      refine r_iald X hw (hMk hw.2.2.2.2.2.1 28 rfl) (hMn hw.2.2.2.2.2.1 28 rfl) g13 dX9_look_143 ?_
                      cases hf
                      exact r_iret X hw dX9_look_144
                    · replace hf := cd_fk hq3 hf
                      by_cases hq4 : x4 = 13
                      · replace hf := cd_tk hq4 hf
                        refine lv_tableIn (off := 72) (tgt := 145) X.1 X.2.1 dX9_look_73 (by rw [hq4]; decide) (by rw [hq4]; decide) (by rw [hq4]; rfl) (by decide) ?_
                        refine lv_aload_n X.1 X.2.1 dX9_look_145 rfl (lv_at hl 0 rfl) ?_
                        refine r_getF X hw (κ := 10) rfl inlX9 44 (by decide) rfl (by decide) tw_133 (hMk hw.2.2.2.2.2.1 0 rfl) (hMr hw.2.2.2.2.2.1 0 44 rfl) dX9_look_146 ?_
                        refine lv_iload_n X.1 X.2.1 dX9_look_149 rfl (lv_at hl 1 rfl) ?_
                        obtain ⟨g14, hf⟩ := gd_ok hf
                        refine r_iald X hw (hMk hw.2.2.2.2.2.1 29 rfl) (hMn hw.2.2.2.2.2.1 29 rfl) g14 dX9_look_150 ?_
                        cases hf
                        exact r_iret X hw dX9_look_151
                      · replace hf := cd_fk hq4 hf
                        by_cases hq5 : x4 = 14
                        · replace hf := cd_tk hq5 hf
                          refine lv_tableIn (off := 79) (tgt := 152) X.1 X.2.1 dX9_look_73 (by rw [hq5]; decide) (by rw [hq5]; decide) (by rw [hq5]; rfl) (by decide) ?_
                          refine lv_aload_n X.1 X.2.1 dX9_look_152 rfl (lv_at hl 0 rfl) ?_
                          refine r_getF X hw (κ := 10) rfl inlX9 45 (by decide) rfl (by decide) tw_134 (hMk hw.2.2.2.2.2.1 0 rfl) (hMr hw.2.2.2.2.2.1 0 45 rfl) dX9_look_153 ?_
                          refine lv_iload_n X.1 X.2.1 dX9_look_156 rfl (lv_at hl 1 rfl) ?_
                          obtain ⟨g15, hf⟩ := gd_ok hf
                          refine r_iald X hw (hMk hw.2.2.2.2.2.1 30 rfl) (hMn hw.2.2.2.2.2.1 30 rfl) g15 dX9_look_157 ?_
                          cases hf
                          exact r_iret X hw dX9_look_158
                        · replace hf := cd_fk hq5 hf
                          have hout : x4.toInt < 9 ∨ 14 < x4.toInt := by
                            have g0 := lv_neT (a := 9) hq0 rfl
                            have g1 := lv_neT (a := 10) hq1 rfl
                            have g2 := lv_neT (a := 11) hq2 rfl
                            have g3 := lv_neT (a := 12) hq3 rfl
                            have g4 := lv_neT (a := 13) hq4 rfl
                            have g5 := lv_neT (a := 14) hq5 rfl
                            omega
                          refine lv_tableOut (tgt := 159) X.1 X.2.1 dX9_look_73 hout (by decide) ?_
                          refine lv_aload_n X.1 X.2.1 dX9_look_159 rfl (lv_at hl 0 rfl) ?_
                          refine r_getF X hw (κ := 10) rfl inlX9 46 (by decide) rfl (by decide) tw_135 (hMk hw.2.2.2.2.2.1 0 rfl) (hMr hw.2.2.2.2.2.1 0 46 rfl) dX9_look_160 ?_
                          refine lv_iload_n X.1 X.2.1 dX9_look_163 rfl (lv_at hl 1 rfl) ?_
                          obtain ⟨g16, hf⟩ := gd_ok hf
                          refine r_iald X hw (hMk hw.2.2.2.2.2.1 31 rfl) (hMn hw.2.2.2.2.2.1 31 rfl) g16 dX9_look_164 ?_
                          cases hf
                          exact r_iret X hw dX9_look_165
            · replace hf := cd_fk hq hf
              refine lv_aload_n X.1 X.2.1 dX9_look_58 rfl (lv_at hl 0 rfl) ?_
              refine r_getF X hw (κ := 10) rfl inlX9 38 (by decide) rfl (by decide) tw_127 (hMk hw.2.2.2.2.2.1 0 rfl) (hMr hw.2.2.2.2.2.1 0 38 rfl) dX9_look_59 ?_
              refine lv_bipush (v := 9) X.1 X.2.1 dX9_look_62 (by decide) ?_
              refine lv_iload_n X.1 X.2.1 dX9_look_64 rfl (lv_at hl 1 rfl) ?_
              refine lv_imul X.1 X.2.1 dX9_look_65 ?_
              refine lv_iload X.1 X.2.1 dX9_look_66 (lv_at hl 4 rfl) ?_
              refine lv_iadd X.1 X.2.1 dX9_look_68 ?_
              obtain ⟨g17, hf⟩ := gd_ok hf
              refine r_iald X hw (hMk hw.2.2.2.2.2.1 23 rfl) (hMn hw.2.2.2.2.2.1 23 rfl) g17 dX9_look_69 ?_
              cases hf
              exact r_iret X hw dX9_look_70
          · replace hf := cd_fk hq hf
            exact w_X9_look_41 X  _ _ _ _ hf hw (lv_sub hl [] rfl)
set_option maxHeartbeats 4000000 in
theorem w_X9_pay_29 {p : Program} {l : Launch} {e : Env} {s : State} {m : MethodId} {args : Array Value} {below : List Frame} {meth : Method} {c : Code} {D : va_G} {B : Nat} {cy : Nat → ClassId} {A : Nat → Prop} {ad av : Nat → Nat} {rv : Int64} {Z : HS} (X : hCX p s m args meth c RX9 cX9_pay 5 (some .long) D cy A ad av) {z : Nat}   (S : HS) (H : Heap) (locs : List Loc) (ls : Array Slot) (hf : fn_X9_pay_29 S = some (rv, Z)) (hw : hWd D B cy A true (hMz z) S s.heap H locs) (hl : lv_has ls 5 []) : W p l e ({ frames := 3, cells := 0, slots := 0, locals := 72 } : Room) s m args below meth c H locs 0 0 (MQ below (hQo D B cy A true (hMz z) Z (some (.long rv))) args s 0 0 A) (F0 m 29 ls []) := by
  unfold fn_X9_pay_29 at hf
  refine lv_ldc2 X.1 X.2.1 X.2.2.2.1 (X.2.2.2.2.1 _ tw_816) dX9_pay_29 ?_
  cases hf
  exact r_lret X hw dX9_pay_32
theorem hd_X9_pay : yX9_pay.cls = RX9 ∧ yX9_pay.cls ≠ "java/lang/invoke/MethodHandle" ∧ yX9_pay.cls ≠ "java/lang/invoke/VarHandle" ∧ (parseMethodDescriptor yX9_pay.desc).map (fun d => d.parameters.length) = some 3 := by decide +kernel
set_option maxHeartbeats 4000000 in
theorem c_X9_pay (l : Launch) (D : va_G) (B : Nat) (cy : Nat → ClassId) (A : Nat → Prop) (ad av : Nat → Nat) {z : Nat} (x1 : Int32) (x2 : Int32) (x3 : Int32) {S Z : HS} {rv : Int64} (hfr : hFr S) (hG : (hMz z) S) (hf : fn_X9_pay x1 x2 x3 S = some (rv, Z)) : hMet l yX9_pay cX9_pay 5 (some .long) ({ frames := 3, cells := 0, slots := 0, locals := 72 } : Room) D B cy A ad av true (hMz z) [.ref (B + 0), .int x1, .int x2, .int x3] S Z (some (.long rv)) 0 0 := by
  refine h_entry (by decide) hfr hG ?_
  intro p e s m below meth c args X hnm hw
  have hl := lv_entry ([.ref (B + 0), .int x1, .int x2, .int x3]) (n := 5) (Nat.le_of_ble_eq_true rfl)
  rw [lg_entry_eq]
  generalize (lg_sl ([.ref (B + 0), .int x1, .int x2, .int x3]) ++ List.replicate (5 - (lg_sl ([.ref (B + 0), .int x1, .int x2, .int x3])).length) Slot.unset).toArray = ls at hl ⊢
  have hl : lv_has ls 5 [(0, .ref (B + 0)), (1, .int x1), (2, .int x2), (3, .int x3)] := hl
  unfold fn_X9_pay at hf
  refine lv_aload_n X.1 X.2.1 dX9_pay_0 rfl (lv_at hl 0 rfl) ?_
  refine lv_iconst (v := 0) X.1 X.2.1 dX9_pay_1 (by decide) ?_
  obtain ⟨S1, eS1, hf⟩ := bn_ok hf
  replace eS1 := Option.some.inj eS1
  refine r_putI X hw (κ := 10) rfl inlX9 tyX9 tyX9_ok nmX9 0 (by decide) rfl (by decide) tw_158 (Or.inl rfl) (hMk hw.2.2.2.2.2.1 0 rfl) rfl rfl hw.2.2.2.2.2 dX9_pay_2 (fun H locs hw => ?_)
  rw [eS1] at hw
  refine lv_aload_n X.1 X.2.1 dX9_pay_5 rfl (lv_at hl 0 rfl) ?_
  refine lv_iload_n X.1 X.2.1 dX9_pay_6 rfl (lv_at hl 1 rfl) ?_
  obtain ⟨r3, S2, hS2, hf⟩ := bn2_ok hf
  refine r_callV (As := [.int x1]) (rest := []) (st1 := [.int r3]) (κ := 10) X hw (c_X9_isPost l D B cy A ad av x1 hw.2.2.2.2.1 hw.2.2.2.2.2 hS2) ⟨rfl, rfl, Nat.le_of_ble_eq_true rfl, Nat.le_of_ble_eq_true rfl⟩ rfl (by decide) (hMk hw.2.2.2.2.2.1 0 rfl) tw_752 tw_753 tw_754 tw_5 tw_755 hd_X9_isPost rfl hl.1 rfl (Nat.le_of_ble_eq_true rfl) dX9_pay_7 ⟨Nat.le_of_ble_eq_true rfl, Nat.le_of_ble_eq_true rfl⟩ rfl (fun H locs hw => ?_)
  refine lv_if_eq (tgt := 29) X.1 X.2.1 dX9_pay_10 (by decide) (fun hq => ?_) (fun hq => ?_)
  · replace hf := cd_tk hq hf
    exact w_X9_pay_29 X  _ _ _ _ hf hw (lv_sub hl [] rfl)
  · replace hf := cd_fk hq hf
    refine lv_aload_n X.1 X.2.1 dX9_pay_13 rfl (lv_at hl 0 rfl) ?_
    refine lv_iload_n X.1 X.2.1 dX9_pay_14 rfl (lv_at hl 2 rfl) ?_
    obtain ⟨r5, S4, hS4, hf⟩ := bn2_ok hf
    refine r_callV (As := [.int x2]) (rest := []) (st1 := [.int r5]) (κ := 10) X hw (c_X9_isDay l D B cy A ad av x2 hw.2.2.2.2.1 hw.2.2.2.2.2 hS4) ⟨rfl, rfl, Nat.le_of_ble_eq_true rfl, Nat.le_of_ble_eq_true rfl⟩ rfl (by decide) (hMk hw.2.2.2.2.2.1 0 rfl) tw_756 tw_757 tw_758 tw_5 tw_759 hd_X9_isDay rfl hl.1 rfl (Nat.le_of_ble_eq_true rfl) dX9_pay_15 ⟨Nat.le_of_ble_eq_true rfl, Nat.le_of_ble_eq_true rfl⟩ rfl (fun H locs hw => ?_)
    refine lv_if_eq (tgt := 29) X.1 X.2.1 dX9_pay_18 (by decide) (fun hq => ?_) (fun hq => ?_)
    · replace hf := cd_tk hq hf
      exact w_X9_pay_29 X  _ _ _ _ hf hw (lv_sub hl [] rfl)
    · replace hf := cd_fk hq hf
      refine lv_aload_n X.1 X.2.1 dX9_pay_21 rfl (lv_at hl 0 rfl) ?_
      refine lv_iload_n X.1 X.2.1 dX9_pay_22 rfl (lv_at hl 3 rfl) ?_
      obtain ⟨r7, S6, hS6, hf⟩ := bn2_ok hf
      refine r_callV (As := [.int x3]) (rest := []) (st1 := [.int r7]) (κ := 10) X hw (c_X9_isKnown l D B cy A ad av x3 hw.2.2.2.2.1 hw.2.2.2.2.2 hS6) ⟨rfl, rfl, Nat.le_of_ble_eq_true rfl, Nat.le_of_ble_eq_true rfl⟩ rfl (by decide) (hMk hw.2.2.2.2.2.1 0 rfl) tw_760 tw_761 tw_762 tw_5 tw_763 hd_X9_isKnown rfl hl.1 rfl (Nat.le_of_ble_eq_true rfl) dX9_pay_23 ⟨Nat.le_of_ble_eq_true rfl, Nat.le_of_ble_eq_true rfl⟩ rfl (fun H locs hw => ?_)
      refine lv_if_ne (tgt := 33) X.1 X.2.1 dX9_pay_26 (by decide) (fun hq => ?_) (fun hq => ?_)
      · replace hf := cd_fk hq hf
        refine lv_aload_n X.1 X.2.1 dX9_pay_33 rfl (lv_at hl 0 rfl) ?_
        refine lv_iload_n X.1 X.2.1 dX9_pay_34 rfl (lv_at hl 3 rfl) ?_
        refine lv_iload_n X.1 X.2.1 dX9_pay_35 rfl (lv_at hl 2 rfl) ?_
        obtain ⟨S8, hS8, hf⟩ := bn_ok hf
        refine r_callV (As := [.int x3, .int x2]) (rest := []) (st1 := []) (κ := 10) X hw (c_X9_passes l D B cy A ad av x3 x2 hw.2.2.2.2.1 hw.2.2.2.2.2 hS8) ⟨rfl, rfl, Nat.le_of_ble_eq_true rfl, Nat.le_of_ble_eq_true rfl⟩ rfl (by decide) (hMk hw.2.2.2.2.2.1 0 rfl) tw_764 tw_765 tw_766 tw_5 tw_767 hd_X9_passes rfl hl.1 rfl (Nat.le_of_ble_eq_true rfl) dX9_pay_36 ⟨Nat.le_of_ble_eq_true rfl, Nat.le_of_ble_eq_true rfl⟩ rfl (fun H locs hw => ?_)
        refine lv_aload_n X.1 X.2.1 dX9_pay_39 rfl (lv_at hl 0 rfl) ?_
        refine r_getF X hw (κ := 10) rfl inlX9 38 (by decide) rfl (by decide) tw_127 (hMk hw.2.2.2.2.2.1 0 rfl) (hMr hw.2.2.2.2.2.1 0 38 rfl) dX9_pay_40 ?_
        refine lv_bipush (v := 9) X.1 X.2.1 dX9_pay_43 (by decide) ?_
        refine lv_iload_n X.1 X.2.1 dX9_pay_45 rfl (lv_at hl 1 rfl) ?_
        refine lv_imul X.1 X.2.1 dX9_pay_46 ?_
        refine lv_bipush (v := 7) X.1 X.2.1 dX9_pay_47 (by decide) ?_
        refine lv_iadd X.1 X.2.1 dX9_pay_49 ?_
        obtain ⟨g9, hf⟩ := gd_ok hf
        refine r_iald X hw (hMk hw.2.2.2.2.2.1 23 rfl) (hMn hw.2.2.2.2.2.1 23 rfl) g9 dX9_pay_50 ?_
        obtain ⟨v10, ev10, hf⟩ := bn_ok hf
        replace ev10 := Option.some.inj ev10
        refine lv_ren ev10 ?_
        refine lv_istore (lv' := [(4, .int v10), (0, .ref (B + 0)), (1, .int x1), (2, .int x2), (3, .int x3)]) X.1 X.2.1 dX9_pay_51 hl (by decide) rfl (fun ls hl => ?_)
        refine lv_ldc2 X.1 X.2.1 X.2.2.2.1 (X.2.2.2.2.1 _ tw_768) dX9_pay_53 ?_
        refine lv_aload_n X.1 X.2.1 dX9_pay_56 rfl (lv_at hl 1 rfl) ?_
        refine r_getF X hw (κ := 10) rfl inlX9 46 (by decide) rfl (by decide) tw_135 (hMk hw.2.2.2.2.2.1 0 rfl) (hMr hw.2.2.2.2.2.1 0 46 rfl) dX9_pay_57 ?_
        refine lv_iload_n X.1 X.2.1 dX9_pay_60 rfl (lv_at hl 2 rfl) ?_
        obtain ⟨g11, hf⟩ := gd_ok hf
        refine r_iald X hw (hMk hw.2.2.2.2.2.1 31 rfl) (hMn hw.2.2.2.2.2.1 31 rfl) g11 dX9_pay_61 ?_
        refine lv_i2l X.1 X.2.1 dX9_pay_62 rfl ?_
        refine lv_lmul X.1 X.2.1 dX9_pay_63 ?_
        refine lv_iload X.1 X.2.1 dX9_pay_64 (lv_at hl 0 rfl) ?_
        refine lv_bipush (v := 10) X.1 X.2.1 dX9_pay_66 (by decide) ?_
        refine lv_idiv X.1 X.2.1 dX9_pay_68 (by decide) ?_
        refine lv_i2l X.1 X.2.1 dX9_pay_69 rfl ?_
        refine lv_lmul X.1 X.2.1 dX9_pay_70 ?_
        refine lv_iload X.1 X.2.1 dX9_pay_71 (lv_at hl 0 rfl) ?_
        refine lv_bipush (v := 10) X.1 X.2.1 dX9_pay_73 (by decide) ?_
        refine lv_irem X.1 X.2.1 dX9_pay_75 (by decide) ?_
        refine lv_i2l X.1 X.2.1 dX9_pay_76 rfl ?_
        obtain ⟨hq, hf⟩ := gd_ok hf
        refine lv_ldiv X.1 X.2.1 dX9_pay_77 hq ?_
        cases hf
        exact r_lret X hw dX9_pay_78
      · replace hf := cd_tk hq hf
        exact w_X9_pay_29 X  _ _ _ _ hf hw (lv_sub hl [] rfl)
set_option maxHeartbeats 4000000 in
theorem w_X9_due_31 {p : Program} {l : Launch} {e : Env} {s : State} {m : MethodId} {args : Array Value} {below : List Frame} {meth : Method} {c : Code} {D : va_G} {B : Nat} {cy : Nat → ClassId} {A : Nat → Prop} {ad av : Nat → Nat} {rv : Int64} {Z : HS} (X : hCX p s m args meth c RX9 cX9_due 4 (some .long) D cy A ad av) {z : Nat}   (S : HS) (H : Heap) (locs : List Loc) (ls : Array Slot) (hf : fn_X9_due_31 S = some (rv, Z)) (hw : hWd D B cy A true (hMz z) S s.heap H locs) (hl : lv_has ls 4 []) : W p l e ({ frames := 3, cells := 0, slots := 0, locals := 72 } : Room) s m args below meth c H locs 0 0 (MQ below (hQo D B cy A true (hMz z) Z (some (.long rv))) args s 0 0 A) (F0 m 31 ls []) := by
  unfold fn_X9_due_31 at hf
  refine lv_ldc2 X.1 X.2.1 X.2.2.2.1 (X.2.2.2.2.1 _ tw_816) dX9_due_31 ?_
  cases hf
  exact r_lret X hw dX9_due_34
theorem hd_X9_due : yX9_due.cls = RX9 ∧ yX9_due.cls ≠ "java/lang/invoke/MethodHandle" ∧ yX9_due.cls ≠ "java/lang/invoke/VarHandle" ∧ (parseMethodDescriptor yX9_due.desc).map (fun d => d.parameters.length) = some 3 := by decide +kernel
set_option maxHeartbeats 4000000 in
theorem c_X9_due (l : Launch) (D : va_G) (B : Nat) (cy : Nat → ClassId) (A : Nat → Prop) (ad av : Nat → Nat) {z : Nat} (x1 : Int32) (x2 : Int32) (x3 : Int32) {S Z : HS} {rv : Int64} (hfr : hFr S) (hG : (hMz z) S) (hf : fn_X9_due x1 x2 x3 S = some (rv, Z)) : hMet l yX9_due cX9_due 4 (some .long) ({ frames := 3, cells := 0, slots := 0, locals := 72 } : Room) D B cy A ad av true (hMz z) [.ref (B + 0), .int x1, .int x2, .int x3] S Z (some (.long rv)) 0 0 := by
  refine h_entry (by decide) hfr hG ?_
  intro p e s m below meth c args X hnm hw
  have hl := lv_entry ([.ref (B + 0), .int x1, .int x2, .int x3]) (n := 4) (Nat.le_of_ble_eq_true rfl)
  rw [lg_entry_eq]
  generalize (lg_sl ([.ref (B + 0), .int x1, .int x2, .int x3]) ++ List.replicate (4 - (lg_sl ([.ref (B + 0), .int x1, .int x2, .int x3])).length) Slot.unset).toArray = ls at hl ⊢
  have hl : lv_has ls 4 [(0, .ref (B + 0)), (1, .int x1), (2, .int x2), (3, .int x3)] := hl
  unfold fn_X9_due at hf
  refine lv_aload_n X.1 X.2.1 dX9_due_0 rfl (lv_at hl 0 rfl) ?_
  refine lv_iconst (v := 0) X.1 X.2.1 dX9_due_1 (by decide) ?_
  obtain ⟨S1, eS1, hf⟩ := bn_ok hf
  replace eS1 := Option.some.inj eS1
  refine r_putI X hw (κ := 10) rfl inlX9 tyX9 tyX9_ok nmX9 0 (by decide) rfl (by decide) tw_158 (Or.inl rfl) (hMk hw.2.2.2.2.2.1 0 rfl) rfl rfl hw.2.2.2.2.2 dX9_due_2 (fun H locs hw => ?_)
  rw [eS1] at hw
  refine lv_aload_n X.1 X.2.1 dX9_due_5 rfl (lv_at hl 0 rfl) ?_
  refine lv_iload_n X.1 X.2.1 dX9_due_6 rfl (lv_at hl 1 rfl) ?_
  obtain ⟨r3, S2, hS2, hf⟩ := bn2_ok hf
  refine r_callV (As := [.int x1]) (rest := []) (st1 := [.int r3]) (κ := 10) X hw (c_X9_isPost l D B cy A ad av x1 hw.2.2.2.2.1 hw.2.2.2.2.2 hS2) ⟨rfl, rfl, Nat.le_of_ble_eq_true rfl, Nat.le_of_ble_eq_true rfl⟩ rfl (by decide) (hMk hw.2.2.2.2.2.1 0 rfl) tw_752 tw_753 tw_754 tw_5 tw_755 hd_X9_isPost rfl hl.1 rfl (Nat.le_of_ble_eq_true rfl) dX9_due_7 ⟨Nat.le_of_ble_eq_true rfl, Nat.le_of_ble_eq_true rfl⟩ rfl (fun H locs hw => ?_)
  refine lv_if_eq (tgt := 31) X.1 X.2.1 dX9_due_10 (by decide) (fun hq => ?_) (fun hq => ?_)
  · replace hf := cd_tk hq hf
    exact w_X9_due_31 X  _ _ _ _ hf hw (lv_sub hl [] rfl)
  · replace hf := cd_fk hq hf
    refine lv_iload_n X.1 X.2.1 dX9_due_13 rfl (lv_at hl 2 rfl) ?_
    refine lv_if_lt (tgt := 31) X.1 X.2.1 dX9_due_14 (by decide) (fun hq => ?_) (fun hq => ?_)
    · replace hf := cd_tk hq hf
      exact w_X9_due_31 X  _ _ _ _ hf hw (lv_sub hl [] rfl)
    · replace hf := cd_fk hq hf
      refine lv_iload_n X.1 X.2.1 dX9_due_17 rfl (lv_at hl 2 rfl) ?_
      refine lv_bipush (v := 39) X.1 X.2.1 dX9_due_18 (by decide) ?_
      refine lv_icmp_gt (tgt := 31) X.1 X.2.1 dX9_due_20 (by decide) (fun hq => ?_) (fun hq => ?_)
      · replace hf := cd_tk hq hf
        exact w_X9_due_31 X  _ _ _ _ hf hw (lv_sub hl [] rfl)
      · replace hf := cd_fk hq hf
        refine lv_aload_n X.1 X.2.1 dX9_due_23 rfl (lv_at hl 0 rfl) ?_
        refine lv_iload_n X.1 X.2.1 dX9_due_24 rfl (lv_at hl 3 rfl) ?_
        obtain ⟨r5, S4, hS4, hf⟩ := bn2_ok hf
        refine r_callV (As := [.int x3]) (rest := []) (st1 := [.int r5]) (κ := 10) X hw (c_X9_isKnown l D B cy A ad av x3 hw.2.2.2.2.1 hw.2.2.2.2.2 hS4) ⟨rfl, rfl, Nat.le_of_ble_eq_true rfl, Nat.le_of_ble_eq_true rfl⟩ rfl (by decide) (hMk hw.2.2.2.2.2.1 0 rfl) tw_760 tw_761 tw_762 tw_5 tw_763 hd_X9_isKnown rfl hl.1 rfl (Nat.le_of_ble_eq_true rfl) dX9_due_25 ⟨Nat.le_of_ble_eq_true rfl, Nat.le_of_ble_eq_true rfl⟩ rfl (fun H locs hw => ?_)
        refine lv_if_ne (tgt := 35) X.1 X.2.1 dX9_due_28 (by decide) (fun hq => ?_) (fun hq => ?_)
        · replace hf := cd_fk hq hf
          refine lv_aload_n X.1 X.2.1 dX9_due_35 rfl (lv_at hl 0 rfl) ?_
          refine lv_iload_n X.1 X.2.1 dX9_due_36 rfl (lv_at hl 3 rfl) ?_
          refine lv_bipush (v := 30) X.1 X.2.1 dX9_due_37 (by decide) ?_
          refine lv_iload_n X.1 X.2.1 dX9_due_39 rfl (lv_at hl 2 rfl) ?_
          refine lv_imul X.1 X.2.1 dX9_due_40 ?_
          refine lv_bipush (v := 29) X.1 X.2.1 dX9_due_41 (by decide) ?_
          refine lv_iadd X.1 X.2.1 dX9_due_43 ?_
          obtain ⟨S6, hS6, hf⟩ := bn_ok hf
          refine r_callV (As := [.int x3, .int ((30 * x2) + 29)]) (rest := []) (st1 := []) (κ := 10) X hw (c_X9_passes l D B cy A ad av x3 ((30 * x2) + 29) hw.2.2.2.2.1 hw.2.2.2.2.2 hS6) ⟨rfl, rfl, Nat.le_of_ble_eq_true rfl, Nat.le_of_ble_eq_true rfl⟩ rfl (by decide) (hMk hw.2.2.2.2.2.1 0 rfl) tw_764 tw_765 tw_766 tw_5 tw_767 hd_X9_passes rfl hl.1 rfl (Nat.le_of_ble_eq_true rfl) dX9_due_44 ⟨Nat.le_of_ble_eq_true rfl, Nat.le_of_ble_eq_true rfl⟩ rfl (fun H locs hw => ?_)
          refine lv_aload_n X.1 X.2.1 dX9_due_47 rfl (lv_at hl 0 rfl) ?_
          refine r_getF X hw (κ := 10) rfl inlX9 49 (by decide) rfl (by decide) tw_138 (hMk hw.2.2.2.2.2.1 0 rfl) (hMr hw.2.2.2.2.2.1 0 49 rfl) dX9_due_48 ?_
          refine lv_bipush (v := 40) X.1 X.2.1 dX9_due_51 (by decide) ?_
          refine lv_iload_n X.1 X.2.1 dX9_due_53 rfl (lv_at hl 1 rfl) ?_
          refine lv_imul X.1 X.2.1 dX9_due_54 ?_
          refine lv_iload_n X.1 X.2.1 dX9_due_55 rfl (lv_at hl 2 rfl) ?_
          refine lv_iadd X.1 X.2.1 dX9_due_56 ?_
          obtain ⟨g7, hf⟩ := gd_ok hf
          refine r_lald X hw (hMk hw.2.2.2.2.2.1 34 rfl) (hMn hw.2.2.2.2.2.1 34 rfl) g7 dX9_due_57 ?_
          cases hf
          exact r_lret X hw dX9_due_58
        · replace hf := cd_tk hq hf
          exact w_X9_due_31 X  _ _ _ _ hf hw (lv_sub hl [] rfl)
set_option maxHeartbeats 4000000 in
theorem w_X9_run_145 {p : Program} {l : Launch} {e : Env} {s : State} {m : MethodId} {args : Array Value} {below : List Frame} {meth : Method} {c : Code} {D : va_G} {B : Nat} {cy : Nat → ClassId} {A : Nat → Prop} {ad av : Nat → Nat} {rv : Int32} {Z : HS} (X : hCX p s m args meth c RX9 cX9_run 5 (some .int) D cy A ad av) {z : Nat} (k36 : Int32 → HS → Option (Int32 × HS)) (hk36 : ∀ (x1 : Int32) (S : HS) (H : Heap) (locs : List Loc) (ls : Array Slot), k36 x1 S = some (rv, Z) → hWd D B cy A true (hMz z) S s.heap H locs → lv_has ls 5 [(0, .ref (B + 0)), (1, .int x1)] → W p l e ({ frames := 3, cells := 0, slots := 0, locals := 72 } : Room) s m args below meth c H locs 0 0 (MQ below (hQo D B cy A true (hMz z) Z (some (.int rv))) args s 0 0 A) (F0 m 36 ls [])) (k46 : Int32 → Int32 → HS → Option (Int32 × HS)) (hk46 : ∀ (x1 : Int32) (x2 : Int32) (S : HS) (H : Heap) (locs : List Loc) (ls : Array Slot), k46 x1 x2 S = some (rv, Z) → hWd D B cy A true (hMz z) S s.heap H locs → lv_has ls 5 [(0, .ref (B + 0)), (1, .int x1), (2, .int x2)] → W p l e ({ frames := 3, cells := 0, slots := 0, locals := 72 } : Room) s m args below meth c H locs 0 0 (MQ below (hQo D B cy A true (hMz z) Z (some (.int rv))) args s 0 0 A) (F0 m 46 ls [])) (x1 : Int32) (x2 : Int32) (S : HS) (H : Heap) (locs : List Loc) (ls : Array Slot) (hf : fn_X9_run_145 k36 k46 x1 x2 S = some (rv, Z)) (hw : hWd D B cy A true (hMz z) S s.heap H locs) (hl : lv_has ls 5 [(0, .ref (B + 0)), (1, .int x1), (2, .int x2)]) : W p l e ({ frames := 3, cells := 0, slots := 0, locals := 72 } : Room) s m args below meth c H locs 0 0 (MQ below (hQo D B cy A true (hMz z) Z (some (.int rv))) args s 0 0 A) (F0 m 145 ls []) := by
  unfold fn_X9_run_145 at hf
  obtain ⟨v1, ev1, hf⟩ := bn_ok hf
  replace ev1 := Option.some.inj ev1
  refine lv_iinc (v := v1) (lv' := [(2, .int v1), (0, .ref (B + 0)), (1, .int x1)]) X.1 X.2.1 dX9_run_145 hl (k := 2) rfl ev1 (by decide) rfl (fun ls hl => ?_)
  refine lv_goto (tgt := 46) X.1 X.2.1 dX9_run_148 (by decide) ?_
  exact hk46 _ _ _ _ _ _ hf hw (lv_sub hl [1, 2, 0] rfl)
set_option maxHeartbeats 4000000 in
theorem w_X9_run_46 {p : Program} {l : Launch} {e : Env} {s : State} {m : MethodId} {args : Array Value} {below : List Frame} {meth : Method} {c : Code} {D : va_G} {B : Nat} {cy : Nat → ClassId} {A : Nat → Prop} {ad av : Nat → Nat} {rv : Int32} {Z : HS} (X : hCX p s m args meth c RX9 cX9_run 5 (some .int) D cy A ad av) {z : Nat} (k36 : Int32 → HS → Option (Int32 × HS)) (hk36 : ∀ (x1 : Int32) (S : HS) (H : Heap) (locs : List Loc) (ls : Array Slot), k36 x1 S = some (rv, Z) → hWd D B cy A true (hMz z) S s.heap H locs → lv_has ls 5 [(0, .ref (B + 0)), (1, .int x1)] → W p l e ({ frames := 3, cells := 0, slots := 0, locals := 72 } : Room) s m args below meth c H locs 0 0 (MQ below (hQo D B cy A true (hMz z) Z (some (.int rv))) args s 0 0 A) (F0 m 36 ls [])) : ∀ (n : Nat) (x1 : Int32) (x2 : Int32) (S : HS) (H : Heap) (locs : List Loc) (ls : Array Slot), fn_X9_run_46 k36 n x1 x2 S = some (rv, Z) → hWd D B cy A true (hMz z) S s.heap H locs → lv_has ls 5 [(0, .ref (B + 0)), (1, .int x1), (2, .int x2)] → W p l e ({ frames := 3, cells := 0, slots := 0, locals := 72 } : Room) s m args below meth c H locs 0 0 (MQ below (hQo D B cy A true (hMz z) Z (some (.int rv))) args s 0 0 A) (F0 m 46 ls []) := by
  intro n
  induction n with
  | zero =>
    intro x1 x2 S H locs ls hf
    cases hf
  | succ n ih =>
    intro x1 x2 S H locs ls hf hw hl
    rw [fn_X9_run_46] at hf
    refine lv_iload_n X.1 X.2.1 dX9_run_46 rfl (lv_at hl 2 rfl) ?_
    refine lv_aload_n X.1 X.2.1 dX9_run_47 rfl (lv_at hl 0 rfl) ?_
    refine r_getI X hw (κ := 10) rfl inlX9 3 (by decide) rfl (by decide) tw_450 (hMk hw.2.2.2.2.2.1 0 rfl) dX9_run_48 ?_
    refine lv_bipush (v := 30) X.1 X.2.1 dX9_run_51 (by decide) ?_
    refine lv_idiv X.1 X.2.1 dX9_run_53 (by decide) ?_
    refine lv_icmp_ge (tgt := 151) X.1 X.2.1 dX9_run_54 (by decide) (fun hq => ?_) (fun hq => ?_)
    · replace hf := cd_tk hq hf
      obtain ⟨v1, ev1, hf⟩ := bn_ok hf
      replace ev1 := Option.some.inj ev1
      refine lv_iinc (v := v1) (lv' := [(1, .int v1), (0, .ref (B + 0)), (2, .int x2)]) X.1 X.2.1 dX9_run_151 hl (k := 1) rfl ev1 (by decide) rfl (fun ls hl => ?_)
      refine lv_goto (tgt := 36) X.1 X.2.1 dX9_run_154 (by decide) ?_
      exact hk36 _ _ _ _ _ hf hw (lv_sub hl [1, 0] rfl)
    · replace hf := cd_fk hq hf
      refine lv_aload_n X.1 X.2.1 dX9_run_57 rfl (lv_at hl 0 rfl) ?_
      refine r_getF X hw (κ := 10) rfl inlX9 49 (by decide) rfl (by decide) tw_138 (hMk hw.2.2.2.2.2.1 0 rfl) (hMr hw.2.2.2.2.2.1 0 49 rfl) dX9_run_58 ?_
      refine lv_bipush (v := 40) X.1 X.2.1 dX9_run_61 (by decide) ?_
      refine lv_iload_n X.1 X.2.1 dX9_run_63 rfl (lv_at hl 1 rfl) ?_
      refine lv_imul X.1 X.2.1 dX9_run_64 ?_
      refine lv_iload_n X.1 X.2.1 dX9_run_65 rfl (lv_at hl 2 rfl) ?_
      refine lv_iadd X.1 X.2.1 dX9_run_66 ?_
      obtain ⟨g2, hf⟩ := gd_ok hf
      refine r_lald X hw (hMk hw.2.2.2.2.2.1 34 rfl) (hMn hw.2.2.2.2.2.1 34 rfl) g2 dX9_run_67 ?_
      refine lv_aload_n X.1 X.2.1 dX9_run_68 rfl (lv_at hl 0 rfl) ?_
      refine r_getF X hw (κ := 10) rfl inlX9 50 (by decide) rfl (by decide) tw_139 (hMk hw.2.2.2.2.2.1 0 rfl) (hMr hw.2.2.2.2.2.1 0 50 rfl) dX9_run_69 ?_
      refine lv_bipush (v := 40) X.1 X.2.1 dX9_run_72 (by decide) ?_
      refine lv_iload_n X.1 X.2.1 dX9_run_74 rfl (lv_at hl 1 rfl) ?_
      refine lv_imul X.1 X.2.1 dX9_run_75 ?_
      refine lv_iload_n X.1 X.2.1 dX9_run_76 rfl (lv_at hl 2 rfl) ?_
      refine lv_iadd X.1 X.2.1 dX9_run_77 ?_
      obtain ⟨g3, hf⟩ := gd_ok hf
      refine r_lald X hw (hMk hw.2.2.2.2.2.1 35 rfl) (hMn hw.2.2.2.2.2.1 35 rfl) g3 dX9_run_78 ?_
      refine lv_lsub X.1 X.2.1 dX9_run_79 ?_
      obtain ⟨v4, ev4, hf⟩ := bn_ok hf
      replace ev4 := Option.some.inj ev4
      refine lv_renl ev4 ?_
      refine lv_lstore_n (lv' := [(3, .long v4), (0, .ref (B + 0)), (1, .int x1), (2, .int x2)]) X.1 X.2.1 dX9_run_80 rfl hl (by decide) rfl (fun ls hl => ?_)
      refine lv_lload_n X.1 X.2.1 dX9_run_81 rfl (lv_at hl 0 rfl) ?_
      refine lv_lconst (v := 0) X.1 X.2.1 dX9_run_82 (by decide) ?_
      refine W.lcmp X.1 X.2.1 dX9_run_83 ?_
      refine lv_if_ne (tgt := 90) X.1 X.2.1 dX9_run_84 (by decide) (fun hq => ?_) (fun hq => ?_)
      · replace hf := cd_fk hq hf
        refine lv_aload_n X.1 X.2.1 dX9_run_90 rfl (lv_at hl 1 rfl) ?_
        refine r_getF X hw (κ := 10) rfl inlX9 50 (by decide) rfl (by decide) tw_139 (hMk hw.2.2.2.2.2.1 0 rfl) (hMr hw.2.2.2.2.2.1 0 50 rfl) dX9_run_91 ?_
        refine lv_bipush (v := 40) X.1 X.2.1 dX9_run_94 (by decide) ?_
        refine lv_iload_n X.1 X.2.1 dX9_run_96 rfl (lv_at hl 2 rfl) ?_
        refine lv_imul X.1 X.2.1 dX9_run_97 ?_
        refine lv_iload_n X.1 X.2.1 dX9_run_98 rfl (lv_at hl 3 rfl) ?_
        refine lv_iadd X.1 X.2.1 dX9_run_99 ?_
        refine lv_dup2_11 X.1 X.2.1 dX9_run_100 rfl rfl ?_
        obtain ⟨g5, hf⟩ := gd_ok hf
        refine r_lald X hw (hMk hw.2.2.2.2.2.1 35 rfl) (hMn hw.2.2.2.2.2.1 35 rfl) g5 dX9_run_101 ?_
        refine lv_lload_n X.1 X.2.1 dX9_run_102 rfl (lv_at hl 0 rfl) ?_
        refine lv_ladd X.1 X.2.1 dX9_run_103 ?_
        obtain ⟨g6, hf⟩ := gd_ok hf
        obtain ⟨S7, eS7, hf⟩ := bn_ok hf
        replace eS7 := Option.some.inj eS7
        refine r_last X hw (hMk hw.2.2.2.2.2.1 35 rfl) (hMn hw.2.2.2.2.2.1 35 rfl) g6 hw.2.2.2.2.2 dX9_run_104 (fun H locs hw => ?_)
        rw [eS7] at hw
        refine lv_aload_n X.1 X.2.1 dX9_run_105 rfl (lv_at hl 1 rfl) ?_
        refine r_getF X hw (κ := 10) rfl inlX9 51 (by decide) rfl (by decide) tw_140 (hMk hw.2.2.2.2.2.1 0 rfl) (hMr hw.2.2.2.2.2.1 0 51 rfl) dX9_run_106 ?_
        refine lv_aload_n X.1 X.2.1 dX9_run_109 rfl (lv_at hl 1 rfl) ?_
        refine r_getI X hw (κ := 10) rfl inlX9 54 (by decide) rfl (by decide) tw_865 (hMk hw.2.2.2.2.2.1 0 rfl) dX9_run_110 ?_
        refine lv_iload_n X.1 X.2.1 dX9_run_113 rfl (lv_at hl 2 rfl) ?_
        obtain ⟨g8, hf⟩ := gd_ok hf
        obtain ⟨S9, eS9, hf⟩ := bn_ok hf
        replace eS9 := Option.some.inj eS9
        refine r_iast X hw (hMk hw.2.2.2.2.2.1 36 rfl) (hMn hw.2.2.2.2.2.1 36 rfl) g8 hw.2.2.2.2.2 dX9_run_114 (fun H locs hw => ?_)
        rw [eS9] at hw
        refine lv_aload_n X.1 X.2.1 dX9_run_115 rfl (lv_at hl 1 rfl) ?_
        refine r_getF X hw (κ := 10) rfl inlX9 52 (by decide) rfl (by decide) tw_141 (hMk hw.2.2.2.2.2.1 0 rfl) (hMr hw.2.2.2.2.2.1 0 52 rfl) dX9_run_116 ?_
        refine lv_aload_n X.1 X.2.1 dX9_run_119 rfl (lv_at hl 1 rfl) ?_
        refine r_getI X hw (κ := 10) rfl inlX9 54 (by decide) rfl (by decide) tw_865 (hMk hw.2.2.2.2.2.1 0 rfl) dX9_run_120 ?_
        refine lv_iload_n X.1 X.2.1 dX9_run_123 rfl (lv_at hl 3 rfl) ?_
        obtain ⟨g10, hf⟩ := gd_ok hf
        obtain ⟨S11, eS11, hf⟩ := bn_ok hf
        replace eS11 := Option.some.inj eS11
        refine r_iast X hw (hMk hw.2.2.2.2.2.1 37 rfl) (hMn hw.2.2.2.2.2.1 37 rfl) g10 hw.2.2.2.2.2 dX9_run_124 (fun H locs hw => ?_)
        rw [eS11] at hw
        refine lv_aload_n X.1 X.2.1 dX9_run_125 rfl (lv_at hl 1 rfl) ?_
        refine r_getF X hw (κ := 10) rfl inlX9 53 (by decide) rfl (by decide) tw_142 (hMk hw.2.2.2.2.2.1 0 rfl) (hMr hw.2.2.2.2.2.1 0 53 rfl) dX9_run_126 ?_
        refine lv_aload_n X.1 X.2.1 dX9_run_129 rfl (lv_at hl 1 rfl) ?_
        refine r_getI X hw (κ := 10) rfl inlX9 54 (by decide) rfl (by decide) tw_865 (hMk hw.2.2.2.2.2.1 0 rfl) dX9_run_130 ?_
        refine lv_lload_n X.1 X.2.1 dX9_run_133 rfl (lv_at hl 0 rfl) ?_
        obtain ⟨g12, hf⟩ := gd_ok hf
        obtain ⟨S13, eS13, hf⟩ := bn_ok hf
        replace eS13 := Option.some.inj eS13
        refine r_last X hw (hMk hw.2.2.2.2.2.1 38 rfl) (hMn hw.2.2.2.2.2.1 38 rfl) g12 hw.2.2.2.2.2 dX9_run_134 (fun H locs hw => ?_)
        rw [eS13] at hw
        refine lv_aload_n X.1 X.2.1 dX9_run_135 rfl (lv_at hl 1 rfl) ?_
        refine lv_dup X.1 X.2.1 dX9_run_136 rfl ?_
        refine r_getI X hw (κ := 10) rfl inlX9 54 (by decide) rfl (by decide) tw_865 (hMk hw.2.2.2.2.2.1 0 rfl) dX9_run_137 ?_
        refine lv_iconst (v := 1) X.1 X.2.1 dX9_run_140 (by decide) ?_
        refine lv_iadd X.1 X.2.1 dX9_run_141 ?_
        obtain ⟨S14, eS14, hf⟩ := bn_ok hf
        replace eS14 := Option.some.inj eS14
        refine r_putI X hw (κ := 10) rfl inlX9 tyX9 tyX9_ok nmX9 54 (by decide) rfl (by decide) tw_865 (Or.inl rfl) (hMk hw.2.2.2.2.2.1 0 rfl) rfl rfl hw.2.2.2.2.2 dX9_run_142 (fun H locs hw => ?_)
        rw [eS14] at hw
        exact w_X9_run_145 X k36 hk36 (fn_X9_run_46 k36 n) ih _ _ _ _ _ _ hf hw (lv_sub hl [1, 2, 3] rfl)
      · replace hf := cd_tk hq hf
        refine lv_goto (tgt := 145) X.1 X.2.1 dX9_run_87 (by decide) ?_
        exact w_X9_run_145 X k36 hk36 (fn_X9_run_46 k36 n) ih _ _ _ _ _ _ hf hw (lv_sub hl [1, 2, 3] rfl)
set_option maxHeartbeats 4000000 in
theorem w_X9_run_36 {p : Program} {l : Launch} {e : Env} {s : State} {m : MethodId} {args : Array Value} {below : List Frame} {meth : Method} {c : Code} {D : va_G} {B : Nat} {cy : Nat → ClassId} {A : Nat → Prop} {ad av : Nat → Nat} {rv : Int32} {Z : HS} (X : hCX p s m args meth c RX9 cX9_run 5 (some .int) D cy A ad av) {z : Nat}  : ∀ (n : Nat) (x1 : Int32) (S : HS) (H : Heap) (locs : List Loc) (ls : Array Slot), fn_X9_run_36 n x1 S = some (rv, Z) → hWd D B cy A true (hMz z) S s.heap H locs → lv_has ls 5 [(0, .ref (B + 0)), (1, .int x1)] → W p l e ({ frames := 3, cells := 0, slots := 0, locals := 72 } : Room) s m args below meth c H locs 0 0 (MQ below (hQo D B cy A true (hMz z) Z (some (.int rv))) args s 0 0 A) (F0 m 36 ls []) := by
  intro n
  induction n with
  | zero =>
    intro x1 S H locs ls hf
    cases hf
  | succ n ih =>
    intro x1 S H locs ls hf hw hl
    rw [fn_X9_run_36] at hf
    refine lv_iload_n X.1 X.2.1 dX9_run_36 rfl (lv_at hl 1 rfl) ?_
    refine lv_aload_n X.1 X.2.1 dX9_run_37 rfl (lv_at hl 0 rfl) ?_
    refine r_getI X hw (κ := 10) rfl inlX9 28 (by decide) rfl (by decide) tw_538 (hMk hw.2.2.2.2.2.1 0 rfl) dX9_run_38 ?_
    refine lv_icmp_ge (tgt := 157) X.1 X.2.1 dX9_run_41 (by decide) (fun hq => ?_) (fun hq => ?_)
    · replace hf := cd_tk hq hf
      refine lv_aload_n X.1 X.2.1 dX9_run_157 rfl (lv_at hl 0 rfl) ?_
      refine r_getI X hw (κ := 10) rfl inlX9 54 (by decide) rfl (by decide) tw_865 (hMk hw.2.2.2.2.2.1 0 rfl) dX9_run_158 ?_
      cases hf
      exact r_iret X hw dX9_run_161
    · replace hf := cd_fk hq hf
      refine lv_iconst (v := 0) X.1 X.2.1 dX9_run_44 (by decide) ?_
      refine lv_istore_n (lv' := [(2, .int 0), (0, .ref (B + 0)), (1, .int x1)]) X.1 X.2.1 dX9_run_45 rfl hl (by decide) rfl (fun ls hl => ?_)
      exact w_X9_run_46 X (fn_X9_run_36 n) ih _ _ _ _ _ _ _ hf hw (lv_sub hl [1, 2, 0] rfl)
theorem hd_X9_run : yX9_run.cls = RX9 ∧ yX9_run.cls ≠ "java/lang/invoke/MethodHandle" ∧ yX9_run.cls ≠ "java/lang/invoke/VarHandle" ∧ (parseMethodDescriptor yX9_run.desc).map (fun d => d.parameters.length) = some 0 := by decide +kernel
set_option maxHeartbeats 4000000 in
theorem c_X9_run (l : Launch) (D : va_G) (B : Nat) (cy : Nat → ClassId) (A : Nat → Prop) (ad av : Nat → Nat) {z : Nat}  {S Z : HS} {rv : Int32} (hfr : hFr S) (hG : (hMz z) S) (hf : fn_X9_run S = some (rv, Z)) : hMet l yX9_run cX9_run 5 (some .int) ({ frames := 3, cells := 0, slots := 0, locals := 72 } : Room) D B cy A ad av true (hMz z) [.ref (B + 0)] S Z (some (.int rv)) 0 0 := by
  refine h_entry (by decide) hfr hG ?_
  intro p e s m below meth c args X hnm hw
  have hl := lv_entry ([.ref (B + 0)]) (n := 5) (Nat.le_of_ble_eq_true rfl)
  rw [lg_entry_eq]
  generalize (lg_sl ([.ref (B + 0)]) ++ List.replicate (5 - (lg_sl ([.ref (B + 0)])).length) Slot.unset).toArray = ls at hl ⊢
  have hl : lv_has ls 5 [(0, .ref (B + 0))] := hl
  unfold fn_X9_run at hf
  refine lv_aload_n X.1 X.2.1 dX9_run_0 rfl (lv_at hl 0 rfl) ?_
  refine lv_iconst (v := 0) X.1 X.2.1 dX9_run_1 (by decide) ?_
  obtain ⟨S1, eS1, hf⟩ := bn_ok hf
  replace eS1 := Option.some.inj eS1
  refine r_putI X hw (κ := 10) rfl inlX9 tyX9 tyX9_ok nmX9 0 (by decide) rfl (by decide) tw_158 (Or.inl rfl) (hMk hw.2.2.2.2.2.1 0 rfl) rfl rfl hw.2.2.2.2.2 dX9_run_2 (fun H locs hw => ?_)
  rw [eS1] at hw
  refine lv_aload_n X.1 X.2.1 dX9_run_5 rfl (lv_at hl 0 rfl) ?_
  refine lv_dup X.1 X.2.1 dX9_run_6 rfl ?_
  refine r_getI X hw (κ := 10) rfl inlX9 55 (by decide) rfl (by decide) tw_864 (hMk hw.2.2.2.2.2.1 0 rfl) dX9_run_7 ?_
  refine lv_iconst (v := 1) X.1 X.2.1 dX9_run_10 (by decide) ?_
  refine lv_iadd X.1 X.2.1 dX9_run_11 ?_
  obtain ⟨S2, eS2, hf⟩ := bn_ok hf
  replace eS2 := Option.some.inj eS2
  refine r_putI X hw (κ := 10) rfl inlX9 tyX9 tyX9_ok nmX9 55 (by decide) rfl (by decide) tw_864 (Or.inl rfl) (hMk hw.2.2.2.2.2.1 0 rfl) rfl rfl hw.2.2.2.2.2 dX9_run_12 (fun H locs hw => ?_)
  rw [eS2] at hw
  refine lv_aload_n X.1 X.2.1 dX9_run_15 rfl (lv_at hl 0 rfl) ?_
  refine lv_iconst (v := 0) X.1 X.2.1 dX9_run_16 (by decide) ?_
  obtain ⟨S3, eS3, hf⟩ := bn_ok hf
  replace eS3 := Option.some.inj eS3
  refine r_putI X hw (κ := 10) rfl inlX9 tyX9 tyX9_ok nmX9 54 (by decide) rfl (by decide) tw_865 (Or.inl rfl) (hMk hw.2.2.2.2.2.1 0 rfl) rfl rfl hw.2.2.2.2.2 dX9_run_17 (fun H locs hw => ?_)
  rw [eS3] at hw
  refine lv_aload_n X.1 X.2.1 dX9_run_20 rfl (lv_at hl 0 rfl) ?_
  refine lv_aload_n X.1 X.2.1 dX9_run_21 rfl (lv_at hl 0 rfl) ?_
  refine r_getI X hw (κ := 10) rfl inlX9 3 (by decide) rfl (by decide) tw_450 (hMk hw.2.2.2.2.2.1 0 rfl) dX9_run_22 ?_
  refine lv_aload_n X.1 X.2.1 dX9_run_25 rfl (lv_at hl 0 rfl) ?_
  refine r_getI X hw (κ := 10) rfl inlX9 3 (by decide) rfl (by decide) tw_450 (hMk hw.2.2.2.2.2.1 0 rfl) dX9_run_26 ?_
  refine lv_iconst (v := 1) X.1 X.2.1 dX9_run_29 (by decide) ?_
  refine lv_isub X.1 X.2.1 dX9_run_30 ?_
  obtain ⟨S4, hS4, hf⟩ := bn_ok hf
  refine r_callV (As := [.int (gI S3 0 3), .int ((gI S3 0 3) - 1)]) (rest := []) (st1 := []) (κ := 10) X hw (c_X9_passes l D B cy A ad av (gI S3 0 3) ((gI S3 0 3) - 1) hw.2.2.2.2.1 hw.2.2.2.2.2 hS4) ⟨rfl, rfl, Nat.le_of_ble_eq_true rfl, Nat.le_of_ble_eq_true rfl⟩ rfl (by decide) (hMk hw.2.2.2.2.2.1 0 rfl) tw_764 tw_765 tw_766 tw_5 tw_767 hd_X9_passes rfl hl.1 rfl (Nat.le_of_ble_eq_true rfl) dX9_run_31 ⟨Nat.le_of_ble_eq_true rfl, Nat.le_of_ble_eq_true rfl⟩ rfl (fun H locs hw => ?_)
  refine lv_iconst (v := 0) X.1 X.2.1 dX9_run_34 (by decide) ?_
  refine lv_istore_n (lv' := [(1, .int 0), (0, .ref (B + 0))]) X.1 X.2.1 dX9_run_35 rfl hl (by decide) rfl (fun ls hl => ?_)
  exact w_X9_run_36 X  _ _ _ _ _ _ hf hw (lv_sub hl [1, 0] rfl)
set_option maxHeartbeats 4000000 in
theorem w_X9_payment_67 {p : Program} {l : Launch} {e : Env} {s : State} {m : MethodId} {args : Array Value} {below : List Frame} {meth : Method} {c : Code} {D : va_G} {B : Nat} {cy : Nat → ClassId} {A : Nat → Prop} {ad av : Nat → Nat} {rv : Int64} {Z : HS} (X : hCX p s m args meth c RX9 cX9_payment 3 (some .long) D cy A ad av) {z : Nat}  (y0 : Int64) (S : HS) (H : Heap) (locs : List Loc) (ls : Array Slot) (hf : fn_X9_payment_67 y0 S = some (rv, Z)) (hw : hWd D B cy A true (hMz z) S s.heap H locs) (hl : lv_has ls 3 []) : W p l e ({ frames := 0, cells := 0, slots := 0, locals := 0 } : Room) s m args below meth c H locs 0 0 (MQ below (hQo D B cy A true (hMz z) Z (some (.long rv))) args s 0 0 A) (F0 m 67 ls [.long y0]) := by
  unfold fn_X9_payment_67 at hf
  cases hf
  exact r_lret X hw dX9_payment_67
set_option maxHeartbeats 4000000 in
theorem w_X9_payment_17 {p : Program} {l : Launch} {e : Env} {s : State} {m : MethodId} {args : Array Value} {below : List Frame} {meth : Method} {c : Code} {D : va_G} {B : Nat} {cy : Nat → ClassId} {A : Nat → Prop} {ad av : Nat → Nat} {rv : Int64} {Z : HS} (X : hCX p s m args meth c RX9 cX9_payment 3 (some .long) D cy A ad av) {z : Nat}   (S : HS) (H : Heap) (locs : List Loc) (ls : Array Slot) (hf : fn_X9_payment_17 S = some (rv, Z)) (hw : hWd D B cy A true (hMz z) S s.heap H locs) (hl : lv_has ls 3 []) : W p l e ({ frames := 0, cells := 0, slots := 0, locals := 0 } : Room) s m args below meth c H locs 0 0 (MQ below (hQo D B cy A true (hMz z) Z (some (.long rv))) args s 0 0 A) (F0 m 17 ls []) := by
  unfold fn_X9_payment_17 at hf
  refine lv_ldc2 X.1 X.2.1 X.2.2.2.1 (X.2.2.2.2.1 _ tw_816) dX9_payment_17 ?_
  cases hf
  exact r_lret X hw dX9_payment_20
theorem hd_X9_payment : yX9_payment.cls = RX9 ∧ yX9_payment.cls ≠ "java/lang/invoke/MethodHandle" ∧ yX9_payment.cls ≠ "java/lang/invoke/VarHandle" ∧ (parseMethodDescriptor yX9_payment.desc).map (fun d => d.parameters.length) = some 2 := by decide +kernel
set_option maxHeartbeats 4000000 in
theorem c_X9_payment (l : Launch) (D : va_G) (B : Nat) (cy : Nat → ClassId) (A : Nat → Prop) (ad av : Nat → Nat) {z : Nat} (x1 : Int32) (x2 : Int32) {S Z : HS} {rv : Int64} (hfr : hFr S) (hG : (hMz z) S) (hf : fn_X9_payment x1 x2 S = some (rv, Z)) : hMet l yX9_payment cX9_payment 3 (some .long) ({ frames := 0, cells := 0, slots := 0, locals := 0 } : Room) D B cy A ad av true (hMz z) [.ref (B + 0), .int x1, .int x2] S Z (some (.long rv)) 0 0 := by
  refine h_entry (by decide) hfr hG ?_
  intro p e s m below meth c args X hnm hw
  have hl := lv_entry ([.ref (B + 0), .int x1, .int x2]) (n := 3) (Nat.le_of_ble_eq_true rfl)
  rw [lg_entry_eq]
  generalize (lg_sl ([.ref (B + 0), .int x1, .int x2]) ++ List.replicate (3 - (lg_sl ([.ref (B + 0), .int x1, .int x2])).length) Slot.unset).toArray = ls at hl ⊢
  have hl : lv_has ls 3 [(0, .ref (B + 0)), (1, .int x1), (2, .int x2)] := hl
  unfold fn_X9_payment at hf
  refine lv_aload_n X.1 X.2.1 dX9_payment_0 rfl (lv_at hl 0 rfl) ?_
  refine lv_iconst (v := 0) X.1 X.2.1 dX9_payment_1 (by decide) ?_
  obtain ⟨S1, eS1, hf⟩ := bn_ok hf
  replace eS1 := Option.some.inj eS1
  refine r_putI X hw (κ := 10) rfl inlX9 tyX9 tyX9_ok nmX9 0 (by decide) rfl (by decide) tw_158 (Or.inl rfl) (hMk hw.2.2.2.2.2.1 0 rfl) rfl rfl hw.2.2.2.2.2 dX9_payment_2 (fun H locs hw => ?_)
  rw [eS1] at hw
  refine lv_iload_n X.1 X.2.1 dX9_payment_5 rfl (lv_at hl 1 rfl) ?_
  refine lv_if_lt (tgt := 17) X.1 X.2.1 dX9_payment_6 (by decide) (fun hq => ?_) (fun hq => ?_)
  · replace hf := cd_tk hq hf
    exact w_X9_payment_17 X  _ _ _ _ hf hw (lv_sub hl [] rfl)
  · replace hf := cd_fk hq hf
    refine lv_iload_n X.1 X.2.1 dX9_payment_9 rfl (lv_at hl 1 rfl) ?_
    refine lv_aload_n X.1 X.2.1 dX9_payment_10 rfl (lv_at hl 0 rfl) ?_
    refine r_getI X hw (κ := 10) rfl inlX9 54 (by decide) rfl (by decide) tw_865 (hMk hw.2.2.2.2.2.1 0 rfl) dX9_payment_11 ?_
    refine lv_icmp_lt (tgt := 21) X.1 X.2.1 dX9_payment_14 (by decide) (fun hq => ?_) (fun hq => ?_)
    · replace hf := cd_tk hq hf
      refine lv_iload_n X.1 X.2.1 dX9_payment_21 rfl (lv_at hl 2 rfl) ?_
      refine lv_if_ne (tgt := 35) X.1 X.2.1 dX9_payment_22 (by decide) (fun hq => ?_) (fun hq => ?_)
      · replace hf := cd_fk hq hf
        refine lv_iload_n X.1 X.2.1 dX9_payment_35 rfl (lv_at hl 2 rfl) ?_
        refine lv_iconst (v := 1) X.1 X.2.1 dX9_payment_36 (by decide) ?_
        refine lv_icmp_ne (tgt := 50) X.1 X.2.1 dX9_payment_37 (by decide) (fun hq => ?_) (fun hq => ?_)
        · replace hf := cd_fk hq hf
          refine lv_iload_n X.1 X.2.1 dX9_payment_50 rfl (lv_at hl 2 rfl) ?_
          refine lv_iconst (v := 2) X.1 X.2.1 dX9_payment_51 (by decide) ?_
          refine lv_icmp_ne (tgt := 64) X.1 X.2.1 dX9_payment_52 (by decide) (fun hq => ?_) (fun hq => ?_)
          · replace hf := cd_fk hq hf
            refine lv_ldc2 X.1 X.2.1 X.2.2.2.1 (X.2.2.2.2.1 _ tw_816) dX9_payment_64 ?_
            exact w_X9_payment_67 X  _ _ _ _ _ hf hw (lv_sub hl [] rfl)
          · replace hf := cd_tk hq hf
            refine lv_aload_n X.1 X.2.1 dX9_payment_55 rfl (lv_at hl 0 rfl) ?_
            refine r_getF X hw (κ := 10) rfl inlX9 53 (by decide) rfl (by decide) tw_142 (hMk hw.2.2.2.2.2.1 0 rfl) (hMr hw.2.2.2.2.2.1 0 53 rfl) dX9_payment_56 ?_
            refine lv_iload_n X.1 X.2.1 dX9_payment_59 rfl (lv_at hl 1 rfl) ?_
            obtain ⟨g2, hf⟩ := gd_ok hf
            refine r_lald X hw (hMk hw.2.2.2.2.2.1 38 rfl) (hMn hw.2.2.2.2.2.1 38 rfl) g2 dX9_payment_60 ?_
            refine lv_goto (tgt := 67) X.1 X.2.1 dX9_payment_61 (by decide) ?_
            exact w_X9_payment_67 X  _ _ _ _ _ hf hw (lv_sub hl [] rfl)
        · replace hf := cd_tk hq hf
          refine lv_aload_n X.1 X.2.1 dX9_payment_40 rfl (lv_at hl 0 rfl) ?_
          refine r_getF X hw (κ := 10) rfl inlX9 52 (by decide) rfl (by decide) tw_141 (hMk hw.2.2.2.2.2.1 0 rfl) (hMr hw.2.2.2.2.2.1 0 52 rfl) dX9_payment_41 ?_
          refine lv_iload_n X.1 X.2.1 dX9_payment_44 rfl (lv_at hl 1 rfl) ?_
          obtain ⟨g3, hf⟩ := gd_ok hf
          refine r_iald X hw (hMk hw.2.2.2.2.2.1 37 rfl) (hMn hw.2.2.2.2.2.1 37 rfl) g3 dX9_payment_45 ?_
          refine lv_i2l X.1 X.2.1 dX9_payment_46 rfl ?_
          refine lv_goto (tgt := 67) X.1 X.2.1 dX9_payment_47 (by decide) ?_
          exact w_X9_payment_67 X  _ _ _ _ _ hf hw (lv_sub hl [] rfl)
      · replace hf := cd_tk hq hf
        refine lv_aload_n X.1 X.2.1 dX9_payment_25 rfl (lv_at hl 0 rfl) ?_
        refine r_getF X hw (κ := 10) rfl inlX9 51 (by decide) rfl (by decide) tw_140 (hMk hw.2.2.2.2.2.1 0 rfl) (hMr hw.2.2.2.2.2.1 0 51 rfl) dX9_payment_26 ?_
        refine lv_iload_n X.1 X.2.1 dX9_payment_29 rfl (lv_at hl 1 rfl) ?_
        obtain ⟨g4, hf⟩ := gd_ok hf
        refine r_iald X hw (hMk hw.2.2.2.2.2.1 36 rfl) (hMn hw.2.2.2.2.2.1 36 rfl) g4 dX9_payment_30 ?_
        refine lv_i2l X.1 X.2.1 dX9_payment_31 rfl ?_
        refine lv_goto (tgt := 67) X.1 X.2.1 dX9_payment_32 (by decide) ?_
        exact w_X9_payment_67 X  _ _ _ _ _ hf hw (lv_sub hl [] rfl)
    · replace hf := cd_fk hq hf
      exact w_X9_payment_17 X  _ _ _ _ hf hw (lv_sub hl [] rfl)
set_option maxHeartbeats 4000000 in
theorem w_X9_paid_40 {p : Program} {l : Launch} {e : Env} {s : State} {m : MethodId} {args : Array Value} {below : List Frame} {meth : Method} {c : Code} {D : va_G} {B : Nat} {cy : Nat → ClassId} {A : Nat → Prop} {ad av : Nat → Nat} {rv : Int64} {Z : HS} (X : hCX p s m args meth c RX9 cX9_paid 3 (some .long) D cy A ad av) {z : Nat}  (y0 : Int64) (S : HS) (H : Heap) (locs : List Loc) (ls : Array Slot) (hf : fn_X9_paid_40 y0 S = some (rv, Z)) (hw : hWd D B cy A true (hMz z) S s.heap H locs) (hl : lv_has ls 3 []) : W p l e ({ frames := 1, cells := 0, slots := 0, locals := 21 } : Room) s m args below meth c H locs 0 0 (MQ below (hQo D B cy A true (hMz z) Z (some (.long rv))) args s 0 0 A) (F0 m 40 ls [.long y0]) := by
  unfold fn_X9_paid_40 at hf
  cases hf
  exact r_lret X hw dX9_paid_40
set_option maxHeartbeats 4000000 in
theorem w_X9_paid_37 {p : Program} {l : Launch} {e : Env} {s : State} {m : MethodId} {args : Array Value} {below : List Frame} {meth : Method} {c : Code} {D : va_G} {B : Nat} {cy : Nat → ClassId} {A : Nat → Prop} {ad av : Nat → Nat} {rv : Int64} {Z : HS} (X : hCX p s m args meth c RX9 cX9_paid 3 (some .long) D cy A ad av) {z : Nat}   (S : HS) (H : Heap) (locs : List Loc) (ls : Array Slot) (hf : fn_X9_paid_37 S = some (rv, Z)) (hw : hWd D B cy A true (hMz z) S s.heap H locs) (hl : lv_has ls 3 []) : W p l e ({ frames := 1, cells := 0, slots := 0, locals := 21 } : Room) s m args below meth c H locs 0 0 (MQ below (hQo D B cy A true (hMz z) Z (some (.long rv))) args s 0 0 A) (F0 m 37 ls []) := by
  unfold fn_X9_paid_37 at hf
  refine lv_ldc2 X.1 X.2.1 X.2.2.2.1 (X.2.2.2.2.1 _ tw_816) dX9_paid_37 ?_
  exact w_X9_paid_40 X  _ _ _ _ _ hf hw (lv_sub hl [] rfl)
theorem hd_X9_paid : yX9_paid.cls = RX9 ∧ yX9_paid.cls ≠ "java/lang/invoke/MethodHandle" ∧ yX9_paid.cls ≠ "java/lang/invoke/VarHandle" ∧ (parseMethodDescriptor yX9_paid.desc).map (fun d => d.parameters.length) = some 2 := by decide +kernel
set_option maxHeartbeats 4000000 in
theorem c_X9_paid (l : Launch) (D : va_G) (B : Nat) (cy : Nat → ClassId) (A : Nat → Prop) (ad av : Nat → Nat) {z : Nat} (x1 : Int32) (x2 : Int32) {S Z : HS} {rv : Int64} (hfr : hFr S) (hG : (hMz z) S) (hf : fn_X9_paid x1 x2 S = some (rv, Z)) : hMet l yX9_paid cX9_paid 3 (some .long) ({ frames := 1, cells := 0, slots := 0, locals := 21 } : Room) D B cy A ad av true (hMz z) [.ref (B + 0), .int x1, .int x2] S Z (some (.long rv)) 0 0 := by
  refine h_entry (by decide) hfr hG ?_
  intro p e s m below meth c args X hnm hw
  have hl := lv_entry ([.ref (B + 0), .int x1, .int x2]) (n := 3) (Nat.le_of_ble_eq_true rfl)
  rw [lg_entry_eq]
  generalize (lg_sl ([.ref (B + 0), .int x1, .int x2]) ++ List.replicate (3 - (lg_sl ([.ref (B + 0), .int x1, .int x2])).length) Slot.unset).toArray = ls at hl ⊢
  have hl : lv_has ls 3 [(0, .ref (B + 0)), (1, .int x1), (2, .int x2)] := hl
  unfold fn_X9_paid at hf
  refine lv_aload_n X.1 X.2.1 dX9_paid_0 rfl (lv_at hl 0 rfl) ?_
  refine lv_iconst (v := 0) X.1 X.2.1 dX9_paid_1 (by decide) ?_
  obtain ⟨S1, eS1, hf⟩ := bn_ok hf
  replace eS1 := Option.some.inj eS1
  refine r_putI X hw (κ := 10) rfl inlX9 tyX9 tyX9_ok nmX9 0 (by decide) rfl (by decide) tw_158 (Or.inl rfl) (hMk hw.2.2.2.2.2.1 0 rfl) rfl rfl hw.2.2.2.2.2 dX9_paid_2 (fun H locs hw => ?_)
  rw [eS1] at hw
  refine lv_aload_n X.1 X.2.1 dX9_paid_5 rfl (lv_at hl 0 rfl) ?_
  refine lv_iload_n X.1 X.2.1 dX9_paid_6 rfl (lv_at hl 1 rfl) ?_
  obtain ⟨r3, S2, hS2, hf⟩ := bn2_ok hf
  refine r_callV (As := [.int x1]) (rest := []) (st1 := [.int r3]) (κ := 10) X hw (c_X9_isPost l D B cy A ad av x1 hw.2.2.2.2.1 hw.2.2.2.2.2 hS2) ⟨rfl, rfl, Nat.le_of_ble_eq_true rfl, Nat.le_of_ble_eq_true rfl⟩ rfl (by decide) (hMk hw.2.2.2.2.2.1 0 rfl) tw_752 tw_753 tw_754 tw_5 tw_755 hd_X9_isPost rfl hl.1 rfl (Nat.le_of_ble_eq_true rfl) dX9_paid_7 ⟨Nat.le_of_ble_eq_true rfl, Nat.le_of_ble_eq_true rfl⟩ rfl (fun H locs hw => ?_)
  refine lv_if_eq (tgt := 37) X.1 X.2.1 dX9_paid_10 (by decide) (fun hq => ?_) (fun hq => ?_)
  · replace hf := cd_tk hq hf
    exact w_X9_paid_37 X  _ _ _ _ hf hw (lv_sub hl [] rfl)
  · replace hf := cd_fk hq hf
    refine lv_iload_n X.1 X.2.1 dX9_paid_13 rfl (lv_at hl 2 rfl) ?_
    refine lv_if_lt (tgt := 37) X.1 X.2.1 dX9_paid_14 (by decide) (fun hq => ?_) (fun hq => ?_)
    · replace hf := cd_tk hq hf
      exact w_X9_paid_37 X  _ _ _ _ hf hw (lv_sub hl [] rfl)
    · replace hf := cd_fk hq hf
      refine lv_iload_n X.1 X.2.1 dX9_paid_17 rfl (lv_at hl 2 rfl) ?_
      refine lv_bipush (v := 39) X.1 X.2.1 dX9_paid_18 (by decide) ?_
      refine lv_icmp_gt (tgt := 37) X.1 X.2.1 dX9_paid_20 (by decide) (fun hq => ?_) (fun hq => ?_)
      · replace hf := cd_tk hq hf
        exact w_X9_paid_37 X  _ _ _ _ hf hw (lv_sub hl [] rfl)
      · replace hf := cd_fk hq hf
        refine lv_aload_n X.1 X.2.1 dX9_paid_23 rfl (lv_at hl 0 rfl) ?_
        refine r_getF X hw (κ := 10) rfl inlX9 50 (by decide) rfl (by decide) tw_139 (hMk hw.2.2.2.2.2.1 0 rfl) (hMr hw.2.2.2.2.2.1 0 50 rfl) dX9_paid_24 ?_
        refine lv_bipush (v := 40) X.1 X.2.1 dX9_paid_27 (by decide) ?_
        refine lv_iload_n X.1 X.2.1 dX9_paid_29 rfl (lv_at hl 1 rfl) ?_
        refine lv_imul X.1 X.2.1 dX9_paid_30 ?_
        refine lv_iload_n X.1 X.2.1 dX9_paid_31 rfl (lv_at hl 2 rfl) ?_
        refine lv_iadd X.1 X.2.1 dX9_paid_32 ?_
        obtain ⟨g4, hf⟩ := gd_ok hf
        refine r_lald X hw (hMk hw.2.2.2.2.2.1 35 rfl) (hMn hw.2.2.2.2.2.1 35 rfl) g4 dX9_paid_33 ?_
        refine lv_goto (tgt := 40) X.1 X.2.1 dX9_paid_34 (by decide) ?_
        exact w_X9_paid_40 X  _ _ _ _ _ hf hw (lv_sub hl [] rfl)
set_option maxHeartbeats 4000000 in
theorem w_X9_cost_62 {p : Program} {l : Launch} {e : Env} {s : State} {m : MethodId} {args : Array Value} {below : List Frame} {meth : Method} {c : Code} {D : va_G} {B : Nat} {cy : Nat → ClassId} {A : Nat → Prop} {ad av : Nat → Nat} {rv : Int64} {Z : HS} (X : hCX p s m args meth c RX9 cX9_cost 8 (some .long) D cy A ad av) {z : Nat} (k50 : Int32 → Int32 → Int64 → Int32 → HS → Option (Int64 × HS)) (hk50 : ∀ (x1 : Int32) (x2 : Int32) (x4 : Int64) (x6 : Int32) (S : HS) (H : Heap) (locs : List Loc) (ls : Array Slot), k50 x1 x2 x4 x6 S = some (rv, Z) → hWd D B cy A true (hMz z) S s.heap H locs → lv_has ls 8 [(0, .ref (B + 0)), (1, .int x1), (2, .int x2), (4, .long x4), (6, .int x6)] → W p l e ({ frames := 3, cells := 0, slots := 0, locals := 72 } : Room) s m args below meth c H locs 0 0 (MQ below (hQo D B cy A true (hMz z) Z (some (.long rv))) args s 0 0 A) (F0 m 50 ls [])) : ∀ (n : Nat) (x1 : Int32) (x2 : Int32) (x4 : Int64) (x6 : Int32) (x7 : Int32) (S : HS) (H : Heap) (locs : List Loc) (ls : Array Slot), fn_X9_cost_62 k50 n x1 x2 x4 x6 x7 S = some (rv, Z) → hWd D B cy A true (hMz z) S s.heap H locs → lv_has ls 8 [(0, .ref (B + 0)), (1, .int x1), (2, .int x2), (4, .long x4), (6, .int x6), (7, .int x7)] → W p l e ({ frames := 3, cells := 0, slots := 0, locals := 72 } : Room) s m args below meth c H locs 0 0 (MQ below (hQo D B cy A true (hMz z) Z (some (.long rv))) args s 0 0 A) (F0 m 62 ls []) := by
  intro n
  induction n with
  | zero =>
    intro x1 x2 x4 x6 x7 S H locs ls hf
    cases hf
  | succ n ih =>
    intro x1 x2 x4 x6 x7 S H locs ls hf hw hl
    rw [fn_X9_cost_62] at hf
    refine lv_iload X.1 X.2.1 dX9_cost_62 (lv_at hl 5 rfl) ?_
    refine lv_iload_n X.1 X.2.1 dX9_cost_64 rfl (lv_at hl 2 rfl) ?_
    refine lv_icmp_gt (tgt := 92) X.1 X.2.1 dX9_cost_65 (by decide) (fun hq => ?_) (fun hq => ?_)
    · replace hf := cd_tk hq hf
      obtain ⟨v1, ev1, hf⟩ := bn_ok hf
      replace ev1 := Option.some.inj ev1
      refine lv_iinc (v := v1) (lv' := [(6, .int v1), (0, .ref (B + 0)), (1, .int x1), (2, .int x2), (4, .long x4), (7, .int x7)]) X.1 X.2.1 dX9_cost_92 hl (k := 4) rfl ev1 (by decide) rfl (fun ls hl => ?_)
      refine lv_goto (tgt := 50) X.1 X.2.1 dX9_cost_95 (by decide) ?_
      exact hk50 _ _ _ _ _ _ _ _ hf hw (lv_sub hl [1, 2, 3, 4, 0] rfl)
    · replace hf := cd_fk hq hf
      refine lv_lload X.1 X.2.1 dX9_cost_68 (lv_at hl 3 rfl) ?_
      refine lv_aload_n X.1 X.2.1 dX9_cost_70 rfl (lv_at hl 0 rfl) ?_
      refine r_getF X hw (κ := 10) rfl inlX9 49 (by decide) rfl (by decide) tw_138 (hMk hw.2.2.2.2.2.1 0 rfl) (hMr hw.2.2.2.2.2.1 0 49 rfl) dX9_cost_71 ?_
      refine lv_bipush (v := 40) X.1 X.2.1 dX9_cost_74 (by decide) ?_
      refine lv_iload X.1 X.2.1 dX9_cost_76 (lv_at hl 4 rfl) ?_
      refine lv_imul X.1 X.2.1 dX9_cost_78 ?_
      refine lv_iload X.1 X.2.1 dX9_cost_79 (lv_at hl 5 rfl) ?_
      refine lv_iadd X.1 X.2.1 dX9_cost_81 ?_
      obtain ⟨g2, hf⟩ := gd_ok hf
      refine r_lald X hw (hMk hw.2.2.2.2.2.1 34 rfl) (hMn hw.2.2.2.2.2.1 34 rfl) g2 dX9_cost_82 ?_
      refine lv_ladd X.1 X.2.1 dX9_cost_83 ?_
      obtain ⟨v3, ev3, hf⟩ := bn_ok hf
      replace ev3 := Option.some.inj ev3
      refine lv_renl ev3 ?_
      refine lv_lstore (lv' := [(4, .long v3), (0, .ref (B + 0)), (1, .int x1), (2, .int x2), (6, .int x6), (7, .int x7)]) X.1 X.2.1 dX9_cost_84 hl (by decide) rfl (fun ls hl => ?_)
      obtain ⟨v4, ev4, hf⟩ := bn_ok hf
      replace ev4 := Option.some.inj ev4
      refine lv_iinc (v := v4) (lv' := [(7, .int v4), (4, .long v3), (0, .ref (B + 0)), (1, .int x1), (2, .int x2), (6, .int x6)]) X.1 X.2.1 dX9_cost_86 hl (k := 5) rfl ev4 (by decide) rfl (fun ls hl => ?_)
      refine lv_goto (tgt := 62) X.1 X.2.1 dX9_cost_89 (by decide) ?_
      exact ih _ _ _ _ _ _ _ _ _ hf hw (lv_sub hl [2, 3, 4, 1, 5, 0] rfl)
set_option maxHeartbeats 4000000 in
theorem w_X9_cost_50 {p : Program} {l : Launch} {e : Env} {s : State} {m : MethodId} {args : Array Value} {below : List Frame} {meth : Method} {c : Code} {D : va_G} {B : Nat} {cy : Nat → ClassId} {A : Nat → Prop} {ad av : Nat → Nat} {rv : Int64} {Z : HS} (X : hCX p s m args meth c RX9 cX9_cost 8 (some .long) D cy A ad av) {z : Nat}  : ∀ (n : Nat) (x1 : Int32) (x2 : Int32) (x4 : Int64) (x6 : Int32) (S : HS) (H : Heap) (locs : List Loc) (ls : Array Slot), fn_X9_cost_50 n x1 x2 x4 x6 S = some (rv, Z) → hWd D B cy A true (hMz z) S s.heap H locs → lv_has ls 8 [(0, .ref (B + 0)), (1, .int x1), (2, .int x2), (4, .long x4), (6, .int x6)] → W p l e ({ frames := 3, cells := 0, slots := 0, locals := 72 } : Room) s m args below meth c H locs 0 0 (MQ below (hQo D B cy A true (hMz z) Z (some (.long rv))) args s 0 0 A) (F0 m 50 ls []) := by
  intro n
  induction n with
  | zero =>
    intro x1 x2 x4 x6 S H locs ls hf
    cases hf
  | succ n ih =>
    intro x1 x2 x4 x6 S H locs ls hf hw hl
    rw [fn_X9_cost_50] at hf
    refine lv_iload X.1 X.2.1 dX9_cost_50 (lv_at hl 4 rfl) ?_
    refine lv_aload_n X.1 X.2.1 dX9_cost_52 rfl (lv_at hl 0 rfl) ?_
    refine r_getI X hw (κ := 10) rfl inlX9 28 (by decide) rfl (by decide) tw_538 (hMk hw.2.2.2.2.2.1 0 rfl) dX9_cost_53 ?_
    refine lv_icmp_ge (tgt := 98) X.1 X.2.1 dX9_cost_56 (by decide) (fun hq => ?_) (fun hq => ?_)
    · replace hf := cd_tk hq hf
      refine lv_lload X.1 X.2.1 dX9_cost_98 (lv_at hl 3 rfl) ?_
      cases hf
      exact r_lret X hw dX9_cost_100
    · replace hf := cd_fk hq hf
      refine lv_iload_n X.1 X.2.1 dX9_cost_59 rfl (lv_at hl 1 rfl) ?_
      refine lv_istore (lv' := [(7, .int x1), (0, .ref (B + 0)), (1, .int x1), (2, .int x2), (4, .long x4), (6, .int x6)]) X.1 X.2.1 dX9_cost_60 hl (by decide) rfl (fun ls hl => ?_)
      exact w_X9_cost_62 X (fn_X9_cost_50 n) ih _ _ _ _ _ _ _ _ _ _ hf hw (lv_sub hl [1, 2, 3, 4, 5, 0] rfl)
set_option maxHeartbeats 4000000 in
theorem w_X9_cost_28 {p : Program} {l : Launch} {e : Env} {s : State} {m : MethodId} {args : Array Value} {below : List Frame} {meth : Method} {c : Code} {D : va_G} {B : Nat} {cy : Nat → ClassId} {A : Nat → Prop} {ad av : Nat → Nat} {rv : Int64} {Z : HS} (X : hCX p s m args meth c RX9 cX9_cost 8 (some .long) D cy A ad av) {z : Nat}   (S : HS) (H : Heap) (locs : List Loc) (ls : Array Slot) (hf : fn_X9_cost_28 S = some (rv, Z)) (hw : hWd D B cy A true (hMz z) S s.heap H locs) (hl : lv_has ls 8 []) : W p l e ({ frames := 3, cells := 0, slots := 0, locals := 72 } : Room) s m args below meth c H locs 0 0 (MQ below (hQo D B cy A true (hMz z) Z (some (.long rv))) args s 0 0 A) (F0 m 28 ls []) := by
  unfold fn_X9_cost_28 at hf
  refine lv_ldc2 X.1 X.2.1 X.2.2.2.1 (X.2.2.2.2.1 _ tw_816) dX9_cost_28 ?_
  cases hf
  exact r_lret X hw dX9_cost_31
theorem hd_X9_cost : yX9_cost.cls = RX9 ∧ yX9_cost.cls ≠ "java/lang/invoke/MethodHandle" ∧ yX9_cost.cls ≠ "java/lang/invoke/VarHandle" ∧ (parseMethodDescriptor yX9_cost.desc).map (fun d => d.parameters.length) = some 3 := by decide +kernel
set_option maxHeartbeats 4000000 in
theorem c_X9_cost (l : Launch) (D : va_G) (B : Nat) (cy : Nat → ClassId) (A : Nat → Prop) (ad av : Nat → Nat) {z : Nat} (x1 : Int32) (x2 : Int32) (x3 : Int32) {S Z : HS} {rv : Int64} (hfr : hFr S) (hG : (hMz z) S) (hf : fn_X9_cost x1 x2 x3 S = some (rv, Z)) : hMet l yX9_cost cX9_cost 8 (some .long) ({ frames := 3, cells := 0, slots := 0, locals := 72 } : Room) D B cy A ad av true (hMz z) [.ref (B + 0), .int x1, .int x2, .int x3] S Z (some (.long rv)) 0 0 := by
  refine h_entry (by decide) hfr hG ?_
  intro p e s m below meth c args X hnm hw
  have hl := lv_entry ([.ref (B + 0), .int x1, .int x2, .int x3]) (n := 8) (Nat.le_of_ble_eq_true rfl)
  rw [lg_entry_eq]
  generalize (lg_sl ([.ref (B + 0), .int x1, .int x2, .int x3]) ++ List.replicate (8 - (lg_sl ([.ref (B + 0), .int x1, .int x2, .int x3])).length) Slot.unset).toArray = ls at hl ⊢
  have hl : lv_has ls 8 [(0, .ref (B + 0)), (1, .int x1), (2, .int x2), (3, .int x3)] := hl
  unfold fn_X9_cost at hf
  refine lv_aload_n X.1 X.2.1 dX9_cost_0 rfl (lv_at hl 0 rfl) ?_
  refine lv_iconst (v := 0) X.1 X.2.1 dX9_cost_1 (by decide) ?_
  obtain ⟨S1, eS1, hf⟩ := bn_ok hf
  replace eS1 := Option.some.inj eS1
  refine r_putI X hw (κ := 10) rfl inlX9 tyX9 tyX9_ok nmX9 0 (by decide) rfl (by decide) tw_158 (Or.inl rfl) (hMk hw.2.2.2.2.2.1 0 rfl) rfl rfl hw.2.2.2.2.2 dX9_cost_2 (fun H locs hw => ?_)
  rw [eS1] at hw
  refine lv_iload_n X.1 X.2.1 dX9_cost_5 rfl (lv_at hl 1 rfl) ?_
  refine lv_if_lt (tgt := 28) X.1 X.2.1 dX9_cost_6 (by decide) (fun hq => ?_) (fun hq => ?_)
  · replace hf := cd_tk hq hf
    exact w_X9_cost_28 X  _ _ _ _ hf hw (lv_sub hl [] rfl)
  · replace hf := cd_fk hq hf
    refine lv_iload_n X.1 X.2.1 dX9_cost_9 rfl (lv_at hl 2 rfl) ?_
    refine lv_bipush (v := 39) X.1 X.2.1 dX9_cost_10 (by decide) ?_
    refine lv_icmp_gt (tgt := 28) X.1 X.2.1 dX9_cost_12 (by decide) (fun hq => ?_) (fun hq => ?_)
    · replace hf := cd_tk hq hf
      exact w_X9_cost_28 X  _ _ _ _ hf hw (lv_sub hl [] rfl)
    · replace hf := cd_fk hq hf
      refine lv_iload_n X.1 X.2.1 dX9_cost_15 rfl (lv_at hl 2 rfl) ?_
      refine lv_iload_n X.1 X.2.1 dX9_cost_16 rfl (lv_at hl 1 rfl) ?_
      refine lv_icmp_lt (tgt := 28) X.1 X.2.1 dX9_cost_17 (by decide) (fun hq => ?_) (fun hq => ?_)
      · replace hf := cd_tk hq hf
        exact w_X9_cost_28 X  _ _ _ _ hf hw (lv_sub hl [] rfl)
      · replace hf := cd_fk hq hf
        refine lv_aload_n X.1 X.2.1 dX9_cost_20 rfl (lv_at hl 0 rfl) ?_
        refine lv_iload_n X.1 X.2.1 dX9_cost_21 rfl (lv_at hl 3 rfl) ?_
        obtain ⟨r3, S2, hS2, hf⟩ := bn2_ok hf
        refine r_callV (As := [.int x3]) (rest := []) (st1 := [.int r3]) (κ := 10) X hw (c_X9_isKnown l D B cy A ad av x3 hw.2.2.2.2.1 hw.2.2.2.2.2 hS2) ⟨rfl, rfl, Nat.le_of_ble_eq_true rfl, Nat.le_of_ble_eq_true rfl⟩ rfl (by decide) (hMk hw.2.2.2.2.2.1 0 rfl) tw_760 tw_761 tw_762 tw_5 tw_763 hd_X9_isKnown rfl hl.1 rfl (Nat.le_of_ble_eq_true rfl) dX9_cost_22 ⟨Nat.le_of_ble_eq_true rfl, Nat.le_of_ble_eq_true rfl⟩ rfl (fun H locs hw => ?_)
        refine lv_if_ne (tgt := 32) X.1 X.2.1 dX9_cost_25 (by decide) (fun hq => ?_) (fun hq => ?_)
        · replace hf := cd_fk hq hf
          refine lv_aload_n X.1 X.2.1 dX9_cost_32 rfl (lv_at hl 0 rfl) ?_
          refine lv_iload_n X.1 X.2.1 dX9_cost_33 rfl (lv_at hl 3 rfl) ?_
          refine lv_bipush (v := 30) X.1 X.2.1 dX9_cost_34 (by decide) ?_
          refine lv_iload_n X.1 X.2.1 dX9_cost_36 rfl (lv_at hl 2 rfl) ?_
          refine lv_imul X.1 X.2.1 dX9_cost_37 ?_
          refine lv_bipush (v := 29) X.1 X.2.1 dX9_cost_38 (by decide) ?_
          refine lv_iadd X.1 X.2.1 dX9_cost_40 ?_
          obtain ⟨S4, hS4, hf⟩ := bn_ok hf
          refine r_callV (As := [.int x3, .int ((30 * x2) + 29)]) (rest := []) (st1 := []) (κ := 10) X hw (c_X9_passes l D B cy A ad av x3 ((30 * x2) + 29) hw.2.2.2.2.1 hw.2.2.2.2.2 hS4) ⟨rfl, rfl, Nat.le_of_ble_eq_true rfl, Nat.le_of_ble_eq_true rfl⟩ rfl (by decide) (hMk hw.2.2.2.2.2.1 0 rfl) tw_764 tw_765 tw_766 tw_5 tw_767 hd_X9_passes rfl hl.1 rfl (Nat.le_of_ble_eq_true rfl) dX9_cost_41 ⟨Nat.le_of_ble_eq_true rfl, Nat.le_of_ble_eq_true rfl⟩ rfl (fun H locs hw => ?_)
          refine lv_lconst (v := 0) X.1 X.2.1 dX9_cost_44 (by decide) ?_
          refine lv_lstore (lv' := [(4, .long 0), (0, .ref (B + 0)), (1, .int x1), (2, .int x2), (3, .int x3)]) X.1 X.2.1 dX9_cost_45 hl (by decide) rfl (fun ls hl => ?_)
          refine lv_iconst (v := 0) X.1 X.2.1 dX9_cost_47 (by decide) ?_
          refine lv_istore (lv' := [(6, .int 0), (4, .long 0), (0, .ref (B + 0)), (1, .int x1), (2, .int x2), (3, .int x3)]) X.1 X.2.1 dX9_cost_48 hl (by decide) rfl (fun ls hl => ?_)
          exact w_X9_cost_50 X  _ _ _ _ _ _ _ _ _ hf hw (lv_sub hl [2, 3, 4, 1, 0] rfl)
        · replace hf := cd_tk hq hf
          exact w_X9_cost_28 X  _ _ _ _ hf hw (lv_sub hl [] rfl)
set_option maxHeartbeats 4000000 in
theorem w_X9_common_4 {p : Program} {l : Launch} {e : Env} {s : State} {m : MethodId} {args : Array Value} {below : List Frame} {meth : Method} {c : Code} {D : va_G} {B : Nat} {cy : Nat → ClassId} {A : Nat → Prop} {ad av : Nat → Nat} {rv : Int32} {Z : HS} (X : hCX p s m args meth c RX9 cX9_common 5 (some .int) D cy A ad av) {z : Nat}  : ∀ (n : Nat) (x2 : Int32) (x3 : Int32) (S : HS) (H : Heap) (locs : List Loc) (ls : Array Slot), fn_X9_common_4 n x2 x3 S = some (rv, Z) → hWd D B cy A true (hMz z) S s.heap H locs → lv_has ls 5 [(2, .int x2), (3, .int x3)] → W p l e ({ frames := 0, cells := 0, slots := 0, locals := 0 } : Room) s m args below meth c H locs 0 0 (MQ below (hQo D B cy A true (hMz z) Z (some (.int rv))) args s 0 0 A) (F0 m 4 ls []) := by
  intro n
  induction n with
  | zero =>
    intro x2 x3 S H locs ls hf
    cases hf
  | succ n ih =>
    intro x2 x3 S H locs ls hf hw hl
    rw [fn_X9_common_4] at hf
    refine lv_iload_n X.1 X.2.1 dX9_common_4 rfl (lv_at hl 1 rfl) ?_
    refine lv_if_le (tgt := 21) X.1 X.2.1 dX9_common_5 (by decide) (fun hq => ?_) (fun hq => ?_)
    · replace hf := cd_tk hq hf
      refine lv_iload_n X.1 X.2.1 dX9_common_21 rfl (lv_at hl 0 rfl) ?_
      cases hf
      exact r_iret X hw dX9_common_22
    · replace hf := cd_fk hq hf
      refine lv_iload_n X.1 X.2.1 dX9_common_8 rfl (lv_at hl 0 rfl) ?_
      refine lv_iload_n X.1 X.2.1 dX9_common_9 rfl (lv_at hl 1 rfl) ?_
      obtain ⟨hq, hf⟩ := gd_ok hf
      refine lv_irem X.1 X.2.1 dX9_common_10 hq ?_
      obtain ⟨v1, ev1, hf⟩ := bn_ok hf
      replace ev1 := Option.some.inj ev1
      refine lv_ren ev1 ?_
      refine lv_istore (lv' := [(4, .int v1), (2, .int x2), (3, .int x3)]) X.1 X.2.1 dX9_common_11 hl (by decide) rfl (fun ls hl => ?_)
      refine lv_iload_n X.1 X.2.1 dX9_common_13 rfl (lv_at hl 2 rfl) ?_
      refine lv_istore_n (lv' := [(2, .int x3), (4, .int v1), (3, .int x3)]) X.1 X.2.1 dX9_common_14 rfl hl (by decide) rfl (fun ls hl => ?_)
      refine lv_iload X.1 X.2.1 dX9_common_15 (lv_at hl 1 rfl) ?_
      refine lv_istore_n (lv' := [(3, .int v1), (2, .int x3), (4, .int v1)]) X.1 X.2.1 dX9_common_17 rfl hl (by decide) rfl (fun ls hl => ?_)
      refine lv_goto (tgt := 4) X.1 X.2.1 dX9_common_18 (by decide) ?_
      exact ih _ _ _ _ _ _ hf hw (lv_sub hl [1, 0] rfl)
theorem hd_X9_common : yX9_common.cls ≠ "java/lang/invoke/MethodHandle" ∧ yX9_common.cls ≠ "java/lang/invoke/VarHandle" ∧ (parseMethodDescriptor yX9_common.desc).map (fun d => d.parameters.length) = some 2 := by decide +kernel
set_option maxHeartbeats 4000000 in
theorem c_X9_common (l : Launch) (D : va_G) (B : Nat) (cy : Nat → ClassId) (A : Nat → Prop) (ad av : Nat → Nat) {z : Nat} (x0 : Int32) (x1 : Int32) {S Z : HS} {rv : Int32} (hfr : hFr S) (hG : (hMz z) S) (hf : fn_X9_common x0 x1 S = some (rv, Z)) : hMet l yX9_common cX9_common 5 (some .int) ({ frames := 0, cells := 0, slots := 0, locals := 0 } : Room) D B cy A ad av true (hMz z) [.int x0, .int x1] S Z (some (.int rv)) 0 0 := by
  refine h_entry (by decide) hfr hG ?_
  intro p e s m below meth c args X hnm hw
  have hl := lv_entry ([.int x0, .int x1]) (n := 5) (Nat.le_of_ble_eq_true rfl)
  rw [lg_entry_eq]
  generalize (lg_sl ([.int x0, .int x1]) ++ List.replicate (5 - (lg_sl ([.int x0, .int x1])).length) Slot.unset).toArray = ls at hl ⊢
  have hl : lv_has ls 5 [(0, .int x0), (1, .int x1)] := hl
  unfold fn_X9_common at hf
  refine lv_iload_n X.1 X.2.1 dX9_common_0 rfl (lv_at hl 0 rfl) ?_
  refine lv_istore_n (lv' := [(2, .int x0), (0, .int x0), (1, .int x1)]) X.1 X.2.1 dX9_common_1 rfl hl (by decide) rfl (fun ls hl => ?_)
  refine lv_iload_n X.1 X.2.1 dX9_common_2 rfl (lv_at hl 2 rfl) ?_
  refine lv_istore_n (lv' := [(3, .int x1), (2, .int x0), (0, .int x0), (1, .int x1)]) X.1 X.2.1 dX9_common_3 rfl hl (by decide) rfl (fun ls hl => ?_)
  exact w_X9_common_4 X  _ _ _ _ _ _ _ hf hw (lv_sub hl [1, 0] rfl)
set_option maxHeartbeats 4000000 in
theorem w_X9_like_263 {p : Program} {l : Launch} {e : Env} {s : State} {m : MethodId} {args : Array Value} {below : List Frame} {meth : Method} {c : Code} {D : va_G} {B : Nat} {cy : Nat → ClassId} {A : Nat → Prop} {ad av : Nat → Nat} {rv : Int32} {Z : HS} (X : hCX p s m args meth c RX9 cX9_like 8 (some .int) D cy A ad av) {z : Nat} (k48 : Int32 → Int32 → HS → Option (Int32 × HS)) (hk48 : ∀ (x3 : Int32) (x4 : Int32) (S : HS) (H : Heap) (locs : List Loc) (ls : Array Slot), k48 x3 x4 S = some (rv, Z) → hWd D B cy A true (hMz z) S s.heap H locs → lv_has ls 8 [(0, .ref (B + 0)), (3, .int x3), (4, .int x4)] → W p l e ({ frames := 3, cells := 0, slots := 0, locals := 72 } : Room) s m args below meth c H locs 0 0 (MQ below (hQo D B cy A true (hMz z) Z (some (.int rv))) args s 0 0 A) (F0 m 48 ls [])) (k63 : Int32 → Int32 → Int32 → HS → Option (Int32 × HS)) (hk63 : ∀ (x3 : Int32) (x4 : Int32) (x5 : Int32) (S : HS) (H : Heap) (locs : List Loc) (ls : Array Slot), k63 x3 x4 x5 S = some (rv, Z) → hWd D B cy A true (hMz z) S s.heap H locs → lv_has ls 8 [(0, .ref (B + 0)), (3, .int x3), (4, .int x4), (5, .int x5)] → W p l e ({ frames := 3, cells := 0, slots := 0, locals := 72 } : Room) s m args below meth c H locs 0 0 (MQ below (hQo D B cy A true (hMz z) Z (some (.int rv))) args s 0 0 A) (F0 m 63 ls [])) (x3 : Int32) (x4 : Int32) (x5 : Int32) (S : HS) (H : Heap) (locs : List Loc) (ls : Array Slot) (hf : fn_X9_like_263 k48 k63 x3 x4 x5 S = some (rv, Z)) (hw : hWd D B cy A true (hMz z) S s.heap H locs) (hl : lv_has ls 8 [(0, .ref (B + 0)), (3, .int x3), (4, .int x4), (5, .int x5)]) : W p l e ({ frames := 3, cells := 0, slots := 0, locals := 72 } : Room) s m args below meth c H locs 0 0 (MQ below (hQo D B cy A true (hMz z) Z (some (.int rv))) args s 0 0 A) (F0 m 263 ls []) := by
  unfold fn_X9_like_263 at hf
  obtain ⟨v1, ev1, hf⟩ := bn_ok hf
  replace ev1 := Option.some.inj ev1
  refine lv_iinc (v := v1) (lv' := [(5, .int v1), (0, .ref (B + 0)), (3, .int x3), (4, .int x4)]) X.1 X.2.1 dX9_like_263 hl (k := 3) rfl ev1 (by decide) rfl (fun ls hl => ?_)
  refine lv_goto (tgt := 63) X.1 X.2.1 dX9_like_266 (by decide) ?_
  exact hk63 _ _ _ _ _ _ _ hf hw (lv_sub hl [1, 2, 3, 0] rfl)
set_option maxHeartbeats 4000000 in
theorem w_X9_like_111 {p : Program} {l : Launch} {e : Env} {s : State} {m : MethodId} {args : Array Value} {below : List Frame} {meth : Method} {c : Code} {D : va_G} {B : Nat} {cy : Nat → ClassId} {A : Nat → Prop} {ad av : Nat → Nat} {rv : Int32} {Z : HS} (X : hCX p s m args meth c RX9 cX9_like 8 (some .int) D cy A ad av) {z : Nat} (k48 : Int32 → Int32 → HS → Option (Int32 × HS)) (hk48 : ∀ (x3 : Int32) (x4 : Int32) (S : HS) (H : Heap) (locs : List Loc) (ls : Array Slot), k48 x3 x4 S = some (rv, Z) → hWd D B cy A true (hMz z) S s.heap H locs → lv_has ls 8 [(0, .ref (B + 0)), (3, .int x3), (4, .int x4)] → W p l e ({ frames := 3, cells := 0, slots := 0, locals := 72 } : Room) s m args below meth c H locs 0 0 (MQ below (hQo D B cy A true (hMz z) Z (some (.int rv))) args s 0 0 A) (F0 m 48 ls [])) (k63 : Int32 → Int32 → Int32 → HS → Option (Int32 × HS)) (hk63 : ∀ (x3 : Int32) (x4 : Int32) (x5 : Int32) (S : HS) (H : Heap) (locs : List Loc) (ls : Array Slot), k63 x3 x4 x5 S = some (rv, Z) → hWd D B cy A true (hMz z) S s.heap H locs → lv_has ls 8 [(0, .ref (B + 0)), (3, .int x3), (4, .int x4), (5, .int x5)] → W p l e ({ frames := 3, cells := 0, slots := 0, locals := 72 } : Room) s m args below meth c H locs 0 0 (MQ below (hQo D B cy A true (hMz z) Z (some (.int rv))) args s 0 0 A) (F0 m 63 ls [])) (x3 : Int32) (x4 : Int32) (x5 : Int32) (y0 : Int32) (S : HS) (H : Heap) (locs : List Loc) (ls : Array Slot) (hf : fn_X9_like_111 k48 k63 x3 x4 x5 y0 S = some (rv, Z)) (hw : hWd D B cy A true (hMz z) S s.heap H locs) (hl : lv_has ls 8 [(0, .ref (B + 0)), (3, .int x3), (4, .int x4), (5, .int x5)]) : W p l e ({ frames := 3, cells := 0, slots := 0, locals := 72 } : Room) s m args below meth c H locs 0 0 (MQ below (hQo D B cy A true (hMz z) Z (some (.int rv))) args s 0 0 A) (F0 m 111 ls [.int y0]) := by
  unfold fn_X9_like_111 at hf
  refine lv_istore (lv' := [(6, .int y0), (0, .ref (B + 0)), (3, .int x3), (4, .int x4), (5, .int x5)]) X.1 X.2.1 dX9_like_111 hl (by decide) rfl (fun ls hl => ?_)
  refine lv_iload X.1 X.2.1 dX9_like_113 (lv_at hl 0 rfl) ?_
  refine lv_if_eq (tgt := 263) X.1 X.2.1 dX9_like_115 (by decide) (fun hq => ?_) (fun hq => ?_)
  · replace hf := cd_tk hq hf
    exact w_X9_like_263 X k48 hk48 k63 hk63 _ _ _ _ _ _ _ hf hw (lv_sub hl [1, 2, 3, 4] rfl)
  · replace hf := cd_fk hq hf
    refine lv_aload_n X.1 X.2.1 dX9_like_118 rfl (lv_at hl 1 rfl) ?_
    refine r_getF X hw (κ := 10) rfl inlX9 41 (by decide) rfl (by decide) tw_130 (hMk hw.2.2.2.2.2.1 0 rfl) (hMr hw.2.2.2.2.2.1 0 41 rfl) dX9_like_119 ?_
    refine lv_iload X.1 X.2.1 dX9_like_122 (lv_at hl 3 rfl) ?_
    obtain ⟨g1, hf⟩ := gd_ok hf
    refine r_iald X hw (hMk hw.2.2.2.2.2.1 26 rfl) (hMn hw.2.2.2.2.2.1 26 rfl) g1 dX9_like_124 ?_
    refine lv_aload_n X.1 X.2.1 dX9_like_125 rfl (lv_at hl 1 rfl) ?_
    refine r_getF X hw (κ := 10) rfl inlX9 41 (by decide) rfl (by decide) tw_130 (hMk hw.2.2.2.2.2.1 0 rfl) (hMr hw.2.2.2.2.2.1 0 41 rfl) dX9_like_126 ?_
    refine lv_iload X.1 X.2.1 dX9_like_129 (lv_at hl 4 rfl) ?_
    obtain ⟨g2, hf⟩ := gd_ok hf
    refine r_iald X hw (hMk hw.2.2.2.2.2.1 26 rfl) (hMn hw.2.2.2.2.2.1 26 rfl) g2 dX9_like_131 ?_
    refine lv_isub X.1 X.2.1 dX9_like_132 ?_
    refine r_mabs X hl.1 tw_924 (by decide) (Nat.le_of_ble_eq_true rfl) (by decide) (by decide) dX9_like_133 ?_
    refine lv_iload_n X.1 X.2.1 dX9_like_136 rfl (lv_at hl 2 rfl) ?_
    refine lv_icmp_gt (tgt := 263) X.1 X.2.1 dX9_like_137 (by decide) (fun hq => ?_) (fun hq => ?_)
    · replace hf := cd_tk hq hf
      exact w_X9_like_263 X k48 hk48 k63 hk63 _ _ _ _ _ _ _ hf hw (lv_sub hl [1, 2, 3, 4] rfl)
    · replace hf := cd_fk hq hf
      refine lv_aload_n X.1 X.2.1 dX9_like_140 rfl (lv_at hl 1 rfl) ?_
      refine r_getF X hw (κ := 10) rfl inlX9 45 (by decide) rfl (by decide) tw_134 (hMk hw.2.2.2.2.2.1 0 rfl) (hMr hw.2.2.2.2.2.1 0 45 rfl) dX9_like_141 ?_
      refine lv_iload X.1 X.2.1 dX9_like_144 (lv_at hl 3 rfl) ?_
      obtain ⟨g3, hf⟩ := gd_ok hf
      refine r_iald X hw (hMk hw.2.2.2.2.2.1 30 rfl) (hMn hw.2.2.2.2.2.1 30 rfl) g3 dX9_like_146 ?_
      refine lv_aload_n X.1 X.2.1 dX9_like_147 rfl (lv_at hl 1 rfl) ?_
      refine r_getF X hw (κ := 10) rfl inlX9 45 (by decide) rfl (by decide) tw_134 (hMk hw.2.2.2.2.2.1 0 rfl) (hMr hw.2.2.2.2.2.1 0 45 rfl) dX9_like_148 ?_
      refine lv_iload X.1 X.2.1 dX9_like_151 (lv_at hl 4 rfl) ?_
      obtain ⟨g4, hf⟩ := gd_ok hf
      refine r_iald X hw (hMk hw.2.2.2.2.2.1 30 rfl) (hMn hw.2.2.2.2.2.1 30 rfl) g4 dX9_like_153 ?_
      refine lv_icmp_ne (tgt := 160) X.1 X.2.1 dX9_like_154 (by decide) (fun hq => ?_) (fun hq => ?_)
      · replace hf := cd_fk hq hf
        refine lv_aload_n X.1 X.2.1 dX9_like_160 rfl (lv_at hl 1 rfl) ?_
        refine r_getF X hw (κ := 10) rfl inlX9 45 (by decide) rfl (by decide) tw_134 (hMk hw.2.2.2.2.2.1 0 rfl) (hMr hw.2.2.2.2.2.1 0 45 rfl) dX9_like_161 ?_
        refine lv_iload X.1 X.2.1 dX9_like_164 (lv_at hl 3 rfl) ?_
        obtain ⟨g5, hf⟩ := gd_ok hf
        refine r_iald X hw (hMk hw.2.2.2.2.2.1 30 rfl) (hMn hw.2.2.2.2.2.1 30 rfl) g5 dX9_like_166 ?_
        refine lv_aload_n X.1 X.2.1 dX9_like_167 rfl (lv_at hl 1 rfl) ?_
        refine r_getF X hw (κ := 10) rfl inlX9 45 (by decide) rfl (by decide) tw_134 (hMk hw.2.2.2.2.2.1 0 rfl) (hMr hw.2.2.2.2.2.1 0 45 rfl) dX9_like_168 ?_
        refine lv_iload X.1 X.2.1 dX9_like_171 (lv_at hl 4 rfl) ?_
        obtain ⟨g6, hf⟩ := gd_ok hf
        refine r_iald X hw (hMk hw.2.2.2.2.2.1 30 rfl) (hMn hw.2.2.2.2.2.1 30 rfl) g6 dX9_like_173 ?_
        obtain ⟨r8, S7, hS7, hf⟩ := bn2_ok hf
        refine r_callS (As := [.int (gI S 30 x4.toNatClampNeg), .int (gI S 30 x5.toNatClampNeg)]) (rest := []) (st1 := [.int r8]) X hw (c_X9_common l D B cy A ad av (gI S 30 x4.toNatClampNeg) (gI S 30 x5.toNatClampNeg) hw.2.2.2.2.1 hw.2.2.2.2.2 hS7) ⟨rfl, rfl, Nat.le_of_ble_eq_true rfl, Nat.le_of_ble_eq_true rfl⟩ tw_925 tw_926 tw_5 tw_927 hd_X9_common rfl hl.1 rfl (Nat.le_of_ble_eq_true rfl) dX9_like_174 ⟨Nat.le_of_ble_eq_true rfl, Nat.le_of_ble_eq_true rfl⟩ rfl (fun H locs hw => ?_)
        refine lv_istore (lv' := [(7, .int r8), (6, .int y0), (0, .ref (B + 0)), (3, .int x3), (4, .int x4), (5, .int x5)]) X.1 X.2.1 dX9_like_177 hl (by decide) rfl (fun ls hl => ?_)
        refine lv_aload_n X.1 X.2.1 dX9_like_179 rfl (lv_at hl 2 rfl) ?_
        refine r_getF X hw (κ := 10) rfl inlX9 56 (by decide) rfl (by decide) tw_143 (hMk hw.2.2.2.2.2.1 0 rfl) (hMr hw.2.2.2.2.2.1 0 56 rfl) dX9_like_180 ?_
        refine lv_iconst (v := 4) X.1 X.2.1 dX9_like_183 (by decide) ?_
        refine lv_aload_n X.1 X.2.1 dX9_like_184 rfl (lv_at hl 2 rfl) ?_
        refine r_getI X hw (κ := 10) rfl inlX9 57 (by decide) rfl (by decide) tw_923 (hMk hw.2.2.2.2.2.1 0 rfl) dX9_like_185 ?_
        refine lv_imul X.1 X.2.1 dX9_like_188 ?_
        refine lv_iload X.1 X.2.1 dX9_like_189 (lv_at hl 4 rfl) ?_
        obtain ⟨g9, hf⟩ := gd_ok hf
        obtain ⟨S10, eS10, hf⟩ := bn_ok hf
        replace eS10 := Option.some.inj eS10
        refine r_iast X hw (hMk hw.2.2.2.2.2.1 39 rfl) (hMn hw.2.2.2.2.2.1 39 rfl) g9 hw.2.2.2.2.2 dX9_like_191 (fun H locs hw => ?_)
        rw [eS10] at hw
        refine lv_aload_n X.1 X.2.1 dX9_like_192 rfl (lv_at hl 2 rfl) ?_
        refine r_getF X hw (κ := 10) rfl inlX9 56 (by decide) rfl (by decide) tw_143 (hMk hw.2.2.2.2.2.1 0 rfl) (hMr hw.2.2.2.2.2.1 0 56 rfl) dX9_like_193 ?_
        refine lv_iconst (v := 4) X.1 X.2.1 dX9_like_196 (by decide) ?_
        refine lv_aload_n X.1 X.2.1 dX9_like_197 rfl (lv_at hl 2 rfl) ?_
        refine r_getI X hw (κ := 10) rfl inlX9 57 (by decide) rfl (by decide) tw_923 (hMk hw.2.2.2.2.2.1 0 rfl) dX9_like_198 ?_
        refine lv_imul X.1 X.2.1 dX9_like_201 ?_
        refine lv_iconst (v := 1) X.1 X.2.1 dX9_like_202 (by decide) ?_
        refine lv_iadd X.1 X.2.1 dX9_like_203 ?_
        refine lv_iload X.1 X.2.1 dX9_like_204 (lv_at hl 5 rfl) ?_
        obtain ⟨g11, hf⟩ := gd_ok hf
        obtain ⟨S12, eS12, hf⟩ := bn_ok hf
        replace eS12 := Option.some.inj eS12
        refine r_iast X hw (hMk hw.2.2.2.2.2.1 39 rfl) (hMn hw.2.2.2.2.2.1 39 rfl) g11 hw.2.2.2.2.2 dX9_like_206 (fun H locs hw => ?_)
        rw [eS12] at hw
        refine lv_aload_n X.1 X.2.1 dX9_like_207 rfl (lv_at hl 2 rfl) ?_
        refine r_getF X hw (κ := 10) rfl inlX9 56 (by decide) rfl (by decide) tw_143 (hMk hw.2.2.2.2.2.1 0 rfl) (hMr hw.2.2.2.2.2.1 0 56 rfl) dX9_like_208 ?_
        refine lv_iconst (v := 4) X.1 X.2.1 dX9_like_211 (by decide) ?_
        refine lv_aload_n X.1 X.2.1 dX9_like_212 rfl (lv_at hl 2 rfl) ?_
        refine r_getI X hw (κ := 10) rfl inlX9 57 (by decide) rfl (by decide) tw_923 (hMk hw.2.2.2.2.2.1 0 rfl) dX9_like_213 ?_
        refine lv_imul X.1 X.2.1 dX9_like_216 ?_
        refine lv_iconst (v := 2) X.1 X.2.1 dX9_like_217 (by decide) ?_
        refine lv_iadd X.1 X.2.1 dX9_like_218 ?_
        refine lv_aload_n X.1 X.2.1 dX9_like_219 rfl (lv_at hl 2 rfl) ?_
        refine r_getF X hw (κ := 10) rfl inlX9 45 (by decide) rfl (by decide) tw_134 (hMk hw.2.2.2.2.2.1 0 rfl) (hMr hw.2.2.2.2.2.1 0 45 rfl) dX9_like_220 ?_
        refine lv_iload X.1 X.2.1 dX9_like_223 (lv_at hl 4 rfl) ?_
        obtain ⟨g13, hf⟩ := gd_ok hf
        refine r_iald X hw (hMk hw.2.2.2.2.2.1 30 rfl) (hMn hw.2.2.2.2.2.1 30 rfl) g13 dX9_like_225 ?_
        refine lv_iload X.1 X.2.1 dX9_like_226 (lv_at hl 0 rfl) ?_
        obtain ⟨hq, hf⟩ := gd_ok hf
        refine lv_idiv X.1 X.2.1 dX9_like_228 hq ?_
        obtain ⟨g14, hf⟩ := gd_ok hf
        obtain ⟨S15, eS15, hf⟩ := bn_ok hf
        replace eS15 := Option.some.inj eS15
        refine r_iast X hw (hMk hw.2.2.2.2.2.1 39 rfl) (hMn hw.2.2.2.2.2.1 39 rfl) g14 hw.2.2.2.2.2 dX9_like_229 (fun H locs hw => ?_)
        rw [eS15] at hw
        refine lv_aload_n X.1 X.2.1 dX9_like_230 rfl (lv_at hl 2 rfl) ?_
        refine r_getF X hw (κ := 10) rfl inlX9 56 (by decide) rfl (by decide) tw_143 (hMk hw.2.2.2.2.2.1 0 rfl) (hMr hw.2.2.2.2.2.1 0 56 rfl) dX9_like_231 ?_
        refine lv_iconst (v := 4) X.1 X.2.1 dX9_like_234 (by decide) ?_
        refine lv_aload_n X.1 X.2.1 dX9_like_235 rfl (lv_at hl 2 rfl) ?_
        refine r_getI X hw (κ := 10) rfl inlX9 57 (by decide) rfl (by decide) tw_923 (hMk hw.2.2.2.2.2.1 0 rfl) dX9_like_236 ?_
        refine lv_imul X.1 X.2.1 dX9_like_239 ?_
        refine lv_iconst (v := 3) X.1 X.2.1 dX9_like_240 (by decide) ?_
        refine lv_iadd X.1 X.2.1 dX9_like_241 ?_
        refine lv_aload_n X.1 X.2.1 dX9_like_242 rfl (lv_at hl 2 rfl) ?_
        refine r_getF X hw (κ := 10) rfl inlX9 45 (by decide) rfl (by decide) tw_134 (hMk hw.2.2.2.2.2.1 0 rfl) (hMr hw.2.2.2.2.2.1 0 45 rfl) dX9_like_243 ?_
        refine lv_iload X.1 X.2.1 dX9_like_246 (lv_at hl 5 rfl) ?_
        obtain ⟨g16, hf⟩ := gd_ok hf
        refine r_iald X hw (hMk hw.2.2.2.2.2.1 30 rfl) (hMn hw.2.2.2.2.2.1 30 rfl) g16 dX9_like_248 ?_
        refine lv_iload X.1 X.2.1 dX9_like_249 (lv_at hl 0 rfl) ?_
        obtain ⟨hq, hf⟩ := gd_ok hf
        refine lv_idiv X.1 X.2.1 dX9_like_251 hq ?_
        obtain ⟨g17, hf⟩ := gd_ok hf
        obtain ⟨S18, eS18, hf⟩ := bn_ok hf
        replace eS18 := Option.some.inj eS18
        refine r_iast X hw (hMk hw.2.2.2.2.2.1 39 rfl) (hMn hw.2.2.2.2.2.1 39 rfl) g17 hw.2.2.2.2.2 dX9_like_252 (fun H locs hw => ?_)
        rw [eS18] at hw
        refine lv_aload_n X.1 X.2.1 dX9_like_253 rfl (lv_at hl 2 rfl) ?_
        refine lv_dup X.1 X.2.1 dX9_like_254 rfl ?_
        refine r_getI X hw (κ := 10) rfl inlX9 57 (by decide) rfl (by decide) tw_923 (hMk hw.2.2.2.2.2.1 0 rfl) dX9_like_255 ?_
        refine lv_iconst (v := 1) X.1 X.2.1 dX9_like_258 (by decide) ?_
        refine lv_iadd X.1 X.2.1 dX9_like_259 ?_
        obtain ⟨S19, eS19, hf⟩ := bn_ok hf
        replace eS19 := Option.some.inj eS19
        refine r_putI X hw (κ := 10) rfl inlX9 tyX9 tyX9_ok nmX9 57 (by decide) rfl (by decide) tw_923 (Or.inl rfl) (hMk hw.2.2.2.2.2.1 0 rfl) rfl rfl hw.2.2.2.2.2 dX9_like_260 (fun H locs hw => ?_)
        rw [eS19] at hw
        exact w_X9_like_263 X k48 hk48 k63 hk63 _ _ _ _ _ _ _ hf hw (lv_sub hl [2, 3, 4, 5] rfl)
      · replace hf := cd_tk hq hf
        refine lv_goto (tgt := 263) X.1 X.2.1 dX9_like_157 (by decide) ?_
        exact w_X9_like_263 X k48 hk48 k63 hk63 _ _ _ _ _ _ _ hf hw (lv_sub hl [1, 2, 3, 4] rfl)
set_option maxHeartbeats 4000000 in
theorem w_X9_like_110 {p : Program} {l : Launch} {e : Env} {s : State} {m : MethodId} {args : Array Value} {below : List Frame} {meth : Method} {c : Code} {D : va_G} {B : Nat} {cy : Nat → ClassId} {A : Nat → Prop} {ad av : Nat → Nat} {rv : Int32} {Z : HS} (X : hCX p s m args meth c RX9 cX9_like 8 (some .int) D cy A ad av) {z : Nat} (k48 : Int32 → Int32 → HS → Option (Int32 × HS)) (hk48 : ∀ (x3 : Int32) (x4 : Int32) (S : HS) (H : Heap) (locs : List Loc) (ls : Array Slot), k48 x3 x4 S = some (rv, Z) → hWd D B cy A true (hMz z) S s.heap H locs → lv_has ls 8 [(0, .ref (B + 0)), (3, .int x3), (4, .int x4)] → W p l e ({ frames := 3, cells := 0, slots := 0, locals := 72 } : Room) s m args below meth c H locs 0 0 (MQ below (hQo D B cy A true (hMz z) Z (some (.int rv))) args s 0 0 A) (F0 m 48 ls [])) (k63 : Int32 → Int32 → Int32 → HS → Option (Int32 × HS)) (hk63 : ∀ (x3 : Int32) (x4 : Int32) (x5 : Int32) (S : HS) (H : Heap) (locs : List Loc) (ls : Array Slot), k63 x3 x4 x5 S = some (rv, Z) → hWd D B cy A true (hMz z) S s.heap H locs → lv_has ls 8 [(0, .ref (B + 0)), (3, .int x3), (4, .int x4), (5, .int x5)] → W p l e ({ frames := 3, cells := 0, slots := 0, locals := 72 } : Room) s m args below meth c H locs 0 0 (MQ below (hQo D B cy A true (hMz z) Z (some (.int rv))) args s 0 0 A) (F0 m 63 ls [])) (x3 : Int32) (x4 : Int32) (x5 : Int32) (S : HS) (H : Heap) (locs : List Loc) (ls : Array Slot) (hf : fn_X9_like_110 k48 k63 x3 x4 x5 S = some (rv, Z)) (hw : hWd D B cy A true (hMz z) S s.heap H locs) (hl : lv_has ls 8 [(0, .ref (B + 0)), (3, .int x3), (4, .int x4), (5, .int x5)]) : W p l e ({ frames := 3, cells := 0, slots := 0, locals := 72 } : Room) s m args below meth c H locs 0 0 (MQ below (hQo D B cy A true (hMz z) Z (some (.int rv))) args s 0 0 A) (F0 m 110 ls []) := by
  unfold fn_X9_like_110 at hf
  refine lv_iconst (v := 0) X.1 X.2.1 dX9_like_110 (by decide) ?_
  exact w_X9_like_111 X k48 hk48 k63 hk63 _ _ _ _ _ _ _ _ hf hw (lv_sub hl [0, 1, 2, 3] rfl)
set_option maxHeartbeats 4000000 in
theorem w_X9_like_63 {p : Program} {l : Launch} {e : Env} {s : State} {m : MethodId} {args : Array Value} {below : List Frame} {meth : Method} {c : Code} {D : va_G} {B : Nat} {cy : Nat → ClassId} {A : Nat → Prop} {ad av : Nat → Nat} {rv : Int32} {Z : HS} (X : hCX p s m args meth c RX9 cX9_like 8 (some .int) D cy A ad av) {z : Nat} (k48 : Int32 → Int32 → HS → Option (Int32 × HS)) (hk48 : ∀ (x3 : Int32) (x4 : Int32) (S : HS) (H : Heap) (locs : List Loc) (ls : Array Slot), k48 x3 x4 S = some (rv, Z) → hWd D B cy A true (hMz z) S s.heap H locs → lv_has ls 8 [(0, .ref (B + 0)), (3, .int x3), (4, .int x4)] → W p l e ({ frames := 3, cells := 0, slots := 0, locals := 72 } : Room) s m args below meth c H locs 0 0 (MQ below (hQo D B cy A true (hMz z) Z (some (.int rv))) args s 0 0 A) (F0 m 48 ls [])) : ∀ (n : Nat) (x3 : Int32) (x4 : Int32) (x5 : Int32) (S : HS) (H : Heap) (locs : List Loc) (ls : Array Slot), fn_X9_like_63 k48 n x3 x4 x5 S = some (rv, Z) → hWd D B cy A true (hMz z) S s.heap H locs → lv_has ls 8 [(0, .ref (B + 0)), (3, .int x3), (4, .int x4), (5, .int x5)] → W p l e ({ frames := 3, cells := 0, slots := 0, locals := 72 } : Room) s m args below meth c H locs 0 0 (MQ below (hQo D B cy A true (hMz z) Z (some (.int rv))) args s 0 0 A) (F0 m 63 ls []) := by
  intro n
  induction n with
  | zero =>
    intro x3 x4 x5 S H locs ls hf
    cases hf
  | succ n ih =>
    intro x3 x4 x5 S H locs ls hf hw hl
    rw [fn_X9_like_63] at hf
    refine lv_iload X.1 X.2.1 dX9_like_63 (lv_at hl 3 rfl) ?_
    refine lv_aload_n X.1 X.2.1 dX9_like_65 rfl (lv_at hl 0 rfl) ?_
    refine r_getI X hw (κ := 10) rfl inlX9 28 (by decide) rfl (by decide) tw_538 (hMk hw.2.2.2.2.2.1 0 rfl) dX9_like_66 ?_
    refine lv_icmp_ge (tgt := 269) X.1 X.2.1 dX9_like_69 (by decide) (fun hq => ?_) (fun hq => ?_)
    · replace hf := cd_tk hq hf
      obtain ⟨v1, ev1, hf⟩ := bn_ok hf
      replace ev1 := Option.some.inj ev1
      refine lv_iinc (v := v1) (lv' := [(4, .int v1), (0, .ref (B + 0)), (3, .int x3), (5, .int x5)]) X.1 X.2.1 dX9_like_269 hl (k := 2) rfl ev1 (by decide) rfl (fun ls hl => ?_)
      refine lv_goto (tgt := 48) X.1 X.2.1 dX9_like_272 (by decide) ?_
      exact hk48 _ _ _ _ _ _ hf hw (lv_sub hl [1, 2, 0] rfl)
    · replace hf := cd_fk hq hf
      refine lv_aload_n X.1 X.2.1 dX9_like_72 rfl (lv_at hl 0 rfl) ?_
      refine r_getF X hw (κ := 10) rfl inlX9 38 (by decide) rfl (by decide) tw_127 (hMk hw.2.2.2.2.2.1 0 rfl) (hMr hw.2.2.2.2.2.1 0 38 rfl) dX9_like_73 ?_
      refine lv_bipush (v := 9) X.1 X.2.1 dX9_like_76 (by decide) ?_
      refine lv_iload X.1 X.2.1 dX9_like_78 (lv_at hl 2 rfl) ?_
      refine lv_imul X.1 X.2.1 dX9_like_80 ?_
      refine lv_bipush (v := 6) X.1 X.2.1 dX9_like_81 (by decide) ?_
      refine lv_iadd X.1 X.2.1 dX9_like_83 ?_
      obtain ⟨g2, hf⟩ := gd_ok hf
      refine r_iald X hw (hMk hw.2.2.2.2.2.1 23 rfl) (hMn hw.2.2.2.2.2.1 23 rfl) g2 dX9_like_84 ?_
      refine lv_iconst (v := 1) X.1 X.2.1 dX9_like_85 (by decide) ?_
      refine lv_icmp_ne (tgt := 110) X.1 X.2.1 dX9_like_86 (by decide) (fun hq => ?_) (fun hq => ?_)
      · replace hf := cd_fk hq hf
        exact w_X9_like_110 X k48 hk48 (fn_X9_like_63 k48 n) ih _ _ _ _ _ _ _ hf hw (lv_sub hl [0, 1, 2, 3] rfl)
      · replace hf := cd_tk hq hf
        refine lv_aload_n X.1 X.2.1 dX9_like_89 rfl (lv_at hl 0 rfl) ?_
        refine r_getF X hw (κ := 10) rfl inlX9 38 (by decide) rfl (by decide) tw_127 (hMk hw.2.2.2.2.2.1 0 rfl) (hMr hw.2.2.2.2.2.1 0 38 rfl) dX9_like_90 ?_
        refine lv_bipush (v := 9) X.1 X.2.1 dX9_like_93 (by decide) ?_
        refine lv_iload X.1 X.2.1 dX9_like_95 (lv_at hl 3 rfl) ?_
        refine lv_imul X.1 X.2.1 dX9_like_97 ?_
        refine lv_bipush (v := 6) X.1 X.2.1 dX9_like_98 (by decide) ?_
        refine lv_iadd X.1 X.2.1 dX9_like_100 ?_
        obtain ⟨g3, hf⟩ := gd_ok hf
        refine r_iald X hw (hMk hw.2.2.2.2.2.1 23 rfl) (hMn hw.2.2.2.2.2.1 23 rfl) g3 dX9_like_101 ?_
        refine lv_iconst (v := 1) X.1 X.2.1 dX9_like_102 (by decide) ?_
        refine lv_icmp_ne (tgt := 110) X.1 X.2.1 dX9_like_103 (by decide) (fun hq => ?_) (fun hq => ?_)
        · replace hf := cd_fk hq hf
          exact w_X9_like_110 X k48 hk48 (fn_X9_like_63 k48 n) ih _ _ _ _ _ _ _ hf hw (lv_sub hl [0, 1, 2, 3] rfl)
        · replace hf := cd_tk hq hf
          refine lv_iconst (v := 1) X.1 X.2.1 dX9_like_106 (by decide) ?_
          refine lv_goto (tgt := 111) X.1 X.2.1 dX9_like_107 (by decide) ?_
          exact w_X9_like_111 X k48 hk48 (fn_X9_like_63 k48 n) ih _ _ _ _ _ _ _ _ hf hw (lv_sub hl [0, 1, 2, 3] rfl)
set_option maxHeartbeats 4000000 in
theorem w_X9_like_48 {p : Program} {l : Launch} {e : Env} {s : State} {m : MethodId} {args : Array Value} {below : List Frame} {meth : Method} {c : Code} {D : va_G} {B : Nat} {cy : Nat → ClassId} {A : Nat → Prop} {ad av : Nat → Nat} {rv : Int32} {Z : HS} (X : hCX p s m args meth c RX9 cX9_like 8 (some .int) D cy A ad av) {z : Nat}  : ∀ (n : Nat) (x3 : Int32) (x4 : Int32) (S : HS) (H : Heap) (locs : List Loc) (ls : Array Slot), fn_X9_like_48 n x3 x4 S = some (rv, Z) → hWd D B cy A true (hMz z) S s.heap H locs → lv_has ls 8 [(0, .ref (B + 0)), (3, .int x3), (4, .int x4)] → W p l e ({ frames := 3, cells := 0, slots := 0, locals := 72 } : Room) s m args below meth c H locs 0 0 (MQ below (hQo D B cy A true (hMz z) Z (some (.int rv))) args s 0 0 A) (F0 m 48 ls []) := by
  intro n
  induction n with
  | zero =>
    intro x3 x4 S H locs ls hf
    cases hf
  | succ n ih =>
    intro x3 x4 S H locs ls hf hw hl
    rw [fn_X9_like_48] at hf
    refine lv_iload X.1 X.2.1 dX9_like_48 (lv_at hl 2 rfl) ?_
    refine lv_aload_n X.1 X.2.1 dX9_like_50 rfl (lv_at hl 0 rfl) ?_
    refine r_getI X hw (κ := 10) rfl inlX9 28 (by decide) rfl (by decide) tw_538 (hMk hw.2.2.2.2.2.1 0 rfl) dX9_like_51 ?_
    refine lv_icmp_ge (tgt := 275) X.1 X.2.1 dX9_like_54 (by decide) (fun hq => ?_) (fun hq => ?_)
    · replace hf := cd_tk hq hf
      refine lv_aload_n X.1 X.2.1 dX9_like_275 rfl (lv_at hl 0 rfl) ?_
      refine r_getI X hw (κ := 10) rfl inlX9 57 (by decide) rfl (by decide) tw_923 (hMk hw.2.2.2.2.2.1 0 rfl) dX9_like_276 ?_
      cases hf
      exact r_iret X hw dX9_like_279
    · replace hf := cd_fk hq hf
      refine lv_iload X.1 X.2.1 dX9_like_57 (lv_at hl 2 rfl) ?_
      refine lv_iconst (v := 1) X.1 X.2.1 dX9_like_59 (by decide) ?_
      refine lv_iadd X.1 X.2.1 dX9_like_60 ?_
      obtain ⟨v1, ev1, hf⟩ := bn_ok hf
      replace ev1 := Option.some.inj ev1
      refine lv_ren ev1 ?_
      refine lv_istore (lv' := [(5, .int v1), (0, .ref (B + 0)), (3, .int x3), (4, .int x4)]) X.1 X.2.1 dX9_like_61 hl (by decide) rfl (fun ls hl => ?_)
      exact w_X9_like_63 X (fn_X9_like_48 n) ih _ _ _ _ _ _ _ _ hf hw (lv_sub hl [1, 2, 3, 0] rfl)
set_option maxHeartbeats 4000000 in
theorem w_X9_like_32 {p : Program} {l : Launch} {e : Env} {s : State} {m : MethodId} {args : Array Value} {below : List Frame} {meth : Method} {c : Code} {D : va_G} {B : Nat} {cy : Nat → ClassId} {A : Nat → Prop} {ad av : Nat → Nat} {rv : Int32} {Z : HS} (X : hCX p s m args meth c RX9 cX9_like 8 (some .int) D cy A ad av) {z : Nat}   (S : HS) (H : Heap) (locs : List Loc) (ls : Array Slot) (hf : fn_X9_like_32 S = some (rv, Z)) (hw : hWd D B cy A true (hMz z) S s.heap H locs) (hl : lv_has ls 8 []) : W p l e ({ frames := 3, cells := 0, slots := 0, locals := 72 } : Room) s m args below meth c H locs 0 0 (MQ below (hQo D B cy A true (hMz z) Z (some (.int rv))) args s 0 0 A) (F0 m 32 ls []) := by
  unfold fn_X9_like_32 at hf
  refine lv_iconst (v := (-1)) X.1 X.2.1 dX9_like_32 (by decide) ?_
  cases hf
  exact r_iret X hw dX9_like_33
theorem hd_X9_like : yX9_like.cls = RX9 ∧ yX9_like.cls ≠ "java/lang/invoke/MethodHandle" ∧ yX9_like.cls ≠ "java/lang/invoke/VarHandle" ∧ (parseMethodDescriptor yX9_like.desc).map (fun d => d.parameters.length) = some 3 := by decide +kernel
set_option maxHeartbeats 4000000 in
theorem c_X9_like (l : Launch) (D : va_G) (B : Nat) (cy : Nat → ClassId) (A : Nat → Prop) (ad av : Nat → Nat) {z : Nat} (x1 : Int32) (x2 : Int32) (x3 : Int32) {S Z : HS} {rv : Int32} (hfr : hFr S) (hG : (hMz z) S) (hf : fn_X9_like x1 x2 x3 S = some (rv, Z)) : hMet l yX9_like cX9_like 8 (some .int) ({ frames := 3, cells := 0, slots := 0, locals := 72 } : Room) D B cy A ad av true (hMz z) [.ref (B + 0), .int x1, .int x2, .int x3] S Z (some (.int rv)) 0 0 := by
  refine h_entry (by decide) hfr hG ?_
  intro p e s m below meth c args X hnm hw
  have hl := lv_entry ([.ref (B + 0), .int x1, .int x2, .int x3]) (n := 8) (Nat.le_of_ble_eq_true rfl)
  rw [lg_entry_eq]
  generalize (lg_sl ([.ref (B + 0), .int x1, .int x2, .int x3]) ++ List.replicate (8 - (lg_sl ([.ref (B + 0), .int x1, .int x2, .int x3])).length) Slot.unset).toArray = ls at hl ⊢
  have hl : lv_has ls 8 [(0, .ref (B + 0)), (1, .int x1), (2, .int x2), (3, .int x3)] := hl
  unfold fn_X9_like at hf
  refine lv_aload_n X.1 X.2.1 dX9_like_0 rfl (lv_at hl 0 rfl) ?_
  refine lv_iconst (v := 0) X.1 X.2.1 dX9_like_1 (by decide) ?_
  obtain ⟨S1, eS1, hf⟩ := bn_ok hf
  replace eS1 := Option.some.inj eS1
  refine r_putI X hw (κ := 10) rfl inlX9 tyX9 tyX9_ok nmX9 0 (by decide) rfl (by decide) tw_158 (Or.inl rfl) (hMk hw.2.2.2.2.2.1 0 rfl) rfl rfl hw.2.2.2.2.2 dX9_like_2 (fun H locs hw => ?_)
  rw [eS1] at hw
  refine lv_aload_n X.1 X.2.1 dX9_like_5 rfl (lv_at hl 0 rfl) ?_
  refine lv_iload_n X.1 X.2.1 dX9_like_6 rfl (lv_at hl 1 rfl) ?_
  obtain ⟨r3, S2, hS2, hf⟩ := bn2_ok hf
  refine r_callV (As := [.int x1]) (rest := []) (st1 := [.int r3]) (κ := 10) X hw (c_X9_isDay l D B cy A ad av x1 hw.2.2.2.2.1 hw.2.2.2.2.2 hS2) ⟨rfl, rfl, Nat.le_of_ble_eq_true rfl, Nat.le_of_ble_eq_true rfl⟩ rfl (by decide) (hMk hw.2.2.2.2.2.1 0 rfl) tw_756 tw_757 tw_758 tw_5 tw_759 hd_X9_isDay rfl hl.1 rfl (Nat.le_of_ble_eq_true rfl) dX9_like_7 ⟨Nat.le_of_ble_eq_true rfl, Nat.le_of_ble_eq_true rfl⟩ rfl (fun H locs hw => ?_)
  refine lv_if_eq (tgt := 32) X.1 X.2.1 dX9_like_10 (by decide) (fun hq => ?_) (fun hq => ?_)
  · replace hf := cd_tk hq hf
    exact w_X9_like_32 X  _ _ _ _ hf hw (lv_sub hl [] rfl)
  · replace hf := cd_fk hq hf
    refine lv_aload_n X.1 X.2.1 dX9_like_13 rfl (lv_at hl 0 rfl) ?_
    refine lv_iload_n X.1 X.2.1 dX9_like_14 rfl (lv_at hl 2 rfl) ?_
    obtain ⟨r5, S4, hS4, hf⟩ := bn2_ok hf
    refine r_callV (As := [.int x2]) (rest := []) (st1 := [.int r5]) (κ := 10) X hw (c_X9_isKnown l D B cy A ad av x2 hw.2.2.2.2.1 hw.2.2.2.2.2 hS4) ⟨rfl, rfl, Nat.le_of_ble_eq_true rfl, Nat.le_of_ble_eq_true rfl⟩ rfl (by decide) (hMk hw.2.2.2.2.2.1 0 rfl) tw_760 tw_761 tw_762 tw_5 tw_763 hd_X9_isKnown rfl hl.1 rfl (Nat.le_of_ble_eq_true rfl) dX9_like_15 ⟨Nat.le_of_ble_eq_true rfl, Nat.le_of_ble_eq_true rfl⟩ rfl (fun H locs hw => ?_)
    refine lv_if_eq (tgt := 32) X.1 X.2.1 dX9_like_18 (by decide) (fun hq => ?_) (fun hq => ?_)
    · replace hf := cd_tk hq hf
      exact w_X9_like_32 X  _ _ _ _ hf hw (lv_sub hl [] rfl)
    · replace hf := cd_fk hq hf
      refine lv_iload_n X.1 X.2.1 dX9_like_21 rfl (lv_at hl 3 rfl) ?_
      refine lv_if_lt (tgt := 32) X.1 X.2.1 dX9_like_22 (by decide) (fun hq => ?_) (fun hq => ?_)
      · replace hf := cd_tk hq hf
        exact w_X9_like_32 X  _ _ _ _ hf hw (lv_sub hl [] rfl)
      · replace hf := cd_fk hq hf
        refine lv_iload_n X.1 X.2.1 dX9_like_25 rfl (lv_at hl 3 rfl) ?_
        refine lv_ldcw X.1 X.2.1 X.2.2.2.1 (X.2.2.2.2.1 _ tw_922) dX9_like_26 ?_
        refine lv_icmp_le (tgt := 34) X.1 X.2.1 dX9_like_29 (by decide) (fun hq => ?_) (fun hq => ?_)
        · replace hf := cd_tk hq hf
          refine lv_aload_n X.1 X.2.1 dX9_like_34 rfl (lv_at hl 0 rfl) ?_
          refine lv_iload_n X.1 X.2.1 dX9_like_35 rfl (lv_at hl 2 rfl) ?_
          refine lv_iload_n X.1 X.2.1 dX9_like_36 rfl (lv_at hl 1 rfl) ?_
          obtain ⟨S6, hS6, hf⟩ := bn_ok hf
          refine r_callV (As := [.int x2, .int x1]) (rest := []) (st1 := []) (κ := 10) X hw (c_X9_passes l D B cy A ad av x2 x1 hw.2.2.2.2.1 hw.2.2.2.2.2 hS6) ⟨rfl, rfl, Nat.le_of_ble_eq_true rfl, Nat.le_of_ble_eq_true rfl⟩ rfl (by decide) (hMk hw.2.2.2.2.2.1 0 rfl) tw_764 tw_765 tw_766 tw_5 tw_767 hd_X9_passes rfl hl.1 rfl (Nat.le_of_ble_eq_true rfl) dX9_like_37 ⟨Nat.le_of_ble_eq_true rfl, Nat.le_of_ble_eq_true rfl⟩ rfl (fun H locs hw => ?_)
          refine lv_aload_n X.1 X.2.1 dX9_like_40 rfl (lv_at hl 0 rfl) ?_
          refine lv_iconst (v := 0) X.1 X.2.1 dX9_like_41 (by decide) ?_
          obtain ⟨S7, eS7, hf⟩ := bn_ok hf
          replace eS7 := Option.some.inj eS7
          refine r_putI X hw (κ := 10) rfl inlX9 tyX9 tyX9_ok nmX9 57 (by decide) rfl (by decide) tw_923 (Or.inl rfl) (hMk hw.2.2.2.2.2.1 0 rfl) rfl rfl hw.2.2.2.2.2 dX9_like_42 (fun H locs hw => ?_)
          rw [eS7] at hw
          refine lv_iconst (v := 0) X.1 X.2.1 dX9_like_45 (by decide) ?_
          refine lv_istore (lv' := [(4, .int 0), (0, .ref (B + 0)), (1, .int x1), (2, .int x2), (3, .int x3)]) X.1 X.2.1 dX9_like_46 hl (by decide) rfl (fun ls hl => ?_)
          exact w_X9_like_48 X  _ _ _ _ _ _ _ hf hw (lv_sub hl [1, 4, 0] rfl)
        · replace hf := cd_fk hq hf
          exact w_X9_like_32 X  _ _ _ _ hf hw (lv_sub hl [] rfl)
set_option maxHeartbeats 4000000 in
theorem w_X9_pair_40 {p : Program} {l : Launch} {e : Env} {s : State} {m : MethodId} {args : Array Value} {below : List Frame} {meth : Method} {c : Code} {D : va_G} {B : Nat} {cy : Nat → ClassId} {A : Nat → Prop} {ad av : Nat → Nat} {rv : Int32} {Z : HS} (X : hCX p s m args meth c RX9 cX9_pair 3 (some .int) D cy A ad av) {z : Nat}  (y0 : Int32) (S : HS) (H : Heap) (locs : List Loc) (ls : Array Slot) (hf : fn_X9_pair_40 y0 S = some (rv, Z)) (hw : hWd D B cy A true (hMz z) S s.heap H locs) (hl : lv_has ls 3 []) : W p l e ({ frames := 0, cells := 0, slots := 0, locals := 0 } : Room) s m args below meth c H locs 0 0 (MQ below (hQo D B cy A true (hMz z) Z (some (.int rv))) args s 0 0 A) (F0 m 40 ls [.int y0]) := by
  unfold fn_X9_pair_40 at hf
  cases hf
  exact r_iret X hw dX9_pair_40
set_option maxHeartbeats 4000000 in
theorem w_X9_pair_26 {p : Program} {l : Launch} {e : Env} {s : State} {m : MethodId} {args : Array Value} {below : List Frame} {meth : Method} {c : Code} {D : va_G} {B : Nat} {cy : Nat → ClassId} {A : Nat → Prop} {ad av : Nat → Nat} {rv : Int32} {Z : HS} (X : hCX p s m args meth c RX9 cX9_pair 3 (some .int) D cy A ad av) {z : Nat}   (S : HS) (H : Heap) (locs : List Loc) (ls : Array Slot) (hf : fn_X9_pair_26 S = some (rv, Z)) (hw : hWd D B cy A true (hMz z) S s.heap H locs) (hl : lv_has ls 3 []) : W p l e ({ frames := 0, cells := 0, slots := 0, locals := 0 } : Room) s m args below meth c H locs 0 0 (MQ below (hQo D B cy A true (hMz z) Z (some (.int rv))) args s 0 0 A) (F0 m 26 ls []) := by
  unfold fn_X9_pair_26 at hf
  refine lv_iconst (v := (-1)) X.1 X.2.1 dX9_pair_26 (by decide) ?_
  refine lv_goto (tgt := 40) X.1 X.2.1 dX9_pair_27 (by decide) ?_
  exact w_X9_pair_40 X  _ _ _ _ _ hf hw (lv_sub hl [] rfl)
theorem hd_X9_pair : yX9_pair.cls = RX9 ∧ yX9_pair.cls ≠ "java/lang/invoke/MethodHandle" ∧ yX9_pair.cls ≠ "java/lang/invoke/VarHandle" ∧ (parseMethodDescriptor yX9_pair.desc).map (fun d => d.parameters.length) = some 2 := by decide +kernel
set_option maxHeartbeats 4000000 in
theorem c_X9_pair (l : Launch) (D : va_G) (B : Nat) (cy : Nat → ClassId) (A : Nat → Prop) (ad av : Nat → Nat) {z : Nat} (x1 : Int32) (x2 : Int32) {S Z : HS} {rv : Int32} (hfr : hFr S) (hG : (hMz z) S) (hf : fn_X9_pair x1 x2 S = some (rv, Z)) : hMet l yX9_pair cX9_pair 3 (some .int) ({ frames := 0, cells := 0, slots := 0, locals := 0 } : Room) D B cy A ad av true (hMz z) [.ref (B + 0), .int x1, .int x2] S Z (some (.int rv)) 0 0 := by
  refine h_entry (by decide) hfr hG ?_
  intro p e s m below meth c args X hnm hw
  have hl := lv_entry ([.ref (B + 0), .int x1, .int x2]) (n := 3) (Nat.le_of_ble_eq_true rfl)
  rw [lg_entry_eq]
  generalize (lg_sl ([.ref (B + 0), .int x1, .int x2]) ++ List.replicate (3 - (lg_sl ([.ref (B + 0), .int x1, .int x2])).length) Slot.unset).toArray = ls at hl ⊢
  have hl : lv_has ls 3 [(0, .ref (B + 0)), (1, .int x1), (2, .int x2)] := hl
  unfold fn_X9_pair at hf
  refine lv_aload_n X.1 X.2.1 dX9_pair_0 rfl (lv_at hl 0 rfl) ?_
  refine lv_iconst (v := 0) X.1 X.2.1 dX9_pair_1 (by decide) ?_
  obtain ⟨S1, eS1, hf⟩ := bn_ok hf
  replace eS1 := Option.some.inj eS1
  refine r_putI X hw (κ := 10) rfl inlX9 tyX9 tyX9_ok nmX9 0 (by decide) rfl (by decide) tw_158 (Or.inl rfl) (hMk hw.2.2.2.2.2.1 0 rfl) rfl rfl hw.2.2.2.2.2 dX9_pair_2 (fun H locs hw => ?_)
  rw [eS1] at hw
  refine lv_iload_n X.1 X.2.1 dX9_pair_5 rfl (lv_at hl 1 rfl) ?_
  refine lv_if_lt (tgt := 26) X.1 X.2.1 dX9_pair_6 (by decide) (fun hq => ?_) (fun hq => ?_)
  · replace hf := cd_tk hq hf
    exact w_X9_pair_26 X  _ _ _ _ hf hw (lv_sub hl [] rfl)
  · replace hf := cd_fk hq hf
    refine lv_iload_n X.1 X.2.1 dX9_pair_9 rfl (lv_at hl 1 rfl) ?_
    refine lv_aload_n X.1 X.2.1 dX9_pair_10 rfl (lv_at hl 0 rfl) ?_
    refine r_getI X hw (κ := 10) rfl inlX9 57 (by decide) rfl (by decide) tw_923 (hMk hw.2.2.2.2.2.1 0 rfl) dX9_pair_11 ?_
    refine lv_icmp_ge (tgt := 26) X.1 X.2.1 dX9_pair_14 (by decide) (fun hq => ?_) (fun hq => ?_)
    · replace hf := cd_tk hq hf
      exact w_X9_pair_26 X  _ _ _ _ hf hw (lv_sub hl [] rfl)
    · replace hf := cd_fk hq hf
      refine lv_iload_n X.1 X.2.1 dX9_pair_17 rfl (lv_at hl 2 rfl) ?_
      refine lv_if_lt (tgt := 26) X.1 X.2.1 dX9_pair_18 (by decide) (fun hq => ?_) (fun hq => ?_)
      · replace hf := cd_tk hq hf
        exact w_X9_pair_26 X  _ _ _ _ hf hw (lv_sub hl [] rfl)
      · replace hf := cd_fk hq hf
        refine lv_iload_n X.1 X.2.1 dX9_pair_21 rfl (lv_at hl 2 rfl) ?_
        refine lv_iconst (v := 3) X.1 X.2.1 dX9_pair_22 (by decide) ?_
        refine lv_icmp_le (tgt := 30) X.1 X.2.1 dX9_pair_23 (by decide) (fun hq => ?_) (fun hq => ?_)
        · replace hf := cd_tk hq hf
          refine lv_aload_n X.1 X.2.1 dX9_pair_30 rfl (lv_at hl 0 rfl) ?_
          refine r_getF X hw (κ := 10) rfl inlX9 56 (by decide) rfl (by decide) tw_143 (hMk hw.2.2.2.2.2.1 0 rfl) (hMr hw.2.2.2.2.2.1 0 56 rfl) dX9_pair_31 ?_
          refine lv_iconst (v := 4) X.1 X.2.1 dX9_pair_34 (by decide) ?_
          refine lv_iload_n X.1 X.2.1 dX9_pair_35 rfl (lv_at hl 1 rfl) ?_
          refine lv_imul X.1 X.2.1 dX9_pair_36 ?_
          refine lv_iload_n X.1 X.2.1 dX9_pair_37 rfl (lv_at hl 2 rfl) ?_
          refine lv_iadd X.1 X.2.1 dX9_pair_38 ?_
          obtain ⟨g2, hf⟩ := gd_ok hf
          refine r_iald X hw (hMk hw.2.2.2.2.2.1 39 rfl) (hMn hw.2.2.2.2.2.1 39 rfl) g2 dX9_pair_39 ?_
          exact w_X9_pair_40 X  _ _ _ _ _ hf hw (lv_sub hl [] rfl)
        · replace hf := cd_fk hq hf
          exact w_X9_pair_26 X  _ _ _ _ hf hw (lv_sub hl [] rfl)
set_option maxHeartbeats 4000000 in
theorem w_X9_meet_136 {p : Program} {l : Launch} {e : Env} {s : State} {m : MethodId} {args : Array Value} {below : List Frame} {meth : Method} {c : Code} {D : va_G} {B : Nat} {cy : Nat → ClassId} {A : Nat → Prop} {ad av : Nat → Nat} {rv : Int32} {Z : HS} (X : hCX p s m args meth c RX9 cX9_meet 4 (some .int) D cy A ad av) {z : Nat} (k36 : Int32 → HS → Option (Int32 × HS)) (hk36 : ∀ (x3 : Int32) (S : HS) (H : Heap) (locs : List Loc) (ls : Array Slot), k36 x3 S = some (rv, Z) → hWd D B cy A true (hMz z) S s.heap H locs → lv_has ls 4 [(0, .ref (B + 0)), (3, .int x3)] → W p l e ({ frames := 1, cells := 0, slots := 0, locals := 25 } : Room) s m args below meth c H locs 0 0 (MQ below (hQo D B cy A true (hMz z) Z (some (.int rv))) args s 0 0 A) (F0 m 36 ls [])) (x3 : Int32) (S : HS) (H : Heap) (locs : List Loc) (ls : Array Slot) (hf : fn_X9_meet_136 k36 x3 S = some (rv, Z)) (hw : hWd D B cy A true (hMz z) S s.heap H locs) (hl : lv_has ls 4 [(0, .ref (B + 0)), (3, .int x3)]) : W p l e ({ frames := 1, cells := 0, slots := 0, locals := 25 } : Room) s m args below meth c H locs 0 0 (MQ below (hQo D B cy A true (hMz z) Z (some (.int rv))) args s 0 0 A) (F0 m 136 ls []) := by
  unfold fn_X9_meet_136 at hf
  obtain ⟨v1, ev1, hf⟩ := bn_ok hf
  replace ev1 := Option.some.inj ev1
  refine lv_iinc (v := v1) (lv' := [(3, .int v1), (0, .ref (B + 0))]) X.1 X.2.1 dX9_meet_136 hl (k := 1) rfl ev1 (by decide) rfl (fun ls hl => ?_)
  refine lv_goto (tgt := 36) X.1 X.2.1 dX9_meet_139 (by decide) ?_
  exact hk36 _ _ _ _ _ hf hw (lv_sub hl [1, 0] rfl)
set_option maxHeartbeats 4000000 in
theorem w_X9_meet_36 {p : Program} {l : Launch} {e : Env} {s : State} {m : MethodId} {args : Array Value} {below : List Frame} {meth : Method} {c : Code} {D : va_G} {B : Nat} {cy : Nat → ClassId} {A : Nat → Prop} {ad av : Nat → Nat} {rv : Int32} {Z : HS} (X : hCX p s m args meth c RX9 cX9_meet 4 (some .int) D cy A ad av) {z : Nat}  : ∀ (n : Nat) (x3 : Int32) (S : HS) (H : Heap) (locs : List Loc) (ls : Array Slot), fn_X9_meet_36 n x3 S = some (rv, Z) → hWd D B cy A true (hMz z) S s.heap H locs → lv_has ls 4 [(0, .ref (B + 0)), (3, .int x3)] → W p l e ({ frames := 1, cells := 0, slots := 0, locals := 25 } : Room) s m args below meth c H locs 0 0 (MQ below (hQo D B cy A true (hMz z) Z (some (.int rv))) args s 0 0 A) (F0 m 36 ls []) := by
  intro n
  induction n with
  | zero =>
    intro x3 S H locs ls hf
    cases hf
  | succ n ih =>
    intro x3 S H locs ls hf hw hl
    rw [fn_X9_meet_36] at hf
    refine lv_iload_n X.1 X.2.1 dX9_meet_36 rfl (lv_at hl 1 rfl) ?_
    refine lv_sipush (v := 156) X.1 X.2.1 dX9_meet_37 (by decide) ?_
    refine lv_icmp_ge (tgt := 142) X.1 X.2.1 dX9_meet_40 (by decide) (fun hq => ?_) (fun hq => ?_)
    · replace hf := cd_tk hq hf
      refine lv_aload_n X.1 X.2.1 dX9_meet_142 rfl (lv_at hl 0 rfl) ?_
      refine r_getI X hw (κ := 10) rfl inlX9 59 (by decide) rfl (by decide) tw_961 (hMk hw.2.2.2.2.2.1 0 rfl) dX9_meet_143 ?_
      cases hf
      exact r_iret X hw dX9_meet_146
    · replace hf := cd_fk hq hf
      refine lv_aload_n X.1 X.2.1 dX9_meet_43 rfl (lv_at hl 0 rfl) ?_
      refine r_getF X hw (κ := 10) rfl inlX9 37 (by decide) rfl (by decide) tw_126 (hMk hw.2.2.2.2.2.1 0 rfl) (hMr hw.2.2.2.2.2.1 0 37 rfl) dX9_meet_44 ?_
      refine lv_iload_n X.1 X.2.1 dX9_meet_47 rfl (lv_at hl 1 rfl) ?_
      obtain ⟨g1, hf⟩ := gd_ok hf
      refine r_iald X hw (hMk hw.2.2.2.2.2.1 22 rfl) (hMn hw.2.2.2.2.2.1 22 rfl) g1 dX9_meet_48 ?_
      refine lv_iconst (v := 2) X.1 X.2.1 dX9_meet_49 (by decide) ?_
      refine lv_icmp_ge (tgt := 56) X.1 X.2.1 dX9_meet_50 (by decide) (fun hq => ?_) (fun hq => ?_)
      · replace hf := cd_tk hq hf
        refine lv_aload_n X.1 X.2.1 dX9_meet_56 rfl (lv_at hl 0 rfl) ?_
        refine r_getF X hw (κ := 10) rfl inlX9 58 (by decide) rfl (by decide) tw_144 (hMk hw.2.2.2.2.2.1 0 rfl) (hMr hw.2.2.2.2.2.1 0 58 rfl) dX9_meet_57 ?_
        refine lv_iconst (v := 4) X.1 X.2.1 dX9_meet_60 (by decide) ?_
        refine lv_aload_n X.1 X.2.1 dX9_meet_61 rfl (lv_at hl 0 rfl) ?_
        refine r_getI X hw (κ := 10) rfl inlX9 59 (by decide) rfl (by decide) tw_961 (hMk hw.2.2.2.2.2.1 0 rfl) dX9_meet_62 ?_
        refine lv_imul X.1 X.2.1 dX9_meet_65 ?_
        refine lv_iload_n X.1 X.2.1 dX9_meet_66 rfl (lv_at hl 1 rfl) ?_
        refine lv_bipush (v := 26) X.1 X.2.1 dX9_meet_67 (by decide) ?_
        refine lv_idiv X.1 X.2.1 dX9_meet_69 (by decide) ?_
        obtain ⟨g2, hf⟩ := gd_ok hf
        obtain ⟨S3, eS3, hf⟩ := bn_ok hf
        replace eS3 := Option.some.inj eS3
        refine r_iast X hw (hMk hw.2.2.2.2.2.1 40 rfl) (hMn hw.2.2.2.2.2.1 40 rfl) g2 hw.2.2.2.2.2 dX9_meet_70 (fun H locs hw => ?_)
        rw [eS3] at hw
        refine lv_aload_n X.1 X.2.1 dX9_meet_71 rfl (lv_at hl 0 rfl) ?_
        refine r_getF X hw (κ := 10) rfl inlX9 58 (by decide) rfl (by decide) tw_144 (hMk hw.2.2.2.2.2.1 0 rfl) (hMr hw.2.2.2.2.2.1 0 58 rfl) dX9_meet_72 ?_
        refine lv_iconst (v := 4) X.1 X.2.1 dX9_meet_75 (by decide) ?_
        refine lv_aload_n X.1 X.2.1 dX9_meet_76 rfl (lv_at hl 0 rfl) ?_
        refine r_getI X hw (κ := 10) rfl inlX9 59 (by decide) rfl (by decide) tw_961 (hMk hw.2.2.2.2.2.1 0 rfl) dX9_meet_77 ?_
        refine lv_imul X.1 X.2.1 dX9_meet_80 ?_
        refine lv_iconst (v := 1) X.1 X.2.1 dX9_meet_81 (by decide) ?_
        refine lv_iadd X.1 X.2.1 dX9_meet_82 ?_
        refine lv_iload_n X.1 X.2.1 dX9_meet_83 rfl (lv_at hl 1 rfl) ?_
        refine lv_bipush (v := 26) X.1 X.2.1 dX9_meet_84 (by decide) ?_
        refine lv_irem X.1 X.2.1 dX9_meet_86 (by decide) ?_
        obtain ⟨g4, hf⟩ := gd_ok hf
        obtain ⟨S5, eS5, hf⟩ := bn_ok hf
        replace eS5 := Option.some.inj eS5
        refine r_iast X hw (hMk hw.2.2.2.2.2.1 40 rfl) (hMn hw.2.2.2.2.2.1 40 rfl) g4 hw.2.2.2.2.2 dX9_meet_87 (fun H locs hw => ?_)
        rw [eS5] at hw
        refine lv_aload_n X.1 X.2.1 dX9_meet_88 rfl (lv_at hl 0 rfl) ?_
        refine r_getF X hw (κ := 10) rfl inlX9 58 (by decide) rfl (by decide) tw_144 (hMk hw.2.2.2.2.2.1 0 rfl) (hMr hw.2.2.2.2.2.1 0 58 rfl) dX9_meet_89 ?_
        refine lv_iconst (v := 4) X.1 X.2.1 dX9_meet_92 (by decide) ?_
        refine lv_aload_n X.1 X.2.1 dX9_meet_93 rfl (lv_at hl 0 rfl) ?_
        refine r_getI X hw (κ := 10) rfl inlX9 59 (by decide) rfl (by decide) tw_961 (hMk hw.2.2.2.2.2.1 0 rfl) dX9_meet_94 ?_
        refine lv_imul X.1 X.2.1 dX9_meet_97 ?_
        refine lv_iconst (v := 2) X.1 X.2.1 dX9_meet_98 (by decide) ?_
        refine lv_iadd X.1 X.2.1 dX9_meet_99 ?_
        refine lv_aload_n X.1 X.2.1 dX9_meet_100 rfl (lv_at hl 0 rfl) ?_
        refine r_getF X hw (κ := 10) rfl inlX9 36 (by decide) rfl (by decide) tw_125 (hMk hw.2.2.2.2.2.1 0 rfl) (hMr hw.2.2.2.2.2.1 0 36 rfl) dX9_meet_101 ?_
        refine lv_iload_n X.1 X.2.1 dX9_meet_104 rfl (lv_at hl 1 rfl) ?_
        obtain ⟨g6, hf⟩ := gd_ok hf
        refine r_iald X hw (hMk hw.2.2.2.2.2.1 21 rfl) (hMn hw.2.2.2.2.2.1 21 rfl) g6 dX9_meet_105 ?_
        obtain ⟨g7, hf⟩ := gd_ok hf
        obtain ⟨S8, eS8, hf⟩ := bn_ok hf
        replace eS8 := Option.some.inj eS8
        refine r_iast X hw (hMk hw.2.2.2.2.2.1 40 rfl) (hMn hw.2.2.2.2.2.1 40 rfl) g7 hw.2.2.2.2.2 dX9_meet_106 (fun H locs hw => ?_)
        rw [eS8] at hw
        refine lv_aload_n X.1 X.2.1 dX9_meet_107 rfl (lv_at hl 0 rfl) ?_
        refine r_getF X hw (κ := 10) rfl inlX9 58 (by decide) rfl (by decide) tw_144 (hMk hw.2.2.2.2.2.1 0 rfl) (hMr hw.2.2.2.2.2.1 0 58 rfl) dX9_meet_108 ?_
        refine lv_iconst (v := 4) X.1 X.2.1 dX9_meet_111 (by decide) ?_
        refine lv_aload_n X.1 X.2.1 dX9_meet_112 rfl (lv_at hl 0 rfl) ?_
        refine r_getI X hw (κ := 10) rfl inlX9 59 (by decide) rfl (by decide) tw_961 (hMk hw.2.2.2.2.2.1 0 rfl) dX9_meet_113 ?_
        refine lv_imul X.1 X.2.1 dX9_meet_116 ?_
        refine lv_iconst (v := 3) X.1 X.2.1 dX9_meet_117 (by decide) ?_
        refine lv_iadd X.1 X.2.1 dX9_meet_118 ?_
        refine lv_aload_n X.1 X.2.1 dX9_meet_119 rfl (lv_at hl 0 rfl) ?_
        refine r_getF X hw (κ := 10) rfl inlX9 37 (by decide) rfl (by decide) tw_126 (hMk hw.2.2.2.2.2.1 0 rfl) (hMr hw.2.2.2.2.2.1 0 37 rfl) dX9_meet_120 ?_
        refine lv_iload_n X.1 X.2.1 dX9_meet_123 rfl (lv_at hl 1 rfl) ?_
        obtain ⟨g9, hf⟩ := gd_ok hf
        refine r_iald X hw (hMk hw.2.2.2.2.2.1 22 rfl) (hMn hw.2.2.2.2.2.1 22 rfl) g9 dX9_meet_124 ?_
        obtain ⟨g10, hf⟩ := gd_ok hf
        obtain ⟨S11, eS11, hf⟩ := bn_ok hf
        replace eS11 := Option.some.inj eS11
        refine r_iast X hw (hMk hw.2.2.2.2.2.1 40 rfl) (hMn hw.2.2.2.2.2.1 40 rfl) g10 hw.2.2.2.2.2 dX9_meet_125 (fun H locs hw => ?_)
        rw [eS11] at hw
        refine lv_aload_n X.1 X.2.1 dX9_meet_126 rfl (lv_at hl 0 rfl) ?_
        refine lv_dup X.1 X.2.1 dX9_meet_127 rfl ?_
        refine r_getI X hw (κ := 10) rfl inlX9 59 (by decide) rfl (by decide) tw_961 (hMk hw.2.2.2.2.2.1 0 rfl) dX9_meet_128 ?_
        refine lv_iconst (v := 1) X.1 X.2.1 dX9_meet_131 (by decide) ?_
        refine lv_iadd X.1 X.2.1 dX9_meet_132 ?_
        obtain ⟨S12, eS12, hf⟩ := bn_ok hf
        replace eS12 := Option.some.inj eS12
        refine r_putI X hw (κ := 10) rfl inlX9 tyX9 tyX9_ok nmX9 59 (by decide) rfl (by decide) tw_961 (Or.inl rfl) (hMk hw.2.2.2.2.2.1 0 rfl) rfl rfl hw.2.2.2.2.2 dX9_meet_133 (fun H locs hw => ?_)
        rw [eS12] at hw
        exact w_X9_meet_136 X (fn_X9_meet_36 n) ih _ _ _ _ _ hf hw (lv_sub hl [0, 1] rfl)
      · replace hf := cd_fk hq hf
        refine lv_goto (tgt := 136) X.1 X.2.1 dX9_meet_53 (by decide) ?_
        exact w_X9_meet_136 X (fn_X9_meet_36 n) ih _ _ _ _ _ hf hw (lv_sub hl [0, 1] rfl)
set_option maxHeartbeats 4000000 in
theorem w_X9_meet_21 {p : Program} {l : Launch} {e : Env} {s : State} {m : MethodId} {args : Array Value} {below : List Frame} {meth : Method} {c : Code} {D : va_G} {B : Nat} {cy : Nat → ClassId} {A : Nat → Prop} {ad av : Nat → Nat} {rv : Int32} {Z : HS} (X : hCX p s m args meth c RX9 cX9_meet 4 (some .int) D cy A ad av) {z : Nat}   (S : HS) (H : Heap) (locs : List Loc) (ls : Array Slot) (hf : fn_X9_meet_21 S = some (rv, Z)) (hw : hWd D B cy A true (hMz z) S s.heap H locs) (hl : lv_has ls 4 []) : W p l e ({ frames := 1, cells := 0, slots := 0, locals := 25 } : Room) s m args below meth c H locs 0 0 (MQ below (hQo D B cy A true (hMz z) Z (some (.int rv))) args s 0 0 A) (F0 m 21 ls []) := by
  unfold fn_X9_meet_21 at hf
  refine lv_iconst (v := (-1)) X.1 X.2.1 dX9_meet_21 (by decide) ?_
  cases hf
  exact r_iret X hw dX9_meet_22
theorem hd_X9_meet : yX9_meet.cls = RX9 ∧ yX9_meet.cls ≠ "java/lang/invoke/MethodHandle" ∧ yX9_meet.cls ≠ "java/lang/invoke/VarHandle" ∧ (parseMethodDescriptor yX9_meet.desc).map (fun d => d.parameters.length) = some 2 := by decide +kernel
set_option maxHeartbeats 4000000 in
theorem c_X9_meet (l : Launch) (D : va_G) (B : Nat) (cy : Nat → ClassId) (A : Nat → Prop) (ad av : Nat → Nat) {z : Nat} (x1 : Int32) (x2 : Int32) {S Z : HS} {rv : Int32} (hfr : hFr S) (hG : (hMz z) S) (hf : fn_X9_meet x1 x2 S = some (rv, Z)) : hMet l yX9_meet cX9_meet 4 (some .int) ({ frames := 1, cells := 0, slots := 0, locals := 25 } : Room) D B cy A ad av true (hMz z) [.ref (B + 0), .int x1, .int x2] S Z (some (.int rv)) 0 0 := by
  refine h_entry (by decide) hfr hG ?_
  intro p e s m below meth c args X hnm hw
  have hl := lv_entry ([.ref (B + 0), .int x1, .int x2]) (n := 4) (Nat.le_of_ble_eq_true rfl)
  rw [lg_entry_eq]
  generalize (lg_sl ([.ref (B + 0), .int x1, .int x2]) ++ List.replicate (4 - (lg_sl ([.ref (B + 0), .int x1, .int x2])).length) Slot.unset).toArray = ls at hl ⊢
  have hl : lv_has ls 4 [(0, .ref (B + 0)), (1, .int x1), (2, .int x2)] := hl
  unfold fn_X9_meet at hf
  refine lv_aload_n X.1 X.2.1 dX9_meet_0 rfl (lv_at hl 0 rfl) ?_
  refine lv_iconst (v := 0) X.1 X.2.1 dX9_meet_1 (by decide) ?_
  obtain ⟨S1, eS1, hf⟩ := bn_ok hf
  replace eS1 := Option.some.inj eS1
  refine r_putI X hw (κ := 10) rfl inlX9 tyX9 tyX9_ok nmX9 0 (by decide) rfl (by decide) tw_158 (Or.inl rfl) (hMk hw.2.2.2.2.2.1 0 rfl) rfl rfl hw.2.2.2.2.2 dX9_meet_2 (fun H locs hw => ?_)
  rw [eS1] at hw
  refine lv_aload_n X.1 X.2.1 dX9_meet_5 rfl (lv_at hl 0 rfl) ?_
  refine lv_iload_n X.1 X.2.1 dX9_meet_6 rfl (lv_at hl 1 rfl) ?_
  obtain ⟨r3, S2, hS2, hf⟩ := bn2_ok hf
  refine r_callV (As := [.int x1]) (rest := []) (st1 := [.int r3]) (κ := 10) X hw (c_X9_isDay l D B cy A ad av x1 hw.2.2.2.2.1 hw.2.2.2.2.2 hS2) ⟨rfl, rfl, Nat.le_of_ble_eq_true rfl, Nat.le_of_ble_eq_true rfl⟩ rfl (by decide) (hMk hw.2.2.2.2.2.1 0 rfl) tw_756 tw_757 tw_758 tw_5 tw_759 hd_X9_isDay rfl hl.1 rfl (Nat.le_of_ble_eq_true rfl) dX9_meet_7 ⟨Nat.le_of_ble_eq_true rfl, Nat.le_of_ble_eq_true rfl⟩ rfl (fun H locs hw => ?_)
  refine lv_if_eq (tgt := 21) X.1 X.2.1 dX9_meet_10 (by decide) (fun hq => ?_) (fun hq => ?_)
  · replace hf := cd_tk hq hf
    exact w_X9_meet_21 X  _ _ _ _ hf hw (lv_sub hl [] rfl)
  · replace hf := cd_fk hq hf
    refine lv_aload_n X.1 X.2.1 dX9_meet_13 rfl (lv_at hl 0 rfl) ?_
    refine lv_iload_n X.1 X.2.1 dX9_meet_14 rfl (lv_at hl 2 rfl) ?_
    obtain ⟨r5, S4, hS4, hf⟩ := bn2_ok hf
    refine r_callV (As := [.int x2]) (rest := []) (st1 := [.int r5]) (κ := 10) X hw (c_X9_isKnown l D B cy A ad av x2 hw.2.2.2.2.1 hw.2.2.2.2.2 hS4) ⟨rfl, rfl, Nat.le_of_ble_eq_true rfl, Nat.le_of_ble_eq_true rfl⟩ rfl (by decide) (hMk hw.2.2.2.2.2.1 0 rfl) tw_760 tw_761 tw_762 tw_5 tw_763 hd_X9_isKnown rfl hl.1 rfl (Nat.le_of_ble_eq_true rfl) dX9_meet_15 ⟨Nat.le_of_ble_eq_true rfl, Nat.le_of_ble_eq_true rfl⟩ rfl (fun H locs hw => ?_)
    refine lv_if_ne (tgt := 23) X.1 X.2.1 dX9_meet_18 (by decide) (fun hq => ?_) (fun hq => ?_)
    · replace hf := cd_fk hq hf
      refine lv_aload_n X.1 X.2.1 dX9_meet_23 rfl (lv_at hl 0 rfl) ?_
      refine lv_iload_n X.1 X.2.1 dX9_meet_24 rfl (lv_at hl 1 rfl) ?_
      refine lv_iload_n X.1 X.2.1 dX9_meet_25 rfl (lv_at hl 2 rfl) ?_
      obtain ⟨S6, hS6, hf⟩ := bn_ok hf
      refine r_callV (As := [.int x1, .int x2]) (rest := []) (st1 := []) (κ := 10) X hw (c_X9_lawsOf l D B cy A ad av x1 x2 hw.2.2.2.2.1 hw.2.2.2.2.2 hS6) ⟨rfl, rfl, Nat.le_of_ble_eq_true rfl, Nat.le_of_ble_eq_true rfl⟩ rfl (by decide) (hMk hw.2.2.2.2.2.1 0 rfl) tw_781 tw_782 tw_783 tw_5 tw_784 hd_X9_lawsOf rfl hl.1 rfl (Nat.le_of_ble_eq_true rfl) dX9_meet_26 ⟨Nat.le_of_ble_eq_true rfl, Nat.le_of_ble_eq_true rfl⟩ rfl (fun H locs hw => ?_)
      refine lv_aload_n X.1 X.2.1 dX9_meet_29 rfl (lv_at hl 0 rfl) ?_
      refine lv_iconst (v := 0) X.1 X.2.1 dX9_meet_30 (by decide) ?_
      obtain ⟨S7, eS7, hf⟩ := bn_ok hf
      replace eS7 := Option.some.inj eS7
      refine r_putI X hw (κ := 10) rfl inlX9 tyX9 tyX9_ok nmX9 59 (by decide) rfl (by decide) tw_961 (Or.inl rfl) (hMk hw.2.2.2.2.2.1 0 rfl) rfl rfl hw.2.2.2.2.2 dX9_meet_31 (fun H locs hw => ?_)
      rw [eS7] at hw
      refine lv_iconst (v := 0) X.1 X.2.1 dX9_meet_34 (by decide) ?_
      refine lv_istore_n (lv' := [(3, .int 0), (0, .ref (B + 0)), (1, .int x1), (2, .int x2)]) X.1 X.2.1 dX9_meet_35 rfl hl (by decide) rfl (fun ls hl => ?_)
      exact w_X9_meet_36 X  _ _ _ _ _ _ hf hw (lv_sub hl [1, 0] rfl)
    · replace hf := cd_tk hq hf
      exact w_X9_meet_21 X  _ _ _ _ hf hw (lv_sub hl [] rfl)
