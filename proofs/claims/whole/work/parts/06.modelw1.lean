set_option maxHeartbeats 4000000 in
theorem w_X9_isLetter_29 {p : Program} {l : Launch} {e : Env} {s : State} {m : MethodId} {args : Array Value} {below : List Frame} {meth : Method} {c : Code} {D : va_G} {B : Nat} {cy : Nat → ClassId} {A : Nat → Prop} {ad av : Nat → Nat} {rv : Int32} {Z : HS} (X : hCX p s m args meth c RX9 cX9_isLetter 1 (some .boolean) D cy A ad av) {z : Nat}  (y0 : Int32) (S : HS) (H : Heap) (locs : List Loc) (ls : Array Slot) (hf : fn_X9_isLetter_29 y0 S = some (rv, Z)) (hw : hWd D B cy A true (hMz z) S s.heap H locs) (hl : lv_has ls 1 []) : W p l e ({ frames := 0, cells := 0, slots := 0, locals := 0 } : Room) s m args below meth c H locs 0 0 (MQ below (hQo D B cy A true (hMz z) Z (some (.int rv))) args s 0 0 A) (F0 m 29 ls [.int y0]) := by
  unfold fn_X9_isLetter_29 at hf
  obtain ⟨g1, hf⟩ := gd_ok hf
  cases hf
  exact r_zret X hw g1 dX9_isLetter_29
set_option maxHeartbeats 4000000 in
theorem w_X9_isLetter_28 {p : Program} {l : Launch} {e : Env} {s : State} {m : MethodId} {args : Array Value} {below : List Frame} {meth : Method} {c : Code} {D : va_G} {B : Nat} {cy : Nat → ClassId} {A : Nat → Prop} {ad av : Nat → Nat} {rv : Int32} {Z : HS} (X : hCX p s m args meth c RX9 cX9_isLetter 1 (some .boolean) D cy A ad av) {z : Nat}   (S : HS) (H : Heap) (locs : List Loc) (ls : Array Slot) (hf : fn_X9_isLetter_28 S = some (rv, Z)) (hw : hWd D B cy A true (hMz z) S s.heap H locs) (hl : lv_has ls 1 []) : W p l e ({ frames := 0, cells := 0, slots := 0, locals := 0 } : Room) s m args below meth c H locs 0 0 (MQ below (hQo D B cy A true (hMz z) Z (some (.int rv))) args s 0 0 A) (F0 m 28 ls []) := by
  unfold fn_X9_isLetter_28 at hf
  refine lv_iconst (v := 0) X.1 X.2.1 dX9_isLetter_28 (by decide) ?_
  exact w_X9_isLetter_29 X  _ _ _ _ _ hf hw (lv_sub hl [] rfl)
set_option maxHeartbeats 4000000 in
theorem w_X9_isLetter_24 {p : Program} {l : Launch} {e : Env} {s : State} {m : MethodId} {args : Array Value} {below : List Frame} {meth : Method} {c : Code} {D : va_G} {B : Nat} {cy : Nat → ClassId} {A : Nat → Prop} {ad av : Nat → Nat} {rv : Int32} {Z : HS} (X : hCX p s m args meth c RX9 cX9_isLetter 1 (some .boolean) D cy A ad av) {z : Nat}   (S : HS) (H : Heap) (locs : List Loc) (ls : Array Slot) (hf : fn_X9_isLetter_24 S = some (rv, Z)) (hw : hWd D B cy A true (hMz z) S s.heap H locs) (hl : lv_has ls 1 []) : W p l e ({ frames := 0, cells := 0, slots := 0, locals := 0 } : Room) s m args below meth c H locs 0 0 (MQ below (hQo D B cy A true (hMz z) Z (some (.int rv))) args s 0 0 A) (F0 m 24 ls []) := by
  unfold fn_X9_isLetter_24 at hf
  refine lv_iconst (v := 1) X.1 X.2.1 dX9_isLetter_24 (by decide) ?_
  refine lv_goto (tgt := 29) X.1 X.2.1 dX9_isLetter_25 (by decide) ?_
  exact w_X9_isLetter_29 X  _ _ _ _ _ hf hw (lv_sub hl [] rfl)
set_option maxHeartbeats 4000000 in
theorem w_X9_isLetter_12 {p : Program} {l : Launch} {e : Env} {s : State} {m : MethodId} {args : Array Value} {below : List Frame} {meth : Method} {c : Code} {D : va_G} {B : Nat} {cy : Nat → ClassId} {A : Nat → Prop} {ad av : Nat → Nat} {rv : Int32} {Z : HS} (X : hCX p s m args meth c RX9 cX9_isLetter 1 (some .boolean) D cy A ad av) {z : Nat}  (x0 : Int32) (S : HS) (H : Heap) (locs : List Loc) (ls : Array Slot) (hf : fn_X9_isLetter_12 x0 S = some (rv, Z)) (hw : hWd D B cy A true (hMz z) S s.heap H locs) (hl : lv_has ls 1 [(0, .int x0)]) : W p l e ({ frames := 0, cells := 0, slots := 0, locals := 0 } : Room) s m args below meth c H locs 0 0 (MQ below (hQo D B cy A true (hMz z) Z (some (.int rv))) args s 0 0 A) (F0 m 12 ls []) := by
  unfold fn_X9_isLetter_12 at hf
  refine lv_iload_n X.1 X.2.1 dX9_isLetter_12 rfl (lv_at hl 0 rfl) ?_
  refine lv_bipush (v := 65) X.1 X.2.1 dX9_isLetter_13 (by decide) ?_
  refine lv_icmp_lt (tgt := 28) X.1 X.2.1 dX9_isLetter_15 (by decide) (fun hq => ?_) (fun hq => ?_)
  · replace hf := cd_tk hq hf
    exact w_X9_isLetter_28 X  _ _ _ _ hf hw (lv_sub hl [] rfl)
  · replace hf := cd_fk hq hf
    refine lv_iload_n X.1 X.2.1 dX9_isLetter_18 rfl (lv_at hl 0 rfl) ?_
    refine lv_bipush (v := 90) X.1 X.2.1 dX9_isLetter_19 (by decide) ?_
    refine lv_icmp_gt (tgt := 28) X.1 X.2.1 dX9_isLetter_21 (by decide) (fun hq => ?_) (fun hq => ?_)
    · replace hf := cd_tk hq hf
      exact w_X9_isLetter_28 X  _ _ _ _ hf hw (lv_sub hl [] rfl)
    · replace hf := cd_fk hq hf
      exact w_X9_isLetter_24 X  _ _ _ _ hf hw (lv_sub hl [] rfl)
theorem hd_X9_isLetter : yX9_isLetter.cls ≠ "java/lang/invoke/MethodHandle" ∧ yX9_isLetter.cls ≠ "java/lang/invoke/VarHandle" ∧ (parseMethodDescriptor yX9_isLetter.desc).map (fun d => d.parameters.length) = some 1 := by decide +kernel
set_option maxHeartbeats 4000000 in
theorem c_X9_isLetter (l : Launch) (D : va_G) (B : Nat) (cy : Nat → ClassId) (A : Nat → Prop) (ad av : Nat → Nat) {z : Nat} (x0 : Int32) {S Z : HS} {rv : Int32} (hfr : hFr S) (hG : (hMz z) S) (hf : fn_X9_isLetter x0 S = some (rv, Z)) : hMet l yX9_isLetter cX9_isLetter 1 (some .boolean) ({ frames := 0, cells := 0, slots := 0, locals := 0 } : Room) D B cy A ad av true (hMz z) [.int x0] S Z (some (.int rv)) 0 0 := by
  refine h_entry (by decide) hfr hG ?_
  intro p e s m below meth c args X hnm hw
  have hl := lv_entry ([.int x0]) (n := 1) (Nat.le_of_ble_eq_true rfl)
  rw [lg_entry_eq]
  generalize (lg_sl ([.int x0]) ++ List.replicate (1 - (lg_sl ([.int x0])).length) Slot.unset).toArray = ls at hl ⊢
  have hl : lv_has ls 1 [(0, .int x0)] := hl
  unfold fn_X9_isLetter at hf
  refine lv_iload_n X.1 X.2.1 dX9_isLetter_0 rfl (lv_at hl 0 rfl) ?_
  refine lv_bipush (v := 97) X.1 X.2.1 dX9_isLetter_1 (by decide) ?_
  refine lv_icmp_lt (tgt := 12) X.1 X.2.1 dX9_isLetter_3 (by decide) (fun hq => ?_) (fun hq => ?_)
  · replace hf := cd_tk hq hf
    exact w_X9_isLetter_12 X  _ _ _ _ _ hf hw (lv_sub hl [0] rfl)
  · replace hf := cd_fk hq hf
    refine lv_iload_n X.1 X.2.1 dX9_isLetter_6 rfl (lv_at hl 0 rfl) ?_
    refine lv_bipush (v := 122) X.1 X.2.1 dX9_isLetter_7 (by decide) ?_
    refine lv_icmp_le (tgt := 24) X.1 X.2.1 dX9_isLetter_9 (by decide) (fun hq => ?_) (fun hq => ?_)
    · replace hf := cd_tk hq hf
      exact w_X9_isLetter_24 X  _ _ _ _ hf hw (lv_sub hl [] rfl)
    · replace hf := cd_fk hq hf
      exact w_X9_isLetter_12 X  _ _ _ _ _ hf hw (lv_sub hl [0] rfl)
set_option maxHeartbeats 4000000 in
theorem w_X9_isDigit_17 {p : Program} {l : Launch} {e : Env} {s : State} {m : MethodId} {args : Array Value} {below : List Frame} {meth : Method} {c : Code} {D : va_G} {B : Nat} {cy : Nat → ClassId} {A : Nat → Prop} {ad av : Nat → Nat} {rv : Int32} {Z : HS} (X : hCX p s m args meth c RX9 cX9_isDigit 1 (some .boolean) D cy A ad av) {z : Nat}  (y0 : Int32) (S : HS) (H : Heap) (locs : List Loc) (ls : Array Slot) (hf : fn_X9_isDigit_17 y0 S = some (rv, Z)) (hw : hWd D B cy A true (hMz z) S s.heap H locs) (hl : lv_has ls 1 []) : W p l e ({ frames := 0, cells := 0, slots := 0, locals := 0 } : Room) s m args below meth c H locs 0 0 (MQ below (hQo D B cy A true (hMz z) Z (some (.int rv))) args s 0 0 A) (F0 m 17 ls [.int y0]) := by
  unfold fn_X9_isDigit_17 at hf
  obtain ⟨g1, hf⟩ := gd_ok hf
  cases hf
  exact r_zret X hw g1 dX9_isDigit_17
set_option maxHeartbeats 4000000 in
theorem w_X9_isDigit_16 {p : Program} {l : Launch} {e : Env} {s : State} {m : MethodId} {args : Array Value} {below : List Frame} {meth : Method} {c : Code} {D : va_G} {B : Nat} {cy : Nat → ClassId} {A : Nat → Prop} {ad av : Nat → Nat} {rv : Int32} {Z : HS} (X : hCX p s m args meth c RX9 cX9_isDigit 1 (some .boolean) D cy A ad av) {z : Nat}   (S : HS) (H : Heap) (locs : List Loc) (ls : Array Slot) (hf : fn_X9_isDigit_16 S = some (rv, Z)) (hw : hWd D B cy A true (hMz z) S s.heap H locs) (hl : lv_has ls 1 []) : W p l e ({ frames := 0, cells := 0, slots := 0, locals := 0 } : Room) s m args below meth c H locs 0 0 (MQ below (hQo D B cy A true (hMz z) Z (some (.int rv))) args s 0 0 A) (F0 m 16 ls []) := by
  unfold fn_X9_isDigit_16 at hf
  refine lv_iconst (v := 0) X.1 X.2.1 dX9_isDigit_16 (by decide) ?_
  exact w_X9_isDigit_17 X  _ _ _ _ _ hf hw (lv_sub hl [] rfl)
theorem hd_X9_isDigit : yX9_isDigit.cls ≠ "java/lang/invoke/MethodHandle" ∧ yX9_isDigit.cls ≠ "java/lang/invoke/VarHandle" ∧ (parseMethodDescriptor yX9_isDigit.desc).map (fun d => d.parameters.length) = some 1 := by decide +kernel
set_option maxHeartbeats 4000000 in
theorem c_X9_isDigit (l : Launch) (D : va_G) (B : Nat) (cy : Nat → ClassId) (A : Nat → Prop) (ad av : Nat → Nat) {z : Nat} (x0 : Int32) {S Z : HS} {rv : Int32} (hfr : hFr S) (hG : (hMz z) S) (hf : fn_X9_isDigit x0 S = some (rv, Z)) : hMet l yX9_isDigit cX9_isDigit 1 (some .boolean) ({ frames := 0, cells := 0, slots := 0, locals := 0 } : Room) D B cy A ad av true (hMz z) [.int x0] S Z (some (.int rv)) 0 0 := by
  refine h_entry (by decide) hfr hG ?_
  intro p e s m below meth c args X hnm hw
  have hl := lv_entry ([.int x0]) (n := 1) (Nat.le_of_ble_eq_true rfl)
  rw [lg_entry_eq]
  generalize (lg_sl ([.int x0]) ++ List.replicate (1 - (lg_sl ([.int x0])).length) Slot.unset).toArray = ls at hl ⊢
  have hl : lv_has ls 1 [(0, .int x0)] := hl
  unfold fn_X9_isDigit at hf
  refine lv_iload_n X.1 X.2.1 dX9_isDigit_0 rfl (lv_at hl 0 rfl) ?_
  refine lv_bipush (v := 48) X.1 X.2.1 dX9_isDigit_1 (by decide) ?_
  refine lv_icmp_lt (tgt := 16) X.1 X.2.1 dX9_isDigit_3 (by decide) (fun hq => ?_) (fun hq => ?_)
  · replace hf := cd_tk hq hf
    exact w_X9_isDigit_16 X  _ _ _ _ hf hw (lv_sub hl [] rfl)
  · replace hf := cd_fk hq hf
    refine lv_iload_n X.1 X.2.1 dX9_isDigit_6 rfl (lv_at hl 0 rfl) ?_
    refine lv_bipush (v := 57) X.1 X.2.1 dX9_isDigit_7 (by decide) ?_
    refine lv_icmp_gt (tgt := 16) X.1 X.2.1 dX9_isDigit_9 (by decide) (fun hq => ?_) (fun hq => ?_)
    · replace hf := cd_tk hq hf
      exact w_X9_isDigit_16 X  _ _ _ _ hf hw (lv_sub hl [] rfl)
    · replace hf := cd_fk hq hf
      refine lv_iconst (v := 1) X.1 X.2.1 dX9_isDigit_12 (by decide) ?_
      refine lv_goto (tgt := 17) X.1 X.2.1 dX9_isDigit_13 (by decide) ?_
      exact w_X9_isDigit_17 X  _ _ _ _ _ hf hw (lv_sub hl [] rfl)
set_option maxHeartbeats 4000000 in
theorem w_X9_here_24 {p : Program} {l : Launch} {e : Env} {s : State} {m : MethodId} {args : Array Value} {below : List Frame} {meth : Method} {c : Code} {D : va_G} {B : Nat} {cy : Nat → ClassId} {A : Nat → Prop} {ad av : Nat → Nat} {rv : Int32} {Z : HS} (X : hCX p s m args meth c RX9 cX9_here 1 (some .int) D cy A ad av) {z : Nat}  (y0 : Int32) (S : HS) (H : Heap) (locs : List Loc) (ls : Array Slot) (hf : fn_X9_here_24 y0 S = some (rv, Z)) (hw : hWd D B cy A true (hMz z) S s.heap H locs) (hl : lv_has ls 1 []) : W p l e ({ frames := 0, cells := 0, slots := 0, locals := 0 } : Room) s m args below meth c H locs 0 0 (MQ below (hQo D B cy A true (hMz z) Z (some (.int rv))) args s 0 0 A) (F0 m 24 ls [.int y0]) := by
  unfold fn_X9_here_24 at hf
  cases hf
  exact r_iret X hw dX9_here_24
theorem hd_X9_here : yX9_here.cls = RX9 ∧ yX9_here.cls ≠ "java/lang/invoke/MethodHandle" ∧ yX9_here.cls ≠ "java/lang/invoke/VarHandle" ∧ (parseMethodDescriptor yX9_here.desc).map (fun d => d.parameters.length) = some 0 := by decide +kernel
set_option maxHeartbeats 4000000 in
theorem c_X9_here (l : Launch) (D : va_G) (B : Nat) (cy : Nat → ClassId) (A : Nat → Prop) (ad av : Nat → Nat) {z : Nat}  {S Z : HS} {rv : Int32} (hfr : hFr S) (hG : (hMz z) S) (hf : fn_X9_here S = some (rv, Z)) : hMet l yX9_here cX9_here 1 (some .int) ({ frames := 0, cells := 0, slots := 0, locals := 0 } : Room) D B cy A ad av true (hMz z) [.ref (B + 0)] S Z (some (.int rv)) 0 0 := by
  refine h_entry (by decide) hfr hG ?_
  intro p e s m below meth c args X hnm hw
  have hl := lv_entry ([.ref (B + 0)]) (n := 1) (Nat.le_of_ble_eq_true rfl)
  rw [lg_entry_eq]
  generalize (lg_sl ([.ref (B + 0)]) ++ List.replicate (1 - (lg_sl ([.ref (B + 0)])).length) Slot.unset).toArray = ls at hl ⊢
  have hl : lv_has ls 1 [(0, .ref (B + 0))] := hl
  unfold fn_X9_here at hf
  refine lv_aload_n X.1 X.2.1 dX9_here_0 rfl (lv_at hl 0 rfl) ?_
  refine r_getI X hw (κ := 10) rfl inlX9 18 (by decide) rfl (by decide) tw_456 (hMk hw.2.2.2.2.2.1 0 rfl) dX9_here_1 ?_
  refine lv_aload_n X.1 X.2.1 dX9_here_4 rfl (lv_at hl 0 rfl) ?_
  refine r_getI X hw (κ := 10) rfl inlX9 17 (by decide) rfl (by decide) tw_446 (hMk hw.2.2.2.2.2.1 0 rfl) dX9_here_5 ?_
  refine lv_icmp_ge (tgt := 23) X.1 X.2.1 dX9_here_8 (by decide) (fun hq => ?_) (fun hq => ?_)
  · replace hf := cd_tk hq hf
    refine lv_iconst (v := (-1)) X.1 X.2.1 dX9_here_23 (by decide) ?_
    exact w_X9_here_24 X  _ _ _ _ _ hf hw (lv_sub hl [] rfl)
  · replace hf := cd_fk hq hf
    refine lv_aload_n X.1 X.2.1 dX9_here_11 rfl (lv_at hl 0 rfl) ?_
    refine r_getF X hw (κ := 10) rfl inlX9 1 (by decide) rfl (by decide) tw_104 (hMk hw.2.2.2.2.2.1 0 rfl) (hMr hw.2.2.2.2.2.1 0 1 rfl) dX9_here_12 ?_
    refine lv_aload_n X.1 X.2.1 dX9_here_15 rfl (lv_at hl 0 rfl) ?_
    refine r_getI X hw (κ := 10) rfl inlX9 18 (by decide) rfl (by decide) tw_456 (hMk hw.2.2.2.2.2.1 0 rfl) dX9_here_16 ?_
    obtain ⟨g1, hf⟩ := gd_ok hf
    refine r_iald X hw (hMk hw.2.2.2.2.2.1 1 rfl) (hMn hw.2.2.2.2.2.1 1 rfl) g1 dX9_here_19 ?_
    refine lv_goto (tgt := 24) X.1 X.2.1 dX9_here_20 (by decide) ?_
    exact w_X9_here_24 X  _ _ _ _ _ hf hw (lv_sub hl [] rfl)
set_option maxHeartbeats 4000000 in
theorem w_X9_feed_73 {p : Program} {l : Launch} {e : Env} {s : State} {m : MethodId} {args : Array Value} {below : List Frame} {meth : Method} {c : Code} {D : va_G} {B : Nat} {cy : Nat → ClassId} {A : Nat → Prop} {ad av : Nat → Nat} {rv : Int32} {Z : HS} (X : hCX p s m args meth c RX9 cX9_feed 8 (some .int) D cy A ad av) {z : Nat} (k20 : Int32 → Int32 → Int32 → Int32 → Int32 → Int32 → HS → Option (Int32 × HS)) (hk20 : ∀ (x1 : Int32) (x2 : Int32) (x3 : Int32) (x4 : Int32) (x5 : Int32) (x6 : Int32) (S : HS) (H : Heap) (locs : List Loc) (ls : Array Slot), k20 x1 x2 x3 x4 x5 x6 S = some (rv, Z) → hWd D B cy A true (hMz z) S s.heap H locs → lv_has ls 8 [(0, .ref (B + 0)), (1, .int x1), (2, .int x2), (3, .int x3), (4, .int x4), (5, .int x5), (6, .int x6)] → W p l e ({ frames := 0, cells := 0, slots := 0, locals := 0 } : Room) s m args below meth c H locs 0 0 (MQ below (hQo D B cy A true (hMz z) Z (some (.int rv))) args s 0 0 A) (F0 m 20 ls [])) (x1 : Int32) (x2 : Int32) (x3 : Int32) (x4 : Int32) (x5 : Int32) (x6 : Int32) (y0 : Int32) (S : HS) (H : Heap) (locs : List Loc) (ls : Array Slot) (hf : fn_X9_feed_73 k20 x1 x2 x3 x4 x5 x6 y0 S = some (rv, Z)) (hw : hWd D B cy A true (hMz z) S s.heap H locs) (hl : lv_has ls 8 [(0, .ref (B + 0)), (1, .int x1), (2, .int x2), (3, .int x3), (4, .int x4), (5, .int x5), (6, .int x6)]) : W p l e ({ frames := 0, cells := 0, slots := 0, locals := 0 } : Room) s m args below meth c H locs 0 0 (MQ below (hQo D B cy A true (hMz z) Z (some (.int rv))) args s 0 0 A) (F0 m 73 ls [.int y0]) := by
  unfold fn_X9_feed_73 at hf
  refine lv_istore (lv' := [(7, .int y0), (0, .ref (B + 0)), (1, .int x1), (2, .int x2), (3, .int x3), (4, .int x4), (5, .int x5), (6, .int x6)]) X.1 X.2.1 dX9_feed_73 hl (by decide) rfl (fun ls hl => ?_)
  refine lv_aload_n X.1 X.2.1 dX9_feed_75 rfl (lv_at hl 1 rfl) ?_
  refine r_getF X hw (κ := 10) rfl inlX9 1 (by decide) rfl (by decide) tw_104 (hMk hw.2.2.2.2.2.1 0 rfl) (hMr hw.2.2.2.2.2.1 0 1 rfl) dX9_feed_76 ?_
  refine lv_aload_n X.1 X.2.1 dX9_feed_79 rfl (lv_at hl 1 rfl) ?_
  refine r_getI X hw (κ := 10) rfl inlX9 2 (by decide) rfl (by decide) tw_159 (hMk hw.2.2.2.2.2.1 0 rfl) dX9_feed_80 ?_
  refine lv_iload X.1 X.2.1 dX9_feed_83 (lv_at hl 7 rfl) ?_
  refine lv_iadd X.1 X.2.1 dX9_feed_85 ?_
  refine lv_iload X.1 X.2.1 dX9_feed_86 (lv_at hl 0 rfl) ?_
  refine lv_bipush (v := 24) X.1 X.2.1 dX9_feed_88 (by decide) ?_
  refine lv_bipush (v := 8) X.1 X.2.1 dX9_feed_90 (by decide) ?_
  refine lv_iload X.1 X.2.1 dX9_feed_92 (lv_at hl 7 rfl) ?_
  refine lv_iconst (v := 4) X.1 X.2.1 dX9_feed_94 (by decide) ?_
  refine lv_irem X.1 X.2.1 dX9_feed_95 (by decide) ?_
  refine lv_imul X.1 X.2.1 dX9_feed_96 ?_
  refine lv_isub X.1 X.2.1 dX9_feed_97 ?_
  refine lv_ishr X.1 X.2.1 dX9_feed_98 ?_
  refine lv_sipush (v := 255) X.1 X.2.1 dX9_feed_99 (by decide) ?_
  refine lv_iand X.1 X.2.1 dX9_feed_102 ?_
  obtain ⟨g1, hf⟩ := gd_ok hf
  obtain ⟨S2, eS2, hf⟩ := bn_ok hf
  replace eS2 := Option.some.inj eS2
  refine r_iast X hw (hMk hw.2.2.2.2.2.1 1 rfl) (hMn hw.2.2.2.2.2.1 1 rfl) g1 hw.2.2.2.2.2 dX9_feed_103 (fun H locs hw => ?_)
  rw [eS2] at hw
  obtain ⟨v3, ev3, hf⟩ := bn_ok hf
  replace ev3 := Option.some.inj ev3
  refine lv_iinc (v := v3) (lv' := [(6, .int v3), (7, .int y0), (0, .ref (B + 0)), (1, .int x1), (2, .int x2), (3, .int x3), (4, .int x4), (5, .int x5)]) X.1 X.2.1 dX9_feed_104 hl (k := 7) rfl ev3 (by decide) rfl (fun ls hl => ?_)
  refine lv_goto (tgt := 20) X.1 X.2.1 dX9_feed_107 (by decide) ?_
  exact hk20 _ _ _ _ _ _ _ _ _ _ hf hw (lv_sub hl [2, 3, 4, 5, 6, 7, 0] rfl)
set_option maxHeartbeats 4000000 in
theorem w_X9_feed_20 {p : Program} {l : Launch} {e : Env} {s : State} {m : MethodId} {args : Array Value} {below : List Frame} {meth : Method} {c : Code} {D : va_G} {B : Nat} {cy : Nat → ClassId} {A : Nat → Prop} {ad av : Nat → Nat} {rv : Int32} {Z : HS} (X : hCX p s m args meth c RX9 cX9_feed 8 (some .int) D cy A ad av) {z : Nat}  : ∀ (n : Nat) (x1 : Int32) (x2 : Int32) (x3 : Int32) (x4 : Int32) (x5 : Int32) (x6 : Int32) (S : HS) (H : Heap) (locs : List Loc) (ls : Array Slot), fn_X9_feed_20 n x1 x2 x3 x4 x5 x6 S = some (rv, Z) → hWd D B cy A true (hMz z) S s.heap H locs → lv_has ls 8 [(0, .ref (B + 0)), (1, .int x1), (2, .int x2), (3, .int x3), (4, .int x4), (5, .int x5), (6, .int x6)] → W p l e ({ frames := 0, cells := 0, slots := 0, locals := 0 } : Room) s m args below meth c H locs 0 0 (MQ below (hQo D B cy A true (hMz z) Z (some (.int rv))) args s 0 0 A) (F0 m 20 ls []) := by
  intro n
  induction n with
  | zero =>
    intro x1 x2 x3 x4 x5 x6 S H locs ls hf
    cases hf
  | succ n ih =>
    intro x1 x2 x3 x4 x5 x6 S H locs ls hf hw hl
    rw [fn_X9_feed_20] at hf
    refine lv_iload X.1 X.2.1 dX9_feed_20 (lv_at hl 6 rfl) ?_
    refine lv_bipush (v := 20) X.1 X.2.1 dX9_feed_22 (by decide) ?_
    refine lv_icmp_ge (tgt := 110) X.1 X.2.1 dX9_feed_24 (by decide) (fun hq => ?_) (fun hq => ?_)
    · replace hf := cd_tk hq hf
      refine lv_aload_n X.1 X.2.1 dX9_feed_110 rfl (lv_at hl 0 rfl) ?_
      refine lv_dup X.1 X.2.1 dX9_feed_111 rfl ?_
      refine r_getI X hw (κ := 10) rfl inlX9 2 (by decide) rfl (by decide) tw_159 (hMk hw.2.2.2.2.2.1 0 rfl) dX9_feed_112 ?_
      refine lv_bipush (v := 20) X.1 X.2.1 dX9_feed_115 (by decide) ?_
      refine lv_iadd X.1 X.2.1 dX9_feed_117 ?_
      obtain ⟨S1, eS1, hf⟩ := bn_ok hf
      replace eS1 := Option.some.inj eS1
      refine r_putI X hw (κ := 10) rfl inlX9 tyX9 tyX9_ok nmX9 2 (by decide) rfl (by decide) tw_159 (Or.inl rfl) (hMk hw.2.2.2.2.2.1 0 rfl) rfl rfl hw.2.2.2.2.2 dX9_feed_118 (fun H locs hw => ?_)
      rw [eS1] at hw
      refine lv_aload_n X.1 X.2.1 dX9_feed_121 rfl (lv_at hl 0 rfl) ?_
      refine r_getI X hw (κ := 10) rfl inlX9 2 (by decide) rfl (by decide) tw_159 (hMk hw.2.2.2.2.2.1 0 rfl) dX9_feed_122 ?_
      cases hf
      exact r_iret X hw dX9_feed_125
    · replace hf := cd_fk hq hf
      refine lv_iload X.1 X.2.1 dX9_feed_27 (lv_at hl 6 rfl) ?_
      refine lv_iconst (v := 4) X.1 X.2.1 dX9_feed_29 (by decide) ?_
      refine lv_icmp_ge (tgt := 37) X.1 X.2.1 dX9_feed_30 (by decide) (fun hq => ?_) (fun hq => ?_)
      · replace hf := cd_tk hq hf
        refine lv_iload X.1 X.2.1 dX9_feed_37 (lv_at hl 6 rfl) ?_
        refine lv_bipush (v := 8) X.1 X.2.1 dX9_feed_39 (by decide) ?_
        refine lv_icmp_ge (tgt := 48) X.1 X.2.1 dX9_feed_41 (by decide) (fun hq => ?_) (fun hq => ?_)
        · replace hf := cd_tk hq hf
          refine lv_iload X.1 X.2.1 dX9_feed_48 (lv_at hl 6 rfl) ?_
          refine lv_bipush (v := 12) X.1 X.2.1 dX9_feed_50 (by decide) ?_
          refine lv_icmp_ge (tgt := 59) X.1 X.2.1 dX9_feed_52 (by decide) (fun hq => ?_) (fun hq => ?_)
          · replace hf := cd_tk hq hf
            refine lv_iload X.1 X.2.1 dX9_feed_59 (lv_at hl 6 rfl) ?_
            refine lv_bipush (v := 16) X.1 X.2.1 dX9_feed_61 (by decide) ?_
            refine lv_icmp_ge (tgt := 71) X.1 X.2.1 dX9_feed_63 (by decide) (fun hq => ?_) (fun hq => ?_)
            · replace hf := cd_tk hq hf
              refine lv_iload X.1 X.2.1 dX9_feed_71 (lv_at hl 5 rfl) ?_
              exact w_X9_feed_73 X (fn_X9_feed_20 n) ih _ _ _ _ _ _ _ _ _ _ _ hf hw (lv_sub hl [0, 1, 2, 3, 4, 5, 6] rfl)
            · replace hf := cd_fk hq hf
              refine lv_iload X.1 X.2.1 dX9_feed_66 (lv_at hl 4 rfl) ?_
              refine lv_goto (tgt := 73) X.1 X.2.1 dX9_feed_68 (by decide) ?_
              exact w_X9_feed_73 X (fn_X9_feed_20 n) ih _ _ _ _ _ _ _ _ _ _ _ hf hw (lv_sub hl [0, 1, 2, 3, 4, 5, 6] rfl)
          · replace hf := cd_fk hq hf
            refine lv_iload_n X.1 X.2.1 dX9_feed_55 rfl (lv_at hl 3 rfl) ?_
            refine lv_goto (tgt := 73) X.1 X.2.1 dX9_feed_56 (by decide) ?_
            exact w_X9_feed_73 X (fn_X9_feed_20 n) ih _ _ _ _ _ _ _ _ _ _ _ hf hw (lv_sub hl [0, 1, 2, 3, 4, 5, 6] rfl)
        · replace hf := cd_fk hq hf
          refine lv_iload_n X.1 X.2.1 dX9_feed_44 rfl (lv_at hl 2 rfl) ?_
          refine lv_goto (tgt := 73) X.1 X.2.1 dX9_feed_45 (by decide) ?_
          exact w_X9_feed_73 X (fn_X9_feed_20 n) ih _ _ _ _ _ _ _ _ _ _ _ hf hw (lv_sub hl [0, 1, 2, 3, 4, 5, 6] rfl)
      · replace hf := cd_fk hq hf
        refine lv_iload_n X.1 X.2.1 dX9_feed_33 rfl (lv_at hl 1 rfl) ?_
        refine lv_goto (tgt := 73) X.1 X.2.1 dX9_feed_34 (by decide) ?_
        exact w_X9_feed_73 X (fn_X9_feed_20 n) ih _ _ _ _ _ _ _ _ _ _ _ hf hw (lv_sub hl [0, 1, 2, 3, 4, 5, 6] rfl)
theorem hd_X9_feed : yX9_feed.cls = RX9 ∧ yX9_feed.cls ≠ "java/lang/invoke/MethodHandle" ∧ yX9_feed.cls ≠ "java/lang/invoke/VarHandle" ∧ (parseMethodDescriptor yX9_feed.desc).map (fun d => d.parameters.length) = some 5 := by decide +kernel
set_option maxHeartbeats 4000000 in
theorem c_X9_feed (l : Launch) (D : va_G) (B : Nat) (cy : Nat → ClassId) (A : Nat → Prop) (ad av : Nat → Nat) {z : Nat} (x1 : Int32) (x2 : Int32) (x3 : Int32) (x4 : Int32) (x5 : Int32) {S Z : HS} {rv : Int32} (hfr : hFr S) (hG : (hMz z) S) (hf : fn_X9_feed x1 x2 x3 x4 x5 S = some (rv, Z)) : hMet l yX9_feed cX9_feed 8 (some .int) ({ frames := 0, cells := 0, slots := 0, locals := 0 } : Room) D B cy A ad av true (hMz z) [.ref (B + 0), .int x1, .int x2, .int x3, .int x4, .int x5] S Z (some (.int rv)) 0 0 := by
  refine h_entry (by decide) hfr hG ?_
  intro p e s m below meth c args X hnm hw
  have hl := lv_entry ([.ref (B + 0), .int x1, .int x2, .int x3, .int x4, .int x5]) (n := 8) (Nat.le_of_ble_eq_true rfl)
  rw [lg_entry_eq]
  generalize (lg_sl ([.ref (B + 0), .int x1, .int x2, .int x3, .int x4, .int x5]) ++ List.replicate (8 - (lg_sl ([.ref (B + 0), .int x1, .int x2, .int x3, .int x4, .int x5])).length) Slot.unset).toArray = ls at hl ⊢
  have hl : lv_has ls 8 [(0, .ref (B + 0)), (1, .int x1), (2, .int x2), (3, .int x3), (4, .int x4), (5, .int x5)] := hl
  unfold fn_X9_feed at hf
  refine lv_aload_n X.1 X.2.1 dX9_feed_0 rfl (lv_at hl 0 rfl) ?_
  refine lv_iconst (v := 0) X.1 X.2.1 dX9_feed_1 (by decide) ?_
  obtain ⟨S1, eS1, hf⟩ := bn_ok hf
  replace eS1 := Option.some.inj eS1
  refine r_putI X hw (κ := 10) rfl inlX9 tyX9 tyX9_ok nmX9 0 (by decide) rfl (by decide) tw_158 (Or.inl rfl) (hMk hw.2.2.2.2.2.1 0 rfl) rfl rfl hw.2.2.2.2.2 dX9_feed_2 (fun H locs hw => ?_)
  rw [eS1] at hw
  refine lv_aload_n X.1 X.2.1 dX9_feed_5 rfl (lv_at hl 0 rfl) ?_
  refine r_getI X hw (κ := 10) rfl inlX9 2 (by decide) rfl (by decide) tw_159 (hMk hw.2.2.2.2.2.1 0 rfl) dX9_feed_6 ?_
  refine lv_sipush (v := 1980) X.1 X.2.1 dX9_feed_9 (by decide) ?_
  refine lv_icmp_le (tgt := 17) X.1 X.2.1 dX9_feed_12 (by decide) (fun hq => ?_) (fun hq => ?_)
  · replace hf := cd_tk hq hf
    refine lv_iconst (v := 0) X.1 X.2.1 dX9_feed_17 (by decide) ?_
    refine lv_istore (lv' := [(6, .int 0), (0, .ref (B + 0)), (1, .int x1), (2, .int x2), (3, .int x3), (4, .int x4), (5, .int x5)]) X.1 X.2.1 dX9_feed_18 hl (by decide) rfl (fun ls hl => ?_)
    exact w_X9_feed_20 X  _ _ _ _ _ _ _ _ _ _ _ hf hw (lv_sub hl [1, 2, 3, 4, 5, 6, 0] rfl)
  · replace hf := cd_fk hq hf
    refine lv_iconst (v := (-1)) X.1 X.2.1 dX9_feed_15 (by decide) ?_
    cases hf
    exact r_iret X hw dX9_feed_16
theorem hd_X9_wrong : yX9_wrong.cls = RX9 ∧ yX9_wrong.cls ≠ "java/lang/invoke/MethodHandle" ∧ yX9_wrong.cls ≠ "java/lang/invoke/VarHandle" ∧ (parseMethodDescriptor yX9_wrong.desc).map (fun d => d.parameters.length) = some 2 := by decide +kernel
set_option maxHeartbeats 4000000 in
theorem c_X9_wrong (l : Launch) (D : va_G) (B : Nat) (cy : Nat → ClassId) (A : Nat → Prop) (ad av : Nat → Nat) {z : Nat} (x1 : Int32) (x2 : Int32) {S Z : HS} (hfr : hFr S) (hG : (hMz z) S) (hf : fn_X9_wrong x1 x2 S = some Z) : hMet l yX9_wrong cX9_wrong 3 none ({ frames := 0, cells := 0, slots := 0, locals := 0 } : Room) D B cy A ad av true (hMz z) [.ref (B + 0), .int x1, .int x2] S Z none 0 0 := by
  refine h_entry (by decide) hfr hG ?_
  intro p e s m below meth c args X hnm hw
  have hl := lv_entry ([.ref (B + 0), .int x1, .int x2]) (n := 3) (Nat.le_of_ble_eq_true rfl)
  rw [lg_entry_eq]
  generalize (lg_sl ([.ref (B + 0), .int x1, .int x2]) ++ List.replicate (3 - (lg_sl ([.ref (B + 0), .int x1, .int x2])).length) Slot.unset).toArray = ls at hl ⊢
  have hl : lv_has ls 3 [(0, .ref (B + 0)), (1, .int x1), (2, .int x2)] := hl
  unfold fn_X9_wrong at hf
  refine lv_aload_n X.1 X.2.1 dX9_wrong_0 rfl (lv_at hl 0 rfl) ?_
  refine r_getI X hw (κ := 10) rfl inlX9 22 (by decide) rfl (by decide) tw_447 (hMk hw.2.2.2.2.2.1 0 rfl) dX9_wrong_1 ?_
  refine lv_if_eq (tgt := 8) X.1 X.2.1 dX9_wrong_4 (by decide) (fun hq => ?_) (fun hq => ?_)
  · replace hf := cd_tk hq hf
    refine lv_aload_n X.1 X.2.1 dX9_wrong_8 rfl (lv_at hl 0 rfl) ?_
    refine lv_iload_n X.1 X.2.1 dX9_wrong_9 rfl (lv_at hl 1 rfl) ?_
    obtain ⟨S1, eS1, hf⟩ := bn_ok hf
    replace eS1 := Option.some.inj eS1
    refine r_putI X hw (κ := 10) rfl inlX9 tyX9 tyX9_ok nmX9 22 (by decide) rfl (by decide) tw_447 (Or.inl rfl) (hMk hw.2.2.2.2.2.1 0 rfl) rfl rfl hw.2.2.2.2.2 dX9_wrong_10 (fun H locs hw => ?_)
    rw [eS1] at hw
    refine lv_aload_n X.1 X.2.1 dX9_wrong_13 rfl (lv_at hl 0 rfl) ?_
    refine lv_iload_n X.1 X.2.1 dX9_wrong_14 rfl (lv_at hl 2 rfl) ?_
    obtain ⟨S2, eS2, hf⟩ := bn_ok hf
    replace eS2 := Option.some.inj eS2
    refine r_putI X hw (κ := 10) rfl inlX9 tyX9 tyX9_ok nmX9 23 (by decide) rfl (by decide) tw_449 (Or.inl rfl) (hMk hw.2.2.2.2.2.1 0 rfl) rfl rfl hw.2.2.2.2.2 dX9_wrong_15 (fun H locs hw => ?_)
    rw [eS2] at hw
    cases hf
    exact r_vret X hw dX9_wrong_18
  · replace hf := cd_fk hq hf
    cases hf
    exact r_vret X hw dX9_wrong_7
set_option maxHeartbeats 4000000 in
theorem w_X9_isSign_28 {p : Program} {l : Launch} {e : Env} {s : State} {m : MethodId} {args : Array Value} {below : List Frame} {meth : Method} {c : Code} {D : va_G} {B : Nat} {cy : Nat → ClassId} {A : Nat → Prop} {ad av : Nat → Nat} {rv : Int32} {Z : HS} (X : hCX p s m args meth c RX9 cX9_isSign 2 (some .boolean) D cy A ad av) {z : Nat}  (y0 : Int32) (S : HS) (H : Heap) (locs : List Loc) (ls : Array Slot) (hf : fn_X9_isSign_28 y0 S = some (rv, Z)) (hw : hWd D B cy A true (hMz z) S s.heap H locs) (hl : lv_has ls 2 []) : W p l e ({ frames := 0, cells := 0, slots := 0, locals := 0 } : Room) s m args below meth c H locs 0 0 (MQ below (hQo D B cy A true (hMz z) Z (some (.int rv))) args s 0 0 A) (F0 m 28 ls [.int y0]) := by
  unfold fn_X9_isSign_28 at hf
  obtain ⟨g1, hf⟩ := gd_ok hf
  cases hf
  exact r_zret X hw g1 dX9_isSign_28
set_option maxHeartbeats 4000000 in
theorem w_X9_isSign_27 {p : Program} {l : Launch} {e : Env} {s : State} {m : MethodId} {args : Array Value} {below : List Frame} {meth : Method} {c : Code} {D : va_G} {B : Nat} {cy : Nat → ClassId} {A : Nat → Prop} {ad av : Nat → Nat} {rv : Int32} {Z : HS} (X : hCX p s m args meth c RX9 cX9_isSign 2 (some .boolean) D cy A ad av) {z : Nat}   (S : HS) (H : Heap) (locs : List Loc) (ls : Array Slot) (hf : fn_X9_isSign_27 S = some (rv, Z)) (hw : hWd D B cy A true (hMz z) S s.heap H locs) (hl : lv_has ls 2 []) : W p l e ({ frames := 0, cells := 0, slots := 0, locals := 0 } : Room) s m args below meth c H locs 0 0 (MQ below (hQo D B cy A true (hMz z) Z (some (.int rv))) args s 0 0 A) (F0 m 27 ls []) := by
  unfold fn_X9_isSign_27 at hf
  refine lv_iconst (v := 0) X.1 X.2.1 dX9_isSign_27 (by decide) ?_
  exact w_X9_isSign_28 X  _ _ _ _ _ hf hw (lv_sub hl [] rfl)
theorem hd_X9_isSign : yX9_isSign.cls = RX9 ∧ yX9_isSign.cls ≠ "java/lang/invoke/MethodHandle" ∧ yX9_isSign.cls ≠ "java/lang/invoke/VarHandle" ∧ (parseMethodDescriptor yX9_isSign.desc).map (fun d => d.parameters.length) = some 1 := by decide +kernel
set_option maxHeartbeats 4000000 in
theorem c_X9_isSign (l : Launch) (D : va_G) (B : Nat) (cy : Nat → ClassId) (A : Nat → Prop) (ad av : Nat → Nat) {z : Nat} (x1 : Int32) {S Z : HS} {rv : Int32} (hfr : hFr S) (hG : (hMz z) S) (hf : fn_X9_isSign x1 S = some (rv, Z)) : hMet l yX9_isSign cX9_isSign 2 (some .boolean) ({ frames := 0, cells := 0, slots := 0, locals := 0 } : Room) D B cy A ad av true (hMz z) [.ref (B + 0), .int x1] S Z (some (.int rv)) 0 0 := by
  refine h_entry (by decide) hfr hG ?_
  intro p e s m below meth c args X hnm hw
  have hl := lv_entry ([.ref (B + 0), .int x1]) (n := 2) (Nat.le_of_ble_eq_true rfl)
  rw [lg_entry_eq]
  generalize (lg_sl ([.ref (B + 0), .int x1]) ++ List.replicate (2 - (lg_sl ([.ref (B + 0), .int x1])).length) Slot.unset).toArray = ls at hl ⊢
  have hl : lv_has ls 2 [(0, .ref (B + 0)), (1, .int x1)] := hl
  unfold fn_X9_isSign at hf
  refine lv_aload_n X.1 X.2.1 dX9_isSign_0 rfl (lv_at hl 0 rfl) ?_
  refine r_getI X hw (κ := 10) rfl inlX9 22 (by decide) rfl (by decide) tw_447 (hMk hw.2.2.2.2.2.1 0 rfl) dX9_isSign_1 ?_
  refine lv_if_ne (tgt := 27) X.1 X.2.1 dX9_isSign_4 (by decide) (fun hq => ?_) (fun hq => ?_)
  · replace hf := cd_fk hq hf
    exact w_X9_isSign_27 X  _ _ _ _ hf hw (lv_sub hl [] rfl)
  · replace hf := cd_tk hq hf
    refine lv_aload_n X.1 X.2.1 dX9_isSign_7 rfl (lv_at hl 0 rfl) ?_
    refine r_getI X hw (κ := 10) rfl inlX9 20 (by decide) rfl (by decide) tw_457 (hMk hw.2.2.2.2.2.1 0 rfl) dX9_isSign_8 ?_
    refine lv_iconst (v := 4) X.1 X.2.1 dX9_isSign_11 (by decide) ?_
    refine lv_icmp_ne (tgt := 27) X.1 X.2.1 dX9_isSign_12 (by decide) (fun hq => ?_) (fun hq => ?_)
    · replace hf := cd_fk hq hf
      exact w_X9_isSign_27 X  _ _ _ _ hf hw (lv_sub hl [] rfl)
    · replace hf := cd_tk hq hf
      refine lv_aload_n X.1 X.2.1 dX9_isSign_15 rfl (lv_at hl 0 rfl) ?_
      refine r_getI X hw (κ := 10) rfl inlX9 21 (by decide) rfl (by decide) tw_463 (hMk hw.2.2.2.2.2.1 0 rfl) dX9_isSign_16 ?_
      refine lv_iload_n X.1 X.2.1 dX9_isSign_19 rfl (lv_at hl 1 rfl) ?_
      refine lv_icmp_ne (tgt := 27) X.1 X.2.1 dX9_isSign_20 (by decide) (fun hq => ?_) (fun hq => ?_)
      · replace hf := cd_fk hq hf
        exact w_X9_isSign_27 X  _ _ _ _ hf hw (lv_sub hl [] rfl)
      · replace hf := cd_tk hq hf
        refine lv_iconst (v := 1) X.1 X.2.1 dX9_isSign_23 (by decide) ?_
        refine lv_goto (tgt := 28) X.1 X.2.1 dX9_isSign_24 (by decide) ?_
        exact w_X9_isSign_28 X  _ _ _ _ _ hf hw (lv_sub hl [] rfl)
set_option maxHeartbeats 4000000 in
theorem w_X9_word_179 {p : Program} {l : Launch} {e : Env} {s : State} {m : MethodId} {args : Array Value} {below : List Frame} {meth : Method} {c : Code} {D : va_G} {B : Nat} {cy : Nat → ClassId} {A : Nat → Prop} {ad av : Nat → Nat} {Z : HS} (X : hCX p s m args meth c RX9 cX9_word 5 none D cy A ad av) {z : Nat} (k71 : Int32 → Int32 → HS → Option HS) (hk71 : ∀ (x2 : Int32) (x3 : Int32) (S : HS) (H : Heap) (locs : List Loc) (ls : Array Slot), k71 x2 x3 S = some Z → hWd D B cy A true (hMz z) S s.heap H locs → lv_has ls 5 [(0, .ref (B + 0)), (2, .int x2), (3, .int x3)] → W p l e ({ frames := 4, cells := 0, slots := 0, locals := 85 } : Room) s m args below meth c H locs 0 0 (MQ below (hQo D B cy A true (hMz z) Z none) args s 0 0 A) (F0 m 71 ls [])) : ∀ (n : Nat) (x2 : Int32) (x3 : Int32) (S : HS) (H : Heap) (locs : List Loc) (ls : Array Slot), fn_X9_word_179 k71 n x2 x3 S = some Z → hWd D B cy A true (hMz z) S s.heap H locs → lv_has ls 5 [(0, .ref (B + 0)), (2, .int x2), (3, .int x3)] → W p l e ({ frames := 4, cells := 0, slots := 0, locals := 85 } : Room) s m args below meth c H locs 0 0 (MQ below (hQo D B cy A true (hMz z) Z none) args s 0 0 A) (F0 m 179 ls []) := by
  intro n
  induction n with
  | zero =>
    intro x2 x3 S H locs ls hf
    cases hf
  | succ n ih =>
    intro x2 x3 S H locs ls hf hw hl
    rw [fn_X9_word_179] at hf
    refine va_ldcS (q := ad 8) X.1 X.2.1 X.2.2.2.1 (X.2.2.2.2.2.2.1.2.1 8 (by decide)) dX9_word_179 ?_
    refine lv_iload_n X.1 X.2.1 dX9_word_181 rfl (lv_at hl 2 rfl) ?_
    obtain ⟨g1, hf⟩ := gd_ok hf
    refine r_strchar X hw 8 (by decide) g1 hl.1 tw_476 (Nat.le_of_ble_eq_true rfl) (Nat.le_of_ble_eq_true rfl) (Nat.le_of_ble_eq_true rfl) ⟨Nat.le_of_ble_eq_true rfl, Nat.le_of_ble_eq_true rfl⟩ dX9_word_182 (fun H locs hw => ?_)
    refine lv_bipush (v := 32) X.1 X.2.1 dX9_word_185 (by decide) ?_
    refine lv_icmp_eq (tgt := 196) X.1 X.2.1 dX9_word_187 (by decide) (fun hq => ?_) (fun hq => ?_)
    · replace hf := cd_tk hq hf
      obtain ⟨v2, ev2, hf⟩ := bn_ok hf
      replace ev2 := Option.some.inj ev2
      refine lv_iinc (v := v2) (lv' := [(3, .int v2), (0, .ref (B + 0)), (2, .int x2)]) X.1 X.2.1 dX9_word_196 hl (k := 2) rfl ev2 (by decide) rfl (fun ls hl => ?_)
      obtain ⟨v3, ev3, hf⟩ := bn_ok hf
      replace ev3 := Option.some.inj ev3
      refine lv_iinc (v := v3) (lv' := [(2, .int v3), (3, .int v2), (0, .ref (B + 0))]) X.1 X.2.1 dX9_word_199 hl (k := 2) rfl ev3 (by decide) rfl (fun ls hl => ?_)
      refine lv_goto (tgt := 71) X.1 X.2.1 dX9_word_202 (by decide) ?_
      exact hk71 _ _ _ _ _ _ hf hw (lv_sub hl [2, 0, 1] rfl)
    · replace hf := cd_fk hq hf
      obtain ⟨v4, ev4, hf⟩ := bn_ok hf
      replace ev4 := Option.some.inj ev4
      refine lv_iinc (v := v4) (lv' := [(3, .int v4), (0, .ref (B + 0)), (2, .int x2)]) X.1 X.2.1 dX9_word_190 hl (k := 2) rfl ev4 (by decide) rfl (fun ls hl => ?_)
      refine lv_goto (tgt := 179) X.1 X.2.1 dX9_word_193 (by decide) ?_
      exact ih _ _ _ _ _ _ hf hw (lv_sub hl [1, 2, 0] rfl)
set_option maxHeartbeats 4000000 in
theorem w_X9_word_141 {p : Program} {l : Launch} {e : Env} {s : State} {m : MethodId} {args : Array Value} {below : List Frame} {meth : Method} {c : Code} {D : va_G} {B : Nat} {cy : Nat → ClassId} {A : Nat → Prop} {ad av : Nat → Nat} {Z : HS} (X : hCX p s m args meth c RX9 cX9_word 5 none D cy A ad av) {z : Nat} (k71 : Int32 → Int32 → HS → Option HS) (hk71 : ∀ (x2 : Int32) (x3 : Int32) (S : HS) (H : Heap) (locs : List Loc) (ls : Array Slot), k71 x2 x3 S = some Z → hWd D B cy A true (hMz z) S s.heap H locs → lv_has ls 5 [(0, .ref (B + 0)), (2, .int x2), (3, .int x3)] → W p l e ({ frames := 4, cells := 0, slots := 0, locals := 85 } : Room) s m args below meth c H locs 0 0 (MQ below (hQo D B cy A true (hMz z) Z none) args s 0 0 A) (F0 m 71 ls [])) (x2 : Int32) (x3 : Int32) (x4 : Int32) (S : HS) (H : Heap) (locs : List Loc) (ls : Array Slot) (hf : fn_X9_word_141 k71 x2 x3 x4 S = some Z) (hw : hWd D B cy A true (hMz z) S s.heap H locs) (hl : lv_has ls 5 [(0, .ref (B + 0)), (2, .int x2), (3, .int x3), (4, .int x4)]) : W p l e ({ frames := 4, cells := 0, slots := 0, locals := 85 } : Room) s m args below meth c H locs 0 0 (MQ below (hQo D B cy A true (hMz z) Z none) args s 0 0 A) (F0 m 141 ls []) := by
  unfold fn_X9_word_141 at hf
  refine va_ldcS (q := ad 8) X.1 X.2.1 X.2.2.2.1 (X.2.2.2.2.2.2.1.2.1 8 (by decide)) dX9_word_141 ?_
  refine lv_iload_n X.1 X.2.1 dX9_word_143 rfl (lv_at hl 2 rfl) ?_
  refine lv_iload X.1 X.2.1 dX9_word_144 (lv_at hl 3 rfl) ?_
  refine lv_iadd X.1 X.2.1 dX9_word_146 ?_
  obtain ⟨g1, hf⟩ := gd_ok hf
  refine r_strchar X hw 8 (by decide) g1 hl.1 tw_476 (Nat.le_of_ble_eq_true rfl) (Nat.le_of_ble_eq_true rfl) (Nat.le_of_ble_eq_true rfl) ⟨Nat.le_of_ble_eq_true rfl, Nat.le_of_ble_eq_true rfl⟩ dX9_word_147 (fun H locs hw => ?_)
  refine lv_bipush (v := 32) X.1 X.2.1 dX9_word_150 (by decide) ?_
  refine lv_icmp_ne (tgt := 179) X.1 X.2.1 dX9_word_152 (by decide) (fun hq => ?_) (fun hq => ?_)
  · replace hf := cd_fk hq hf
    exact w_X9_word_179 X k71 hk71 _ _ _ _ _ _ _ hf hw (lv_sub hl [0, 1, 2] rfl)
  · replace hf := cd_tk hq hf
    refine lv_aload_n X.1 X.2.1 dX9_word_155 rfl (lv_at hl 0 rfl) ?_
    refine r_getI X hw (κ := 10) rfl inlX9 19 (by decide) rfl (by decide) tw_462 (hMk hw.2.2.2.2.2.1 0 rfl) dX9_word_156 ?_
    refine lv_iload X.1 X.2.1 dX9_word_159 (lv_at hl 3 rfl) ?_
    refine lv_iadd X.1 X.2.1 dX9_word_161 ?_
    refine lv_aload_n X.1 X.2.1 dX9_word_162 rfl (lv_at hl 0 rfl) ?_
    refine r_getI X hw (κ := 10) rfl inlX9 18 (by decide) rfl (by decide) tw_456 (hMk hw.2.2.2.2.2.1 0 rfl) dX9_word_163 ?_
    refine lv_icmp_ne (tgt := 179) X.1 X.2.1 dX9_word_166 (by decide) (fun hq => ?_) (fun hq => ?_)
    · replace hf := cd_fk hq hf
      exact w_X9_word_179 X k71 hk71 _ _ _ _ _ _ _ hf hw (lv_sub hl [0, 1, 2] rfl)
    · replace hf := cd_tk hq hf
      refine lv_aload_n X.1 X.2.1 dX9_word_169 rfl (lv_at hl 0 rfl) ?_
      refine lv_iconst (v := 0) X.1 X.2.1 dX9_word_170 (by decide) ?_
      obtain ⟨S2, eS2, hf⟩ := bn_ok hf
      replace eS2 := Option.some.inj eS2
      refine r_putI X hw (κ := 10) rfl inlX9 tyX9 tyX9_ok nmX9 20 (by decide) rfl (by decide) tw_457 (Or.inl rfl) (hMk hw.2.2.2.2.2.1 0 rfl) rfl rfl hw.2.2.2.2.2 dX9_word_171 (fun H locs hw => ?_)
      rw [eS2] at hw
      refine lv_aload_n X.1 X.2.1 dX9_word_174 rfl (lv_at hl 0 rfl) ?_
      refine lv_iload_n X.1 X.2.1 dX9_word_175 rfl (lv_at hl 1 rfl) ?_
      obtain ⟨S3, eS3, hf⟩ := bn_ok hf
      replace eS3 := Option.some.inj eS3
      refine r_putI X hw (κ := 10) rfl inlX9 tyX9 tyX9_ok nmX9 21 (by decide) rfl (by decide) tw_463 (Or.inl rfl) (hMk hw.2.2.2.2.2.1 0 rfl) rfl rfl hw.2.2.2.2.2 dX9_word_176 (fun H locs hw => ?_)
      rw [eS3] at hw
      exact w_X9_word_179 X k71 hk71 _ _ _ _ _ _ _ hf hw (lv_sub hl [0, 1, 2] rfl)
set_option maxHeartbeats 4000000 in
theorem w_X9_word_83 {p : Program} {l : Launch} {e : Env} {s : State} {m : MethodId} {args : Array Value} {below : List Frame} {meth : Method} {c : Code} {D : va_G} {B : Nat} {cy : Nat → ClassId} {A : Nat → Prop} {ad av : Nat → Nat} {Z : HS} (X : hCX p s m args meth c RX9 cX9_word 5 none D cy A ad av) {z : Nat} (k71 : Int32 → Int32 → HS → Option HS) (hk71 : ∀ (x2 : Int32) (x3 : Int32) (S : HS) (H : Heap) (locs : List Loc) (ls : Array Slot), k71 x2 x3 S = some Z → hWd D B cy A true (hMz z) S s.heap H locs → lv_has ls 5 [(0, .ref (B + 0)), (2, .int x2), (3, .int x3)] → W p l e ({ frames := 4, cells := 0, slots := 0, locals := 85 } : Room) s m args below meth c H locs 0 0 (MQ below (hQo D B cy A true (hMz z) Z none) args s 0 0 A) (F0 m 71 ls [])) : ∀ (n : Nat) (x2 : Int32) (x3 : Int32) (x4 : Int32) (S : HS) (H : Heap) (locs : List Loc) (ls : Array Slot), fn_X9_word_83 k71 n x2 x3 x4 S = some Z → hWd D B cy A true (hMz z) S s.heap H locs → lv_has ls 5 [(0, .ref (B + 0)), (2, .int x2), (3, .int x3), (4, .int x4)] → W p l e ({ frames := 4, cells := 0, slots := 0, locals := 85 } : Room) s m args below meth c H locs 0 0 (MQ below (hQo D B cy A true (hMz z) Z none) args s 0 0 A) (F0 m 83 ls []) := by
  intro n
  induction n with
  | zero =>
    intro x2 x3 x4 S H locs ls hf
    cases hf
  | succ n ih =>
    intro x2 x3 x4 S H locs ls hf hw hl
    rw [fn_X9_word_83] at hf
    refine va_ldcS (q := ad 8) X.1 X.2.1 X.2.2.2.1 (X.2.2.2.2.2.2.1.2.1 8 (by decide)) dX9_word_83 ?_
    refine lv_iload_n X.1 X.2.1 dX9_word_85 rfl (lv_at hl 2 rfl) ?_
    refine lv_iload X.1 X.2.1 dX9_word_86 (lv_at hl 3 rfl) ?_
    refine lv_iadd X.1 X.2.1 dX9_word_88 ?_
    obtain ⟨g1, hf⟩ := gd_ok hf
    refine r_strchar X hw 8 (by decide) g1 hl.1 tw_476 (Nat.le_of_ble_eq_true rfl) (Nat.le_of_ble_eq_true rfl) (Nat.le_of_ble_eq_true rfl) ⟨Nat.le_of_ble_eq_true rfl, Nat.le_of_ble_eq_true rfl⟩ dX9_word_89 (fun H locs hw => ?_)
    refine lv_bipush (v := 32) X.1 X.2.1 dX9_word_92 (by decide) ?_
    refine lv_icmp_eq (tgt := 141) X.1 X.2.1 dX9_word_94 (by decide) (fun hq => ?_) (fun hq => ?_)
    · replace hf := cd_tk hq hf
      exact w_X9_word_141 X k71 hk71 _ _ _ _ _ _ _ hf hw (lv_sub hl [0, 1, 2, 3] rfl)
    · replace hf := cd_fk hq hf
      refine lv_aload_n X.1 X.2.1 dX9_word_97 rfl (lv_at hl 0 rfl) ?_
      refine r_getI X hw (κ := 10) rfl inlX9 19 (by decide) rfl (by decide) tw_462 (hMk hw.2.2.2.2.2.1 0 rfl) dX9_word_98 ?_
      refine lv_iload X.1 X.2.1 dX9_word_101 (lv_at hl 3 rfl) ?_
      refine lv_iadd X.1 X.2.1 dX9_word_103 ?_
      refine lv_aload_n X.1 X.2.1 dX9_word_104 rfl (lv_at hl 0 rfl) ?_
      refine r_getI X hw (κ := 10) rfl inlX9 18 (by decide) rfl (by decide) tw_456 (hMk hw.2.2.2.2.2.1 0 rfl) dX9_word_105 ?_
      refine lv_icmp_ge (tgt := 141) X.1 X.2.1 dX9_word_108 (by decide) (fun hq => ?_) (fun hq => ?_)
      · replace hf := cd_tk hq hf
        exact w_X9_word_141 X k71 hk71 _ _ _ _ _ _ _ hf hw (lv_sub hl [0, 1, 2, 3] rfl)
      · replace hf := cd_fk hq hf
        refine lv_aload_n X.1 X.2.1 dX9_word_111 rfl (lv_at hl 0 rfl) ?_
        refine r_getF X hw (κ := 10) rfl inlX9 1 (by decide) rfl (by decide) tw_104 (hMk hw.2.2.2.2.2.1 0 rfl) (hMr hw.2.2.2.2.2.1 0 1 rfl) dX9_word_112 ?_
        refine lv_aload_n X.1 X.2.1 dX9_word_115 rfl (lv_at hl 0 rfl) ?_
        refine r_getI X hw (κ := 10) rfl inlX9 19 (by decide) rfl (by decide) tw_462 (hMk hw.2.2.2.2.2.1 0 rfl) dX9_word_116 ?_
        refine lv_iload X.1 X.2.1 dX9_word_119 (lv_at hl 3 rfl) ?_
        refine lv_iadd X.1 X.2.1 dX9_word_121 ?_
        obtain ⟨g2, hf⟩ := gd_ok hf
        refine r_iald X hw (hMk hw.2.2.2.2.2.1 1 rfl) (hMn hw.2.2.2.2.2.1 1 rfl) g2 dX9_word_122 ?_
        refine va_ldcS (q := ad 8) X.1 X.2.1 X.2.2.2.1 (X.2.2.2.2.2.2.1.2.1 8 (by decide)) dX9_word_123 ?_
        refine lv_iload_n X.1 X.2.1 dX9_word_125 rfl (lv_at hl 2 rfl) ?_
        refine lv_iload X.1 X.2.1 dX9_word_126 (lv_at hl 3 rfl) ?_
        refine lv_iadd X.1 X.2.1 dX9_word_128 ?_
        obtain ⟨g3, hf⟩ := gd_ok hf
        refine r_strchar X hw 8 (by decide) g3 hl.1 tw_476 (Nat.le_of_ble_eq_true rfl) (Nat.le_of_ble_eq_true rfl) (Nat.le_of_ble_eq_true rfl) ⟨Nat.le_of_ble_eq_true rfl, Nat.le_of_ble_eq_true rfl⟩ dX9_word_129 (fun H locs hw => ?_)
        refine lv_icmp_ne (tgt := 141) X.1 X.2.1 dX9_word_132 (by decide) (fun hq => ?_) (fun hq => ?_)
        · replace hf := cd_fk hq hf
          exact w_X9_word_141 X k71 hk71 _ _ _ _ _ _ _ hf hw (lv_sub hl [0, 1, 2, 3] rfl)
        · replace hf := cd_tk hq hf
          obtain ⟨v4, ev4, hf⟩ := bn_ok hf
          replace ev4 := Option.some.inj ev4
          refine lv_iinc (v := v4) (lv' := [(4, .int v4), (0, .ref (B + 0)), (2, .int x2), (3, .int x3)]) X.1 X.2.1 dX9_word_135 hl (k := 3) rfl ev4 (by decide) rfl (fun ls hl => ?_)
          refine lv_goto (tgt := 83) X.1 X.2.1 dX9_word_138 (by decide) ?_
          exact ih _ _ _ _ _ _ _ hf hw (lv_sub hl [1, 2, 3, 0] rfl)
set_option maxHeartbeats 4000000 in
theorem w_X9_word_71 {p : Program} {l : Launch} {e : Env} {s : State} {m : MethodId} {args : Array Value} {below : List Frame} {meth : Method} {c : Code} {D : va_G} {B : Nat} {cy : Nat → ClassId} {A : Nat → Prop} {ad av : Nat → Nat} {Z : HS} (X : hCX p s m args meth c RX9 cX9_word 5 none D cy A ad av) {z : Nat}  : ∀ (n : Nat) (x2 : Int32) (x3 : Int32) (S : HS) (H : Heap) (locs : List Loc) (ls : Array Slot), fn_X9_word_71 n x2 x3 S = some Z → hWd D B cy A true (hMz z) S s.heap H locs → lv_has ls 5 [(0, .ref (B + 0)), (2, .int x2), (3, .int x3)] → W p l e ({ frames := 4, cells := 0, slots := 0, locals := 85 } : Room) s m args below meth c H locs 0 0 (MQ below (hQo D B cy A true (hMz z) Z none) args s 0 0 A) (F0 m 71 ls []) := by
  intro n
  induction n with
  | zero =>
    intro x2 x3 S H locs ls hf
    cases hf
  | succ n ih =>
    intro x2 x3 S H locs ls hf hw hl
    rw [fn_X9_word_71] at hf
    refine lv_iload_n X.1 X.2.1 dX9_word_71 rfl (lv_at hl 2 rfl) ?_
    refine va_ldcS (q := ad 8) X.1 X.2.1 X.2.2.2.1 (X.2.2.2.2.2.2.1.2.1 8 (by decide)) dX9_word_72 ?_
    refine r_strlen X hw 8 (by decide) hl.1 tw_475 (Nat.le_of_ble_eq_true rfl) (Nat.le_of_ble_eq_true rfl) (Nat.le_of_ble_eq_true rfl) ⟨Nat.le_of_ble_eq_true rfl, Nat.le_of_ble_eq_true rfl⟩ dX9_word_74 (fun H locs hw => ?_)
    refine lv_icmp_ge (tgt := 205) X.1 X.2.1 dX9_word_77 (by decide) (fun hq => ?_) (fun hq => ?_)
    · replace hf := cd_tk hq hf
      cases hf
      exact r_vret X hw dX9_word_205
    · replace hf := cd_fk hq hf
      refine lv_iconst (v := 0) X.1 X.2.1 dX9_word_80 (by decide) ?_
      refine lv_istore (lv' := [(4, .int 0), (0, .ref (B + 0)), (2, .int x2), (3, .int x3)]) X.1 X.2.1 dX9_word_81 hl (by decide) rfl (fun ls hl => ?_)
      exact w_X9_word_83 X (fn_X9_word_71 n) ih _ _ _ _ _ _ _ _ hf hw (lv_sub hl [1, 2, 3, 0] rfl)
set_option maxHeartbeats 4000000 in
theorem w_X9_word_57 {p : Program} {l : Launch} {e : Env} {s : State} {m : MethodId} {args : Array Value} {below : List Frame} {meth : Method} {c : Code} {D : va_G} {B : Nat} {cy : Nat → ClassId} {A : Nat → Prop} {ad av : Nat → Nat} {Z : HS} (X : hCX p s m args meth c RX9 cX9_word 5 none D cy A ad av) {z : Nat}  (y0 : Int32) (S : HS) (H : Heap) (locs : List Loc) (ls : Array Slot) (hf : fn_X9_word_57 y0 S = some Z) (hw : hWd D B cy A true (hMz z) S s.heap H locs) (hl : lv_has ls 5 []) : W p l e ({ frames := 4, cells := 0, slots := 0, locals := 85 } : Room) s m args below meth c H locs 0 0 (MQ below (hQo D B cy A true (hMz z) Z none) args s 0 0 A) (F0 m 57 ls [.int y0, .ref (B + 0)]) := by
  unfold fn_X9_word_57 at hf
  obtain ⟨S1, eS1, hf⟩ := bn_ok hf
  replace eS1 := Option.some.inj eS1
  refine r_putI X hw (κ := 10) rfl inlX9 tyX9 tyX9_ok nmX9 21 (by decide) rfl (by decide) tw_463 (Or.inl rfl) (hMk hw.2.2.2.2.2.1 0 rfl) rfl rfl hw.2.2.2.2.2 dX9_word_57 (fun H locs hw => ?_)
  rw [eS1] at hw
  cases hf
  exact r_vret X hw dX9_word_60
set_option maxHeartbeats 4000000 in
theorem w_X9_word_36 {p : Program} {l : Launch} {e : Env} {s : State} {m : MethodId} {args : Array Value} {below : List Frame} {meth : Method} {c : Code} {D : va_G} {B : Nat} {cy : Nat → ClassId} {A : Nat → Prop} {ad av : Nat → Nat} {Z : HS} (X : hCX p s m args meth c RX9 cX9_word 5 none D cy A ad av) {z : Nat}  (x1 : Int32) (y0 : Int32) (S : HS) (H : Heap) (locs : List Loc) (ls : Array Slot) (hf : fn_X9_word_36 x1 y0 S = some Z) (hw : hWd D B cy A true (hMz z) S s.heap H locs) (hl : lv_has ls 5 [(0, .ref (B + 0)), (1, .int x1)]) : W p l e ({ frames := 4, cells := 0, slots := 0, locals := 85 } : Room) s m args below meth c H locs 0 0 (MQ below (hQo D B cy A true (hMz z) Z none) args s 0 0 A) (F0 m 36 ls [.int y0, .ref (B + 0)]) := by
  unfold fn_X9_word_36 at hf
  obtain ⟨S1, eS1, hf⟩ := bn_ok hf
  replace eS1 := Option.some.inj eS1
  refine r_putI X hw (κ := 10) rfl inlX9 tyX9 tyX9_ok nmX9 20 (by decide) rfl (by decide) tw_457 (Or.inl rfl) (hMk hw.2.2.2.2.2.1 0 rfl) rfl rfl hw.2.2.2.2.2 dX9_word_36 (fun H locs hw => ?_)
  rw [eS1] at hw
  refine lv_aload_n X.1 X.2.1 dX9_word_39 rfl (lv_at hl 0 rfl) ?_
  refine lv_iload_n X.1 X.2.1 dX9_word_40 rfl (lv_at hl 1 rfl) ?_
  refine lv_bipush (v := 97) X.1 X.2.1 dX9_word_41 (by decide) ?_
  refine lv_icmp_lt (tgt := 53) X.1 X.2.1 dX9_word_43 (by decide) (fun hq => ?_) (fun hq => ?_)
  · replace hf := cd_tk hq hf
    refine lv_iload_n X.1 X.2.1 dX9_word_53 rfl (lv_at hl 1 rfl) ?_
    refine lv_bipush (v := 65) X.1 X.2.1 dX9_word_54 (by decide) ?_
    refine lv_isub X.1 X.2.1 dX9_word_56 ?_
    exact w_X9_word_57 X  _ _ _ _ _ hf hw (lv_sub hl [] rfl)
  · replace hf := cd_fk hq hf
    refine lv_iload_n X.1 X.2.1 dX9_word_46 rfl (lv_at hl 1 rfl) ?_
    refine lv_bipush (v := 97) X.1 X.2.1 dX9_word_47 (by decide) ?_
    refine lv_isub X.1 X.2.1 dX9_word_49 ?_
    refine lv_goto (tgt := 57) X.1 X.2.1 dX9_word_50 (by decide) ?_
    exact w_X9_word_57 X  _ _ _ _ _ hf hw (lv_sub hl [] rfl)
theorem hd_X9_word : yX9_word.cls = RX9 ∧ yX9_word.cls ≠ "java/lang/invoke/MethodHandle" ∧ yX9_word.cls ≠ "java/lang/invoke/VarHandle" ∧ (parseMethodDescriptor yX9_word.desc).map (fun d => d.parameters.length) = some 1 := by decide +kernel
set_option maxHeartbeats 4000000 in
theorem c_X9_word (l : Launch) (D : va_G) (B : Nat) (cy : Nat → ClassId) (A : Nat → Prop) (ad av : Nat → Nat) {z : Nat} (x1 : Int32) {S Z : HS} (hfr : hFr S) (hG : (hMz z) S) (hf : fn_X9_word x1 S = some Z) : hMet l yX9_word cX9_word 5 none ({ frames := 4, cells := 0, slots := 0, locals := 85 } : Room) D B cy A ad av true (hMz z) [.ref (B + 0), .int x1] S Z none 0 0 := by
  refine h_entry (by decide) hfr hG ?_
  intro p e s m below meth c args X hnm hw
  have hl := lv_entry ([.ref (B + 0), .int x1]) (n := 5) (Nat.le_of_ble_eq_true rfl)
  rw [lg_entry_eq]
  generalize (lg_sl ([.ref (B + 0), .int x1]) ++ List.replicate (5 - (lg_sl ([.ref (B + 0), .int x1])).length) Slot.unset).toArray = ls at hl ⊢
  have hl : lv_has ls 5 [(0, .ref (B + 0)), (1, .int x1)] := hl
  unfold fn_X9_word at hf
  refine lv_aload_n X.1 X.2.1 dX9_word_0 rfl (lv_at hl 0 rfl) ?_
  refine r_getI X hw (κ := 10) rfl inlX9 18 (by decide) rfl (by decide) tw_456 (hMk hw.2.2.2.2.2.1 0 rfl) dX9_word_1 ?_
  refine lv_aload_n X.1 X.2.1 dX9_word_4 rfl (lv_at hl 0 rfl) ?_
  refine r_getI X hw (κ := 10) rfl inlX9 19 (by decide) rfl (by decide) tw_462 (hMk hw.2.2.2.2.2.1 0 rfl) dX9_word_5 ?_
  refine lv_iconst (v := 1) X.1 X.2.1 dX9_word_8 (by decide) ?_
  refine lv_iadd X.1 X.2.1 dX9_word_9 ?_
  refine lv_icmp_ne (tgt := 61) X.1 X.2.1 dX9_word_10 (by decide) (fun hq => ?_) (fun hq => ?_)
  · replace hf := cd_fk hq hf
    refine lv_aload_n X.1 X.2.1 dX9_word_61 rfl (lv_at hl 0 rfl) ?_
    refine lv_bipush (v := 6) X.1 X.2.1 dX9_word_62 (by decide) ?_
    obtain ⟨S1, eS1, hf⟩ := bn_ok hf
    replace eS1 := Option.some.inj eS1
    refine r_putI X hw (κ := 10) rfl inlX9 tyX9 tyX9_ok nmX9 20 (by decide) rfl (by decide) tw_457 (Or.inl rfl) (hMk hw.2.2.2.2.2.1 0 rfl) rfl rfl hw.2.2.2.2.2 dX9_word_64 (fun H locs hw => ?_)
    rw [eS1] at hw
    refine lv_iconst (v := 0) X.1 X.2.1 dX9_word_67 (by decide) ?_
    refine lv_istore_n (lv' := [(2, .int 0), (0, .ref (B + 0)), (1, .int x1)]) X.1 X.2.1 dX9_word_68 rfl hl (by decide) rfl (fun ls hl => ?_)
    refine lv_iconst (v := 0) X.1 X.2.1 dX9_word_69 (by decide) ?_
    refine lv_istore_n (lv' := [(3, .int 0), (2, .int 0), (0, .ref (B + 0)), (1, .int x1)]) X.1 X.2.1 dX9_word_70 rfl hl (by decide) rfl (fun ls hl => ?_)
    exact w_X9_word_71 X  _ _ _ _ _ _ _ hf hw (lv_sub hl [2, 1, 0] rfl)
  · replace hf := cd_tk hq hf
    refine lv_aload_n X.1 X.2.1 dX9_word_13 rfl (lv_at hl 0 rfl) ?_
    refine lv_iload_n X.1 X.2.1 dX9_word_14 rfl (lv_at hl 1 rfl) ?_
    refine lv_bipush (v := 97) X.1 X.2.1 dX9_word_15 (by decide) ?_
    refine lv_icmp_lt (tgt := 24) X.1 X.2.1 dX9_word_17 (by decide) (fun hq => ?_) (fun hq => ?_)
    · replace hf := cd_tk hq hf
      refine lv_iload_n X.1 X.2.1 dX9_word_24 rfl (lv_at hl 1 rfl) ?_
      refine lv_bipush (v := 70) X.1 X.2.1 dX9_word_25 (by decide) ?_
      refine lv_icmp_gt (tgt := 34) X.1 X.2.1 dX9_word_27 (by decide) (fun hq => ?_) (fun hq => ?_)
      · replace hf := cd_tk hq hf
        refine lv_bipush (v := 6) X.1 X.2.1 dX9_word_34 (by decide) ?_
        exact w_X9_word_36 X  _ _ _ _ _ _ hf hw (lv_sub hl [0, 1] rfl)
      · replace hf := cd_fk hq hf
        refine lv_iconst (v := 2) X.1 X.2.1 dX9_word_30 (by decide) ?_
        refine lv_goto (tgt := 36) X.1 X.2.1 dX9_word_31 (by decide) ?_
        exact w_X9_word_36 X  _ _ _ _ _ _ hf hw (lv_sub hl [0, 1] rfl)
    · replace hf := cd_fk hq hf
      refine lv_iconst (v := 1) X.1 X.2.1 dX9_word_20 (by decide) ?_
      refine lv_goto (tgt := 36) X.1 X.2.1 dX9_word_21 (by decide) ?_
      exact w_X9_word_36 X  _ _ _ _ _ _ hf hw (lv_sub hl [0, 1] rfl)
set_option maxHeartbeats 4000000 in
theorem w_X9_next_238 {p : Program} {l : Launch} {e : Env} {s : State} {m : MethodId} {args : Array Value} {below : List Frame} {meth : Method} {c : Code} {D : va_G} {B : Nat} {cy : Nat → ClassId} {A : Nat → Prop} {ad av : Nat → Nat} {Z : HS} (X : hCX p s m args meth c RX9 cX9_next 2 none D cy A ad av) {z : Nat}   (S : HS) (H : Heap) (locs : List Loc) (ls : Array Slot) (hf : fn_X9_next_238 S = some Z) (hw : hWd D B cy A true (hMz z) S s.heap H locs) (hl : lv_has ls 2 []) : W p l e ({ frames := 5, cells := 0, slots := 0, locals := 109 } : Room) s m args below meth c H locs 0 0 (MQ below (hQo D B cy A true (hMz z) Z none) args s 0 0 A) (F0 m 238 ls []) := by
  unfold fn_X9_next_238 at hf
  cases hf
  exact r_vret X hw dX9_next_238
set_option maxHeartbeats 4000000 in
theorem w_X9_next_235 {p : Program} {l : Launch} {e : Env} {s : State} {m : MethodId} {args : Array Value} {below : List Frame} {meth : Method} {c : Code} {D : va_G} {B : Nat} {cy : Nat → ClassId} {A : Nat → Prop} {ad av : Nat → Nat} {Z : HS} (X : hCX p s m args meth c RX9 cX9_next 2 none D cy A ad av) {z : Nat}  (y0 : Int32) (S : HS) (H : Heap) (locs : List Loc) (ls : Array Slot) (hf : fn_X9_next_235 y0 S = some Z) (hw : hWd D B cy A true (hMz z) S s.heap H locs) (hl : lv_has ls 2 []) : W p l e ({ frames := 5, cells := 0, slots := 0, locals := 109 } : Room) s m args below meth c H locs 0 0 (MQ below (hQo D B cy A true (hMz z) Z none) args s 0 0 A) (F0 m 235 ls [.int y0, .ref (B + 0)]) := by
  unfold fn_X9_next_235 at hf
  obtain ⟨S1, eS1, hf⟩ := bn_ok hf
  replace eS1 := Option.some.inj eS1
  refine r_putI X hw (κ := 10) rfl inlX9 tyX9 tyX9_ok nmX9 20 (by decide) rfl (by decide) tw_457 (Or.inl rfl) (hMk hw.2.2.2.2.2.1 0 rfl) rfl rfl hw.2.2.2.2.2 dX9_next_235 (fun H locs hw => ?_)
  rw [eS1] at hw
  exact w_X9_next_238 X  _ _ _ _ hf hw (lv_sub hl [] rfl)
set_option maxHeartbeats 4000000 in
theorem w_X9_next_229 {p : Program} {l : Launch} {e : Env} {s : State} {m : MethodId} {args : Array Value} {below : List Frame} {meth : Method} {c : Code} {D : va_G} {B : Nat} {cy : Nat → ClassId} {A : Nat → Prop} {ad av : Nat → Nat} {Z : HS} (X : hCX p s m args meth c RX9 cX9_next 2 none D cy A ad av) {z : Nat}   (S : HS) (H : Heap) (locs : List Loc) (ls : Array Slot) (hf : fn_X9_next_229 S = some Z) (hw : hWd D B cy A true (hMz z) S s.heap H locs) (hl : lv_has ls 2 []) : W p l e ({ frames := 5, cells := 0, slots := 0, locals := 109 } : Room) s m args below meth c H locs 0 0 (MQ below (hQo D B cy A true (hMz z) Z none) args s 0 0 A) (F0 m 229 ls [.ref (B + 0)]) := by
  unfold fn_X9_next_229 at hf
  refine lv_iconst (v := 4) X.1 X.2.1 dX9_next_229 (by decide) ?_
  refine lv_goto (tgt := 235) X.1 X.2.1 dX9_next_230 (by decide) ?_
  exact w_X9_next_235 X  _ _ _ _ _ hf hw (lv_sub hl [] rfl)
set_option maxHeartbeats 4000000 in
theorem w_X9_next_155 {p : Program} {l : Launch} {e : Env} {s : State} {m : MethodId} {args : Array Value} {below : List Frame} {meth : Method} {c : Code} {D : va_G} {B : Nat} {cy : Nat → ClassId} {A : Nat → Prop} {ad av : Nat → Nat} {Z : HS} (X : hCX p s m args meth c RX9 cX9_next 2 none D cy A ad av) {z : Nat} (k112 : HS → Option HS) (hk112 : ∀  (S : HS) (H : Heap) (locs : List Loc) (ls : Array Slot), k112  S = some Z → hWd D B cy A true (hMz z) S s.heap H locs → lv_has ls 2 [(0, .ref (B + 0))] → W p l e ({ frames := 5, cells := 0, slots := 0, locals := 109 } : Room) s m args below meth c H locs 0 0 (MQ below (hQo D B cy A true (hMz z) Z none) args s 0 0 A) (F0 m 112 ls [])) (y0 : Int32) (S : HS) (H : Heap) (locs : List Loc) (ls : Array Slot) (hf : fn_X9_next_155 k112 y0 S = some Z) (hw : hWd D B cy A true (hMz z) S s.heap H locs) (hl : lv_has ls 2 [(0, .ref (B + 0))]) : W p l e ({ frames := 5, cells := 0, slots := 0, locals := 109 } : Room) s m args below meth c H locs 0 0 (MQ below (hQo D B cy A true (hMz z) Z none) args s 0 0 A) (F0 m 155 ls [.int y0, .ref (B + 0)]) := by
  unfold fn_X9_next_155 at hf
  obtain ⟨S1, eS1, hf⟩ := bn_ok hf
  replace eS1 := Option.some.inj eS1
  refine r_putI X hw (κ := 10) rfl inlX9 tyX9 tyX9_ok nmX9 21 (by decide) rfl (by decide) tw_463 (Or.inl rfl) (hMk hw.2.2.2.2.2.1 0 rfl) rfl rfl hw.2.2.2.2.2 dX9_next_155 (fun H locs hw => ?_)
  rw [eS1] at hw
  refine lv_aload_n X.1 X.2.1 dX9_next_158 rfl (lv_at hl 0 rfl) ?_
  refine lv_dup X.1 X.2.1 dX9_next_159 rfl ?_
  refine r_getI X hw (κ := 10) rfl inlX9 18 (by decide) rfl (by decide) tw_456 (hMk hw.2.2.2.2.2.1 0 rfl) dX9_next_160 ?_
  refine lv_iconst (v := 1) X.1 X.2.1 dX9_next_163 (by decide) ?_
  refine lv_iadd X.1 X.2.1 dX9_next_164 ?_
  obtain ⟨S2, eS2, hf⟩ := bn_ok hf
  replace eS2 := Option.some.inj eS2
  refine r_putI X hw (κ := 10) rfl inlX9 tyX9 tyX9_ok nmX9 18 (by decide) rfl (by decide) tw_456 (Or.inl rfl) (hMk hw.2.2.2.2.2.1 0 rfl) rfl rfl hw.2.2.2.2.2 dX9_next_165 (fun H locs hw => ?_)
  rw [eS2] at hw
  refine lv_goto (tgt := 112) X.1 X.2.1 dX9_next_168 (by decide) ?_
  exact hk112 _ _ _ _ hf hw (lv_sub hl [0] rfl)
set_option maxHeartbeats 4000000 in
theorem w_X9_next_112 {p : Program} {l : Launch} {e : Env} {s : State} {m : MethodId} {args : Array Value} {below : List Frame} {meth : Method} {c : Code} {D : va_G} {B : Nat} {cy : Nat → ClassId} {A : Nat → Prop} {ad av : Nat → Nat} {Z : HS} (X : hCX p s m args meth c RX9 cX9_next 2 none D cy A ad av) {z : Nat}  : ∀ (n : Nat)  (S : HS) (H : Heap) (locs : List Loc) (ls : Array Slot), fn_X9_next_112 n S = some Z → hWd D B cy A true (hMz z) S s.heap H locs → lv_has ls 2 [(0, .ref (B + 0))] → W p l e ({ frames := 5, cells := 0, slots := 0, locals := 109 } : Room) s m args below meth c H locs 0 0 (MQ below (hQo D B cy A true (hMz z) Z none) args s 0 0 A) (F0 m 112 ls []) := by
  intro n
  induction n with
  | zero =>
    intro  S H locs ls hf
    cases hf
  | succ n ih =>
    intro  S H locs ls hf hw hl
    rw [fn_X9_next_112] at hf
    refine lv_aload_n X.1 X.2.1 dX9_next_112 rfl (lv_at hl 0 rfl) ?_
    obtain ⟨r2, S1, hS1, hf⟩ := bn2_ok hf
    refine r_callV (As := []) (rest := []) (st1 := [.int r2]) (κ := 10) X hw (c_X9_here l D B cy A ad av  hw.2.2.2.2.1 hw.2.2.2.2.2 hS1) ⟨rfl, rfl, Nat.le_of_ble_eq_true rfl, Nat.le_of_ble_eq_true rfl⟩ rfl (by decide) (hMk hw.2.2.2.2.2.1 0 rfl) tw_464 tw_465 tw_466 tw_5 tw_467 hd_X9_here rfl hl.1 rfl (Nat.le_of_ble_eq_true rfl) dX9_next_113 ⟨Nat.le_of_ble_eq_true rfl, Nat.le_of_ble_eq_true rfl⟩ rfl (fun H locs hw => ?_)
    obtain ⟨r4, S3, hS3, hf⟩ := bn2_ok hf
    refine r_callS (As := [.int r2]) (rest := []) (st1 := [.int r4]) X hw (c_X9_isDigit l D B cy A ad av r2 hw.2.2.2.2.1 hw.2.2.2.2.2 hS3) ⟨rfl, rfl, Nat.le_of_ble_eq_true rfl, Nat.le_of_ble_eq_true rfl⟩ tw_477 tw_478 tw_5 tw_479 hd_X9_isDigit rfl hl.1 rfl (Nat.le_of_ble_eq_true rfl) dX9_next_116 ⟨Nat.le_of_ble_eq_true rfl, Nat.le_of_ble_eq_true rfl⟩ rfl (fun H locs hw => ?_)
    refine lv_if_eq (tgt := 238) X.1 X.2.1 dX9_next_119 (by decide) (fun hq => ?_) (fun hq => ?_)
    · replace hf := cd_tk hq hf
      exact w_X9_next_238 X  _ _ _ _ hf hw (lv_sub hl [] rfl)
    · replace hf := cd_fk hq hf
      refine lv_aload_n X.1 X.2.1 dX9_next_122 rfl (lv_at hl 0 rfl) ?_
      refine lv_aload_n X.1 X.2.1 dX9_next_123 rfl (lv_at hl 0 rfl) ?_
      refine r_getI X hw (κ := 10) rfl inlX9 21 (by decide) rfl (by decide) tw_463 (hMk hw.2.2.2.2.2.1 0 rfl) dX9_next_124 ?_
      refine lv_sipush (v := 9999) X.1 X.2.1 dX9_next_127 (by decide) ?_
      refine lv_icmp_le (tgt := 140) X.1 X.2.1 dX9_next_130 (by decide) (fun hq => ?_) (fun hq => ?_)
      · replace hf := cd_tk hq hf
        refine lv_bipush (v := 10) X.1 X.2.1 dX9_next_140 (by decide) ?_
        refine lv_aload_n X.1 X.2.1 dX9_next_142 rfl (lv_at hl 0 rfl) ?_
        refine r_getI X hw (κ := 10) rfl inlX9 21 (by decide) rfl (by decide) tw_463 (hMk hw.2.2.2.2.2.1 0 rfl) dX9_next_143 ?_
        refine lv_imul X.1 X.2.1 dX9_next_146 ?_
        refine lv_aload_n X.1 X.2.1 dX9_next_147 rfl (lv_at hl 0 rfl) ?_
        obtain ⟨r6, S5, hS5, hf⟩ := bn2_ok hf
        refine r_callV (As := []) (rest := [.int (10 * (gI S3 0 21)), .ref (B + 0)]) (st1 := [.int r6, .int (10 * (gI S3 0 21)), .ref (B + 0)]) (κ := 10) X hw (c_X9_here l D B cy A ad av  hw.2.2.2.2.1 hw.2.2.2.2.2 hS5) ⟨rfl, rfl, Nat.le_of_ble_eq_true rfl, Nat.le_of_ble_eq_true rfl⟩ rfl (by decide) (hMk hw.2.2.2.2.2.1 0 rfl) tw_464 tw_465 tw_466 tw_5 tw_467 hd_X9_here rfl hl.1 rfl (Nat.le_of_ble_eq_true rfl) dX9_next_148 ⟨Nat.le_of_ble_eq_true rfl, Nat.le_of_ble_eq_true rfl⟩ rfl (fun H locs hw => ?_)
        refine lv_iadd X.1 X.2.1 dX9_next_151 ?_
        refine lv_bipush (v := 48) X.1 X.2.1 dX9_next_152 (by decide) ?_
        refine lv_isub X.1 X.2.1 dX9_next_154 ?_
        exact w_X9_next_155 X (fn_X9_next_112 n) ih _ _ _ _ _ hf hw (lv_sub hl [0] rfl)
      · replace hf := cd_fk hq hf
        refine lv_aload_n X.1 X.2.1 dX9_next_133 rfl (lv_at hl 0 rfl) ?_
        refine r_getI X hw (κ := 10) rfl inlX9 21 (by decide) rfl (by decide) tw_463 (hMk hw.2.2.2.2.2.1 0 rfl) dX9_next_134 ?_
        refine lv_goto (tgt := 155) X.1 X.2.1 dX9_next_137 (by decide) ?_
        exact w_X9_next_155 X (fn_X9_next_112 n) ih _ _ _ _ _ hf hw (lv_sub hl [0] rfl)
set_option maxHeartbeats 4000000 in
theorem w_X9_next_64 {p : Program} {l : Launch} {e : Env} {s : State} {m : MethodId} {args : Array Value} {below : List Frame} {meth : Method} {c : Code} {D : va_G} {B : Nat} {cy : Nat → ClassId} {A : Nat → Prop} {ad av : Nat → Nat} {Z : HS} (X : hCX p s m args meth c RX9 cX9_next 2 none D cy A ad av) {z : Nat}  : ∀ (n : Nat) (x1 : Int32) (S : HS) (H : Heap) (locs : List Loc) (ls : Array Slot), fn_X9_next_64 n x1 S = some Z → hWd D B cy A true (hMz z) S s.heap H locs → lv_has ls 2 [(0, .ref (B + 0)), (1, .int x1)] → W p l e ({ frames := 5, cells := 0, slots := 0, locals := 109 } : Room) s m args below meth c H locs 0 0 (MQ below (hQo D B cy A true (hMz z) Z none) args s 0 0 A) (F0 m 64 ls []) := by
  intro n
  induction n with
  | zero =>
    intro x1 S H locs ls hf
    cases hf
  | succ n ih =>
    intro x1 S H locs ls hf hw hl
    rw [fn_X9_next_64] at hf
    refine lv_aload_n X.1 X.2.1 dX9_next_64 rfl (lv_at hl 0 rfl) ?_
    obtain ⟨r2, S1, hS1, hf⟩ := bn2_ok hf
    refine r_callV (As := []) (rest := []) (st1 := [.int r2]) (κ := 10) X hw (c_X9_here l D B cy A ad av  hw.2.2.2.2.1 hw.2.2.2.2.2 hS1) ⟨rfl, rfl, Nat.le_of_ble_eq_true rfl, Nat.le_of_ble_eq_true rfl⟩ rfl (by decide) (hMk hw.2.2.2.2.2.1 0 rfl) tw_464 tw_465 tw_466 tw_5 tw_467 hd_X9_here rfl hl.1 rfl (Nat.le_of_ble_eq_true rfl) dX9_next_65 ⟨Nat.le_of_ble_eq_true rfl, Nat.le_of_ble_eq_true rfl⟩ rfl (fun H locs hw => ?_)
    obtain ⟨r4, S3, hS3, hf⟩ := bn2_ok hf
    refine r_callS (As := [.int r2]) (rest := []) (st1 := [.int r4]) X hw (c_X9_isLetter l D B cy A ad av r2 hw.2.2.2.2.1 hw.2.2.2.2.2 hS3) ⟨rfl, rfl, Nat.le_of_ble_eq_true rfl, Nat.le_of_ble_eq_true rfl⟩ tw_468 tw_469 tw_5 tw_470 hd_X9_isLetter rfl hl.1 rfl (Nat.le_of_ble_eq_true rfl) dX9_next_68 ⟨Nat.le_of_ble_eq_true rfl, Nat.le_of_ble_eq_true rfl⟩ rfl (fun H locs hw => ?_)
    refine lv_if_eq (tgt := 87) X.1 X.2.1 dX9_next_71 (by decide) (fun hq => ?_) (fun hq => ?_)
    · replace hf := cd_tk hq hf
      refine lv_aload_n X.1 X.2.1 dX9_next_87 rfl (lv_at hl 0 rfl) ?_
      refine lv_iload_n X.1 X.2.1 dX9_next_88 rfl (lv_at hl 1 rfl) ?_
      obtain ⟨S5, hS5, hf⟩ := bn_ok hf
      refine r_callV (As := [.int x1]) (rest := []) (st1 := []) (κ := 10) X hw (c_X9_word l D B cy A ad av x1 hw.2.2.2.2.1 hw.2.2.2.2.2 hS5) ⟨rfl, rfl, Nat.le_of_ble_eq_true rfl, Nat.le_of_ble_eq_true rfl⟩ rfl (by decide) (hMk hw.2.2.2.2.2.1 0 rfl) tw_471 tw_472 tw_473 tw_5 tw_474 hd_X9_word rfl hl.1 rfl (Nat.le_of_ble_eq_true rfl) dX9_next_89 ⟨Nat.le_of_ble_eq_true rfl, Nat.le_of_ble_eq_true rfl⟩ rfl (fun H locs hw => ?_)
      refine lv_goto (tgt := 238) X.1 X.2.1 dX9_next_92 (by decide) ?_
      exact w_X9_next_238 X  _ _ _ _ hf hw (lv_sub hl [] rfl)
    · replace hf := cd_fk hq hf
      refine lv_aload_n X.1 X.2.1 dX9_next_74 rfl (lv_at hl 0 rfl) ?_
      refine lv_dup X.1 X.2.1 dX9_next_75 rfl ?_
      refine r_getI X hw (κ := 10) rfl inlX9 18 (by decide) rfl (by decide) tw_456 (hMk hw.2.2.2.2.2.1 0 rfl) dX9_next_76 ?_
      refine lv_iconst (v := 1) X.1 X.2.1 dX9_next_79 (by decide) ?_
      refine lv_iadd X.1 X.2.1 dX9_next_80 ?_
      obtain ⟨S6, eS6, hf⟩ := bn_ok hf
      replace eS6 := Option.some.inj eS6
      refine r_putI X hw (κ := 10) rfl inlX9 tyX9 tyX9_ok nmX9 18 (by decide) rfl (by decide) tw_456 (Or.inl rfl) (hMk hw.2.2.2.2.2.1 0 rfl) rfl rfl hw.2.2.2.2.2 dX9_next_81 (fun H locs hw => ?_)
      rw [eS6] at hw
      refine lv_goto (tgt := 64) X.1 X.2.1 dX9_next_84 (by decide) ?_
      exact ih _ _ _ _ _ hf hw (lv_sub hl [0, 1] rfl)
set_option maxHeartbeats 4000000 in
theorem w_X9_next_18 {p : Program} {l : Launch} {e : Env} {s : State} {m : MethodId} {args : Array Value} {below : List Frame} {meth : Method} {c : Code} {D : va_G} {B : Nat} {cy : Nat → ClassId} {A : Nat → Prop} {ad av : Nat → Nat} {Z : HS} (X : hCX p s m args meth c RX9 cX9_next 2 none D cy A ad av) {z : Nat} (k0 : HS → Option HS) (hk0 : ∀  (S : HS) (H : Heap) (locs : List Loc) (ls : Array Slot), k0  S = some Z → hWd D B cy A true (hMz z) S s.heap H locs → lv_has ls 2 [(0, .ref (B + 0))] → W p l e ({ frames := 5, cells := 0, slots := 0, locals := 109 } : Room) s m args below meth c H locs 0 0 (MQ below (hQo D B cy A true (hMz z) Z none) args s 0 0 A) (F0 m 0 ls []))  (S : HS) (H : Heap) (locs : List Loc) (ls : Array Slot) (hf : fn_X9_next_18 k0 S = some Z) (hw : hWd D B cy A true (hMz z) S s.heap H locs) (hl : lv_has ls 2 [(0, .ref (B + 0))]) : W p l e ({ frames := 5, cells := 0, slots := 0, locals := 109 } : Room) s m args below meth c H locs 0 0 (MQ below (hQo D B cy A true (hMz z) Z none) args s 0 0 A) (F0 m 18 ls []) := by
  unfold fn_X9_next_18 at hf
  refine lv_aload_n X.1 X.2.1 dX9_next_18 rfl (lv_at hl 0 rfl) ?_
  refine lv_dup X.1 X.2.1 dX9_next_19 rfl ?_
  refine r_getI X hw (κ := 10) rfl inlX9 18 (by decide) rfl (by decide) tw_456 (hMk hw.2.2.2.2.2.1 0 rfl) dX9_next_20 ?_
  refine lv_iconst (v := 1) X.1 X.2.1 dX9_next_23 (by decide) ?_
  refine lv_iadd X.1 X.2.1 dX9_next_24 ?_
  obtain ⟨S1, eS1, hf⟩ := bn_ok hf
  replace eS1 := Option.some.inj eS1
  refine r_putI X hw (κ := 10) rfl inlX9 tyX9 tyX9_ok nmX9 18 (by decide) rfl (by decide) tw_456 (Or.inl rfl) (hMk hw.2.2.2.2.2.1 0 rfl) rfl rfl hw.2.2.2.2.2 dX9_next_25 (fun H locs hw => ?_)
  rw [eS1] at hw
  refine lv_goto (tgt := 0) X.1 X.2.1 dX9_next_28 (by decide) ?_
  exact hk0 _ _ _ _ hf hw (lv_sub hl [0] rfl)
set_option maxHeartbeats 4000000 in
theorem w_X9_next_0 {p : Program} {l : Launch} {e : Env} {s : State} {m : MethodId} {args : Array Value} {below : List Frame} {meth : Method} {c : Code} {D : va_G} {B : Nat} {cy : Nat → ClassId} {A : Nat → Prop} {ad av : Nat → Nat} {Z : HS} (X : hCX p s m args meth c RX9 cX9_next 2 none D cy A ad av) {z : Nat}  : ∀ (n : Nat)  (S : HS) (H : Heap) (locs : List Loc) (ls : Array Slot), fn_X9_next_0 n S = some Z → hWd D B cy A true (hMz z) S s.heap H locs → lv_has ls 2 [(0, .ref (B + 0))] → W p l e ({ frames := 5, cells := 0, slots := 0, locals := 109 } : Room) s m args below meth c H locs 0 0 (MQ below (hQo D B cy A true (hMz z) Z none) args s 0 0 A) (F0 m 0 ls []) := by
  intro n
  induction n with
  | zero =>
    intro  S H locs ls hf
    cases hf
  | succ n ih =>
    intro  S H locs ls hf hw hl
    rw [fn_X9_next_0] at hf
    refine lv_aload_n X.1 X.2.1 dX9_next_0 rfl (lv_at hl 0 rfl) ?_
    obtain ⟨r2, S1, hS1, hf⟩ := bn2_ok hf
    refine r_callV (As := []) (rest := []) (st1 := [.int r2]) (κ := 10) X hw (c_X9_here l D B cy A ad av  hw.2.2.2.2.1 hw.2.2.2.2.2 hS1) ⟨rfl, rfl, Nat.le_of_ble_eq_true rfl, Nat.le_of_ble_eq_true rfl⟩ rfl (by decide) (hMk hw.2.2.2.2.2.1 0 rfl) tw_464 tw_465 tw_466 tw_5 tw_467 hd_X9_here rfl hl.1 rfl (Nat.le_of_ble_eq_true rfl) dX9_next_1 ⟨Nat.le_of_ble_eq_true rfl, Nat.le_of_ble_eq_true rfl⟩ rfl (fun H locs hw => ?_)
    refine lv_bipush (v := 10) X.1 X.2.1 dX9_next_4 (by decide) ?_
    refine lv_icmp_eq (tgt := 18) X.1 X.2.1 dX9_next_6 (by decide) (fun hq => ?_) (fun hq => ?_)
    · replace hf := cd_tk hq hf
      exact w_X9_next_18 X (fn_X9_next_0 n) ih _ _ _ _ hf hw (lv_sub hl [0] rfl)
    · replace hf := cd_fk hq hf
      refine lv_aload_n X.1 X.2.1 dX9_next_9 rfl (lv_at hl 0 rfl) ?_
      obtain ⟨r4, S3, hS3, hf⟩ := bn2_ok hf
      refine r_callV (As := []) (rest := []) (st1 := [.int r4]) (κ := 10) X hw (c_X9_here l D B cy A ad av  hw.2.2.2.2.1 hw.2.2.2.2.2 hS3) ⟨rfl, rfl, Nat.le_of_ble_eq_true rfl, Nat.le_of_ble_eq_true rfl⟩ rfl (by decide) (hMk hw.2.2.2.2.2.1 0 rfl) tw_464 tw_465 tw_466 tw_5 tw_467 hd_X9_here rfl hl.1 rfl (Nat.le_of_ble_eq_true rfl) dX9_next_10 ⟨Nat.le_of_ble_eq_true rfl, Nat.le_of_ble_eq_true rfl⟩ rfl (fun H locs hw => ?_)
      refine lv_bipush (v := 32) X.1 X.2.1 dX9_next_13 (by decide) ?_
      refine lv_icmp_ne (tgt := 31) X.1 X.2.1 dX9_next_15 (by decide) (fun hq => ?_) (fun hq => ?_)
      · replace hf := cd_fk hq hf
        refine lv_aload_n X.1 X.2.1 dX9_next_31 rfl (lv_at hl 0 rfl) ?_
        refine lv_aload_n X.1 X.2.1 dX9_next_32 rfl (lv_at hl 0 rfl) ?_
        refine r_getI X hw (κ := 10) rfl inlX9 18 (by decide) rfl (by decide) tw_456 (hMk hw.2.2.2.2.2.1 0 rfl) dX9_next_33 ?_
        obtain ⟨S5, eS5, hf⟩ := bn_ok hf
        replace eS5 := Option.some.inj eS5
        refine r_putI X hw (κ := 10) rfl inlX9 tyX9 tyX9_ok nmX9 19 (by decide) rfl (by decide) tw_462 (Or.inl rfl) (hMk hw.2.2.2.2.2.1 0 rfl) rfl rfl hw.2.2.2.2.2 dX9_next_36 (fun H locs hw => ?_)
        rw [eS5] at hw
        refine lv_aload_n X.1 X.2.1 dX9_next_39 rfl (lv_at hl 0 rfl) ?_
        obtain ⟨r7, S6, hS6, hf⟩ := bn2_ok hf
        refine r_callV (As := []) (rest := []) (st1 := [.int r7]) (κ := 10) X hw (c_X9_here l D B cy A ad av  hw.2.2.2.2.1 hw.2.2.2.2.2 hS6) ⟨rfl, rfl, Nat.le_of_ble_eq_true rfl, Nat.le_of_ble_eq_true rfl⟩ rfl (by decide) (hMk hw.2.2.2.2.2.1 0 rfl) tw_464 tw_465 tw_466 tw_5 tw_467 hd_X9_here rfl hl.1 rfl (Nat.le_of_ble_eq_true rfl) dX9_next_40 ⟨Nat.le_of_ble_eq_true rfl, Nat.le_of_ble_eq_true rfl⟩ rfl (fun H locs hw => ?_)
        refine lv_istore_n (lv' := [(1, .int r7), (0, .ref (B + 0))]) X.1 X.2.1 dX9_next_43 rfl hl (by decide) rfl (fun ls hl => ?_)
        refine lv_iload_n X.1 X.2.1 dX9_next_44 rfl (lv_at hl 0 rfl) ?_
        refine lv_iconst (v := (-1)) X.1 X.2.1 dX9_next_45 (by decide) ?_
        refine lv_icmp_ne (tgt := 57) X.1 X.2.1 dX9_next_46 (by decide) (fun hq => ?_) (fun hq => ?_)
        · replace hf := cd_fk hq hf
          refine lv_iload_n X.1 X.2.1 dX9_next_57 rfl (lv_at hl 0 rfl) ?_
          obtain ⟨r9, S8, hS8, hf⟩ := bn2_ok hf
          refine r_callS (As := [.int r7]) (rest := []) (st1 := [.int r9]) X hw (c_X9_isLetter l D B cy A ad av r7 hw.2.2.2.2.1 hw.2.2.2.2.2 hS8) ⟨rfl, rfl, Nat.le_of_ble_eq_true rfl, Nat.le_of_ble_eq_true rfl⟩ tw_468 tw_469 tw_5 tw_470 hd_X9_isLetter rfl hl.1 rfl (Nat.le_of_ble_eq_true rfl) dX9_next_58 ⟨Nat.le_of_ble_eq_true rfl, Nat.le_of_ble_eq_true rfl⟩ rfl (fun H locs hw => ?_)
          refine lv_if_eq (tgt := 95) X.1 X.2.1 dX9_next_61 (by decide) (fun hq => ?_) (fun hq => ?_)
          · replace hf := cd_tk hq hf
            refine lv_iload_n X.1 X.2.1 dX9_next_95 rfl (lv_at hl 0 rfl) ?_
            obtain ⟨r11, S10, hS10, hf⟩ := bn2_ok hf
            refine r_callS (As := [.int r7]) (rest := []) (st1 := [.int r11]) X hw (c_X9_isDigit l D B cy A ad av r7 hw.2.2.2.2.1 hw.2.2.2.2.2 hS10) ⟨rfl, rfl, Nat.le_of_ble_eq_true rfl, Nat.le_of_ble_eq_true rfl⟩ tw_477 tw_478 tw_5 tw_479 hd_X9_isDigit rfl hl.1 rfl (Nat.le_of_ble_eq_true rfl) dX9_next_96 ⟨Nat.le_of_ble_eq_true rfl, Nat.le_of_ble_eq_true rfl⟩ rfl (fun H locs hw => ?_)
            refine lv_if_eq (tgt := 171) X.1 X.2.1 dX9_next_99 (by decide) (fun hq => ?_) (fun hq => ?_)
            · replace hf := cd_tk hq hf
              refine lv_aload_n X.1 X.2.1 dX9_next_171 rfl (lv_at hl 1 rfl) ?_
              refine lv_dup X.1 X.2.1 dX9_next_172 rfl ?_
              refine r_getI X hw (κ := 10) rfl inlX9 18 (by decide) rfl (by decide) tw_456 (hMk hw.2.2.2.2.2.1 0 rfl) dX9_next_173 ?_
              refine lv_iconst (v := 1) X.1 X.2.1 dX9_next_176 (by decide) ?_
              refine lv_iadd X.1 X.2.1 dX9_next_177 ?_
              obtain ⟨S12, eS12, hf⟩ := bn_ok hf
              replace eS12 := Option.some.inj eS12
              refine r_putI X hw (κ := 10) rfl inlX9 tyX9 tyX9_ok nmX9 18 (by decide) rfl (by decide) tw_456 (Or.inl rfl) (hMk hw.2.2.2.2.2.1 0 rfl) rfl rfl hw.2.2.2.2.2 dX9_next_178 (fun H locs hw => ?_)
              rw [eS12] at hw
              refine lv_aload_n X.1 X.2.1 dX9_next_181 rfl (lv_at hl 1 rfl) ?_
              refine lv_iload_n X.1 X.2.1 dX9_next_182 rfl (lv_at hl 0 rfl) ?_
              obtain ⟨S13, eS13, hf⟩ := bn_ok hf
              replace eS13 := Option.some.inj eS13
              refine r_putI X hw (κ := 10) rfl inlX9 tyX9 tyX9_ok nmX9 21 (by decide) rfl (by decide) tw_463 (Or.inl rfl) (hMk hw.2.2.2.2.2.1 0 rfl) rfl rfl hw.2.2.2.2.2 dX9_next_183 (fun H locs hw => ?_)
              rw [eS13] at hw
              refine lv_aload_n X.1 X.2.1 dX9_next_186 rfl (lv_at hl 1 rfl) ?_
              refine lv_iload_n X.1 X.2.1 dX9_next_187 rfl (lv_at hl 0 rfl) ?_
              refine lv_bipush (v := 61) X.1 X.2.1 dX9_next_188 (by decide) ?_
              refine lv_icmp_eq (tgt := 229) X.1 X.2.1 dX9_next_190 (by decide) (fun hq => ?_) (fun hq => ?_)
              · replace hf := cd_tk hq hf
                exact w_X9_next_229 X  _ _ _ _ hf hw (lv_sub hl [] rfl)
              · replace hf := cd_fk hq hf
                refine lv_iload_n X.1 X.2.1 dX9_next_193 rfl (lv_at hl 0 rfl) ?_
                refine lv_bipush (v := 58) X.1 X.2.1 dX9_next_194 (by decide) ?_
                refine lv_icmp_eq (tgt := 229) X.1 X.2.1 dX9_next_196 (by decide) (fun hq => ?_) (fun hq => ?_)
                · replace hf := cd_tk hq hf
                  exact w_X9_next_229 X  _ _ _ _ hf hw (lv_sub hl [] rfl)
                · replace hf := cd_fk hq hf
                  refine lv_iload_n X.1 X.2.1 dX9_next_199 rfl (lv_at hl 0 rfl) ?_
                  refine lv_bipush (v := 44) X.1 X.2.1 dX9_next_200 (by decide) ?_
                  refine lv_icmp_eq (tgt := 229) X.1 X.2.1 dX9_next_202 (by decide) (fun hq => ?_) (fun hq => ?_)
                  · replace hf := cd_tk hq hf
                    exact w_X9_next_229 X  _ _ _ _ hf hw (lv_sub hl [] rfl)
                  · replace hf := cd_fk hq hf
                    refine lv_iload_n X.1 X.2.1 dX9_next_205 rfl (lv_at hl 0 rfl) ?_
                    refine lv_bipush (v := 59) X.1 X.2.1 dX9_next_206 (by decide) ?_
                    refine lv_icmp_eq (tgt := 229) X.1 X.2.1 dX9_next_208 (by decide) (fun hq => ?_) (fun hq => ?_)
                    · replace hf := cd_tk hq hf
                      exact w_X9_next_229 X  _ _ _ _ hf hw (lv_sub hl [] rfl)
                    · replace hf := cd_fk hq hf
                      refine lv_iload_n X.1 X.2.1 dX9_next_211 rfl (lv_at hl 0 rfl) ?_
                      refine lv_bipush (v := 60) X.1 X.2.1 dX9_next_212 (by decide) ?_
                      refine lv_icmp_eq (tgt := 229) X.1 X.2.1 dX9_next_214 (by decide) (fun hq => ?_) (fun hq => ?_)
                      · replace hf := cd_tk hq hf
                        exact w_X9_next_229 X  _ _ _ _ hf hw (lv_sub hl [] rfl)
                      · replace hf := cd_fk hq hf
                        refine lv_iload_n X.1 X.2.1 dX9_next_217 rfl (lv_at hl 0 rfl) ?_
                        refine lv_bipush (v := 62) X.1 X.2.1 dX9_next_218 (by decide) ?_
                        refine lv_icmp_eq (tgt := 229) X.1 X.2.1 dX9_next_220 (by decide) (fun hq => ?_) (fun hq => ?_)
                        · replace hf := cd_tk hq hf
                          exact w_X9_next_229 X  _ _ _ _ hf hw (lv_sub hl [] rfl)
                        · replace hf := cd_fk hq hf
                          refine lv_iload_n X.1 X.2.1 dX9_next_223 rfl (lv_at hl 0 rfl) ?_
                          refine lv_bipush (v := 37) X.1 X.2.1 dX9_next_224 (by decide) ?_
                          refine lv_icmp_ne (tgt := 233) X.1 X.2.1 dX9_next_226 (by decide) (fun hq => ?_) (fun hq => ?_)
                          · replace hf := cd_fk hq hf
                            refine lv_bipush (v := 6) X.1 X.2.1 dX9_next_233 (by decide) ?_
                            exact w_X9_next_235 X  _ _ _ _ _ hf hw (lv_sub hl [] rfl)
                          · replace hf := cd_tk hq hf
                            exact w_X9_next_229 X  _ _ _ _ hf hw (lv_sub hl [] rfl)
            · replace hf := cd_fk hq hf
              refine lv_aload_n X.1 X.2.1 dX9_next_102 rfl (lv_at hl 1 rfl) ?_
              refine lv_iconst (v := 3) X.1 X.2.1 dX9_next_103 (by decide) ?_
              obtain ⟨S14, eS14, hf⟩ := bn_ok hf
              replace eS14 := Option.some.inj eS14
              refine r_putI X hw (κ := 10) rfl inlX9 tyX9 tyX9_ok nmX9 20 (by decide) rfl (by decide) tw_457 (Or.inl rfl) (hMk hw.2.2.2.2.2.1 0 rfl) rfl rfl hw.2.2.2.2.2 dX9_next_104 (fun H locs hw => ?_)
              rw [eS14] at hw
              refine lv_aload_n X.1 X.2.1 dX9_next_107 rfl (lv_at hl 1 rfl) ?_
              refine lv_iconst (v := 0) X.1 X.2.1 dX9_next_108 (by decide) ?_
              obtain ⟨S15, eS15, hf⟩ := bn_ok hf
              replace eS15 := Option.some.inj eS15
              refine r_putI X hw (κ := 10) rfl inlX9 tyX9 tyX9_ok nmX9 21 (by decide) rfl (by decide) tw_463 (Or.inl rfl) (hMk hw.2.2.2.2.2.1 0 rfl) rfl rfl hw.2.2.2.2.2 dX9_next_109 (fun H locs hw => ?_)
              rw [eS15] at hw
              exact w_X9_next_112 X  _ _ _ _ _ hf hw (lv_sub hl [1] rfl)
          · replace hf := cd_fk hq hf
            exact w_X9_next_64 X  _ _ _ _ _ _ hf hw (lv_sub hl [1, 0] rfl)
        · replace hf := cd_tk hq hf
          refine lv_aload_n X.1 X.2.1 dX9_next_49 rfl (lv_at hl 1 rfl) ?_
          refine lv_iconst (v := 5) X.1 X.2.1 dX9_next_50 (by decide) ?_
          obtain ⟨S16, eS16, hf⟩ := bn_ok hf
          replace eS16 := Option.some.inj eS16
          refine r_putI X hw (κ := 10) rfl inlX9 tyX9 tyX9_ok nmX9 20 (by decide) rfl (by decide) tw_457 (Or.inl rfl) (hMk hw.2.2.2.2.2.1 0 rfl) rfl rfl hw.2.2.2.2.2 dX9_next_51 (fun H locs hw => ?_)
          rw [eS16] at hw
          refine lv_goto (tgt := 238) X.1 X.2.1 dX9_next_54 (by decide) ?_
          exact w_X9_next_238 X  _ _ _ _ hf hw (lv_sub hl [] rfl)
      · replace hf := cd_tk hq hf
        exact w_X9_next_18 X (fn_X9_next_0 n) ih _ _ _ _ hf hw (lv_sub hl [0] rfl)
theorem hd_X9_next : yX9_next.cls = RX9 ∧ yX9_next.cls ≠ "java/lang/invoke/MethodHandle" ∧ yX9_next.cls ≠ "java/lang/invoke/VarHandle" ∧ (parseMethodDescriptor yX9_next.desc).map (fun d => d.parameters.length) = some 0 := by decide +kernel
set_option maxHeartbeats 4000000 in
theorem c_X9_next (l : Launch) (D : va_G) (B : Nat) (cy : Nat → ClassId) (A : Nat → Prop) (ad av : Nat → Nat) {z : Nat}  {S Z : HS} (hfr : hFr S) (hG : (hMz z) S) (hf : fn_X9_next S = some Z) : hMet l yX9_next cX9_next 2 none ({ frames := 5, cells := 0, slots := 0, locals := 109 } : Room) D B cy A ad av true (hMz z) [.ref (B + 0)] S Z none 0 0 := by
  refine h_entry (by decide) hfr hG ?_
  intro p e s m below meth c args X hnm hw
  have hl := lv_entry ([.ref (B + 0)]) (n := 2) (Nat.le_of_ble_eq_true rfl)
  rw [lg_entry_eq]
  generalize (lg_sl ([.ref (B + 0)]) ++ List.replicate (2 - (lg_sl ([.ref (B + 0)])).length) Slot.unset).toArray = ls at hl ⊢
  have hl : lv_has ls 2 [(0, .ref (B + 0))] := hl
  unfold fn_X9_next at hf
  exact w_X9_next_0 X  _ _ _ _ _ hf hw (lv_sub hl [0] rfl)
set_option maxHeartbeats 4000000 in
theorem w_X9_takes_56 {p : Program} {l : Launch} {e : Env} {s : State} {m : MethodId} {args : Array Value} {below : List Frame} {meth : Method} {c : Code} {D : va_G} {B : Nat} {cy : Nat → ClassId} {A : Nat → Prop} {ad av : Nat → Nat} {rv : Int32} {Z : HS} (X : hCX p s m args meth c RX9 cX9_takes 3 (some .int) D cy A ad av) {z : Nat}  (x2 : Int32) (S : HS) (H : Heap) (locs : List Loc) (ls : Array Slot) (hf : fn_X9_takes_56 x2 S = some (rv, Z)) (hw : hWd D B cy A true (hMz z) S s.heap H locs) (hl : lv_has ls 3 [(0, .ref (B + 0)), (2, .int x2)]) : W p l e ({ frames := 6, cells := 0, slots := 0, locals := 130 } : Room) s m args below meth c H locs 0 0 (MQ below (hQo D B cy A true (hMz z) Z (some (.int rv))) args s 0 0 A) (F0 m 56 ls []) := by
  unfold fn_X9_takes_56 at hf
  refine lv_aload_n X.1 X.2.1 dX9_takes_56 rfl (lv_at hl 0 rfl) ?_
  obtain ⟨S1, hS1, hf⟩ := bn_ok hf
  refine r_callV (As := []) (rest := []) (st1 := []) (κ := 10) X hw (c_X9_next l D B cy A ad av  hw.2.2.2.2.1 hw.2.2.2.2.2 hS1) ⟨rfl, rfl, Nat.le_of_ble_eq_true rfl, Nat.le_of_ble_eq_true rfl⟩ rfl (by decide) (hMk hw.2.2.2.2.2.1 0 rfl) tw_458 tw_459 tw_460 tw_5 tw_461 hd_X9_next rfl hl.1 rfl (Nat.le_of_ble_eq_true rfl) dX9_takes_57 ⟨Nat.le_of_ble_eq_true rfl, Nat.le_of_ble_eq_true rfl⟩ rfl (fun H locs hw => ?_)
  refine lv_iload_n X.1 X.2.1 dX9_takes_60 rfl (lv_at hl 1 rfl) ?_
  cases hf
  exact r_iret X hw dX9_takes_61
theorem hd_X9_takes : yX9_takes.cls = RX9 ∧ yX9_takes.cls ≠ "java/lang/invoke/MethodHandle" ∧ yX9_takes.cls ≠ "java/lang/invoke/VarHandle" ∧ (parseMethodDescriptor yX9_takes.desc).map (fun d => d.parameters.length) = some 1 := by decide +kernel
set_option maxHeartbeats 4000000 in
theorem c_X9_takes (l : Launch) (D : va_G) (B : Nat) (cy : Nat → ClassId) (A : Nat → Prop) (ad av : Nat → Nat) {z : Nat} (x1 : Int32) {S Z : HS} {rv : Int32} (hfr : hFr S) (hG : (hMz z) S) (hf : fn_X9_takes x1 S = some (rv, Z)) : hMet l yX9_takes cX9_takes 3 (some .int) ({ frames := 6, cells := 0, slots := 0, locals := 130 } : Room) D B cy A ad av true (hMz z) [.ref (B + 0), .int x1] S Z (some (.int rv)) 0 0 := by
  refine h_entry (by decide) hfr hG ?_
  intro p e s m below meth c args X hnm hw
  have hl := lv_entry ([.ref (B + 0), .int x1]) (n := 3) (Nat.le_of_ble_eq_true rfl)
  rw [lg_entry_eq]
  generalize (lg_sl ([.ref (B + 0), .int x1]) ++ List.replicate (3 - (lg_sl ([.ref (B + 0), .int x1])).length) Slot.unset).toArray = ls at hl ⊢
  have hl : lv_has ls 3 [(0, .ref (B + 0)), (1, .int x1)] := hl
  unfold fn_X9_takes at hf
  refine lv_aload_n X.1 X.2.1 dX9_takes_0 rfl (lv_at hl 0 rfl) ?_
  refine r_getI X hw (κ := 10) rfl inlX9 22 (by decide) rfl (by decide) tw_447 (hMk hw.2.2.2.2.2.1 0 rfl) dX9_takes_1 ?_
  refine lv_if_eq (tgt := 9) X.1 X.2.1 dX9_takes_4 (by decide) (fun hq => ?_) (fun hq => ?_)
  · replace hf := cd_tk hq hf
    refine lv_aload_n X.1 X.2.1 dX9_takes_9 rfl (lv_at hl 0 rfl) ?_
    refine r_getI X hw (κ := 10) rfl inlX9 20 (by decide) rfl (by decide) tw_457 (hMk hw.2.2.2.2.2.1 0 rfl) dX9_takes_10 ?_
    refine lv_iload_n X.1 X.2.1 dX9_takes_13 rfl (lv_at hl 1 rfl) ?_
    refine lv_icmp_eq (tgt := 28) X.1 X.2.1 dX9_takes_14 (by decide) (fun hq => ?_) (fun hq => ?_)
    · replace hf := cd_tk hq hf
      refine lv_aload_n X.1 X.2.1 dX9_takes_28 rfl (lv_at hl 0 rfl) ?_
      refine r_getI X hw (κ := 10) rfl inlX9 21 (by decide) rfl (by decide) tw_463 (hMk hw.2.2.2.2.2.1 0 rfl) dX9_takes_29 ?_
      obtain ⟨v1, ev1, hf⟩ := bn_ok hf
      replace ev1 := Option.some.inj ev1
      refine lv_ren ev1 ?_
      refine lv_istore_n (lv' := [(2, .int v1), (0, .ref (B + 0)), (1, .int x1)]) X.1 X.2.1 dX9_takes_32 rfl hl (by decide) rfl (fun ls hl => ?_)
      refine lv_iload_n X.1 X.2.1 dX9_takes_33 rfl (lv_at hl 2 rfl) ?_
      refine lv_iconst (v := 3) X.1 X.2.1 dX9_takes_34 (by decide) ?_
      refine lv_icmp_ne (tgt := 56) X.1 X.2.1 dX9_takes_35 (by decide) (fun hq => ?_) (fun hq => ?_)
      · replace hf := cd_fk hq hf
        exact w_X9_takes_56 X  _ _ _ _ _ hf hw (lv_sub hl [1, 0] rfl)
      · replace hf := cd_tk hq hf
        refine lv_iload_n X.1 X.2.1 dX9_takes_38 rfl (lv_at hl 0 rfl) ?_
        refine lv_sipush (v := 9999) X.1 X.2.1 dX9_takes_39 (by decide) ?_
        refine lv_icmp_le (tgt := 56) X.1 X.2.1 dX9_takes_42 (by decide) (fun hq => ?_) (fun hq => ?_)
        · replace hf := cd_tk hq hf
          exact w_X9_takes_56 X  _ _ _ _ _ hf hw (lv_sub hl [1, 0] rfl)
        · replace hf := cd_fk hq hf
          refine lv_aload_n X.1 X.2.1 dX9_takes_45 rfl (lv_at hl 1 rfl) ?_
          refine lv_iconst (v := 2) X.1 X.2.1 dX9_takes_46 (by decide) ?_
          refine lv_aload_n X.1 X.2.1 dX9_takes_47 rfl (lv_at hl 1 rfl) ?_
          refine r_getI X hw (κ := 10) rfl inlX9 19 (by decide) rfl (by decide) tw_462 (hMk hw.2.2.2.2.2.1 0 rfl) dX9_takes_48 ?_
          obtain ⟨S2, hS2, hf⟩ := bn_ok hf
          refine r_callV (As := [.int 2, .int (gI S 0 19)]) (rest := []) (st1 := []) (κ := 10) X hw (c_X9_wrong l D B cy A ad av 2 (gI S 0 19) hw.2.2.2.2.1 hw.2.2.2.2.2 hS2) ⟨rfl, rfl, Nat.le_of_ble_eq_true rfl, Nat.le_of_ble_eq_true rfl⟩ rfl (by decide) (hMk hw.2.2.2.2.2.1 0 rfl) tw_484 tw_485 tw_486 tw_5 tw_487 hd_X9_wrong rfl hl.1 rfl (Nat.le_of_ble_eq_true rfl) dX9_takes_51 ⟨Nat.le_of_ble_eq_true rfl, Nat.le_of_ble_eq_true rfl⟩ rfl (fun H locs hw => ?_)
          refine lv_iconst (v := 0) X.1 X.2.1 dX9_takes_54 (by decide) ?_
          cases hf
          exact r_iret X hw dX9_takes_55
    · replace hf := cd_fk hq hf
      refine lv_aload_n X.1 X.2.1 dX9_takes_17 rfl (lv_at hl 0 rfl) ?_
      refine lv_iconst (v := 1) X.1 X.2.1 dX9_takes_18 (by decide) ?_
      refine lv_aload_n X.1 X.2.1 dX9_takes_19 rfl (lv_at hl 0 rfl) ?_
      refine r_getI X hw (κ := 10) rfl inlX9 19 (by decide) rfl (by decide) tw_462 (hMk hw.2.2.2.2.2.1 0 rfl) dX9_takes_20 ?_
      obtain ⟨S3, hS3, hf⟩ := bn_ok hf
      refine r_callV (As := [.int 1, .int (gI S 0 19)]) (rest := []) (st1 := []) (κ := 10) X hw (c_X9_wrong l D B cy A ad av 1 (gI S 0 19) hw.2.2.2.2.1 hw.2.2.2.2.2 hS3) ⟨rfl, rfl, Nat.le_of_ble_eq_true rfl, Nat.le_of_ble_eq_true rfl⟩ rfl (by decide) (hMk hw.2.2.2.2.2.1 0 rfl) tw_484 tw_485 tw_486 tw_5 tw_487 hd_X9_wrong rfl hl.1 rfl (Nat.le_of_ble_eq_true rfl) dX9_takes_23 ⟨Nat.le_of_ble_eq_true rfl, Nat.le_of_ble_eq_true rfl⟩ rfl (fun H locs hw => ?_)
      refine lv_iconst (v := 0) X.1 X.2.1 dX9_takes_26 (by decide) ?_
      cases hf
      exact r_iret X hw dX9_takes_27
  · replace hf := cd_fk hq hf
    refine lv_iconst (v := 0) X.1 X.2.1 dX9_takes_7 (by decide) ?_
    cases hf
    exact r_iret X hw dX9_takes_8
set_option maxHeartbeats 4000000 in
theorem w_X9_wants_24 {p : Program} {l : Launch} {e : Env} {s : State} {m : MethodId} {args : Array Value} {below : List Frame} {meth : Method} {c : Code} {D : va_G} {B : Nat} {cy : Nat → ClassId} {A : Nat → Prop} {ad av : Nat → Nat} {Z : HS} (X : hCX p s m args meth c RX9 cX9_wants 2 none D cy A ad av) {z : Nat}   (S : HS) (H : Heap) (locs : List Loc) (ls : Array Slot) (hf : fn_X9_wants_24 S = some Z) (hw : hWd D B cy A true (hMz z) S s.heap H locs) (hl : lv_has ls 2 []) : W p l e ({ frames := 6, cells := 0, slots := 0, locals := 130 } : Room) s m args below meth c H locs 0 0 (MQ below (hQo D B cy A true (hMz z) Z none) args s 0 0 A) (F0 m 24 ls []) := by
  unfold fn_X9_wants_24 at hf
  cases hf
  exact r_vret X hw dX9_wants_24
theorem hd_X9_wants : yX9_wants.cls = RX9 ∧ yX9_wants.cls ≠ "java/lang/invoke/MethodHandle" ∧ yX9_wants.cls ≠ "java/lang/invoke/VarHandle" ∧ (parseMethodDescriptor yX9_wants.desc).map (fun d => d.parameters.length) = some 1 := by decide +kernel
set_option maxHeartbeats 4000000 in
theorem c_X9_wants (l : Launch) (D : va_G) (B : Nat) (cy : Nat → ClassId) (A : Nat → Prop) (ad av : Nat → Nat) {z : Nat} (x1 : Int32) {S Z : HS} (hfr : hFr S) (hG : (hMz z) S) (hf : fn_X9_wants x1 S = some Z) : hMet l yX9_wants cX9_wants 2 none ({ frames := 6, cells := 0, slots := 0, locals := 130 } : Room) D B cy A ad av true (hMz z) [.ref (B + 0), .int x1] S Z none 0 0 := by
  refine h_entry (by decide) hfr hG ?_
  intro p e s m below meth c args X hnm hw
  have hl := lv_entry ([.ref (B + 0), .int x1]) (n := 2) (Nat.le_of_ble_eq_true rfl)
  rw [lg_entry_eq]
  generalize (lg_sl ([.ref (B + 0), .int x1]) ++ List.replicate (2 - (lg_sl ([.ref (B + 0), .int x1])).length) Slot.unset).toArray = ls at hl ⊢
  have hl : lv_has ls 2 [(0, .ref (B + 0)), (1, .int x1)] := hl
  unfold fn_X9_wants at hf
  refine lv_aload_n X.1 X.2.1 dX9_wants_0 rfl (lv_at hl 0 rfl) ?_
  refine lv_iload_n X.1 X.2.1 dX9_wants_1 rfl (lv_at hl 1 rfl) ?_
  obtain ⟨r2, S1, hS1, hf⟩ := bn2_ok hf
  refine r_callV (As := [.int x1]) (rest := []) (st1 := [.int r2]) (κ := 10) X hw (c_X9_isSign l D B cy A ad av x1 hw.2.2.2.2.1 hw.2.2.2.2.2 hS1) ⟨rfl, rfl, Nat.le_of_ble_eq_true rfl, Nat.le_of_ble_eq_true rfl⟩ rfl (by decide) (hMk hw.2.2.2.2.2.1 0 rfl) tw_500 tw_501 tw_502 tw_5 tw_503 hd_X9_isSign rfl hl.1 rfl (Nat.le_of_ble_eq_true rfl) dX9_wants_2 ⟨Nat.le_of_ble_eq_true rfl, Nat.le_of_ble_eq_true rfl⟩ rfl (fun H locs hw => ?_)
  refine lv_if_ne (tgt := 20) X.1 X.2.1 dX9_wants_5 (by decide) (fun hq => ?_) (fun hq => ?_)
  · replace hf := cd_fk hq hf
    refine lv_aload_n X.1 X.2.1 dX9_wants_20 rfl (lv_at hl 0 rfl) ?_
    obtain ⟨S3, hS3, hf⟩ := bn_ok hf
    refine r_callV (As := []) (rest := []) (st1 := []) (κ := 10) X hw (c_X9_next l D B cy A ad av  hw.2.2.2.2.1 hw.2.2.2.2.2 hS3) ⟨rfl, rfl, Nat.le_of_ble_eq_true rfl, Nat.le_of_ble_eq_true rfl⟩ rfl (by decide) (hMk hw.2.2.2.2.2.1 0 rfl) tw_458 tw_459 tw_460 tw_5 tw_461 hd_X9_next rfl hl.1 rfl (Nat.le_of_ble_eq_true rfl) dX9_wants_21 ⟨Nat.le_of_ble_eq_true rfl, Nat.le_of_ble_eq_true rfl⟩ rfl (fun H locs hw => ?_)
    exact w_X9_wants_24 X  _ _ _ _ hf hw (lv_sub hl [] rfl)
  · replace hf := cd_tk hq hf
    refine lv_aload_n X.1 X.2.1 dX9_wants_8 rfl (lv_at hl 0 rfl) ?_
    refine lv_iconst (v := 1) X.1 X.2.1 dX9_wants_9 (by decide) ?_
    refine lv_aload_n X.1 X.2.1 dX9_wants_10 rfl (lv_at hl 0 rfl) ?_
    refine r_getI X hw (κ := 10) rfl inlX9 19 (by decide) rfl (by decide) tw_462 (hMk hw.2.2.2.2.2.1 0 rfl) dX9_wants_11 ?_
    obtain ⟨S4, hS4, hf⟩ := bn_ok hf
    refine r_callV (As := [.int 1, .int (gI S1 0 19)]) (rest := []) (st1 := []) (κ := 10) X hw (c_X9_wrong l D B cy A ad av 1 (gI S1 0 19) hw.2.2.2.2.1 hw.2.2.2.2.2 hS4) ⟨rfl, rfl, Nat.le_of_ble_eq_true rfl, Nat.le_of_ble_eq_true rfl⟩ rfl (by decide) (hMk hw.2.2.2.2.2.1 0 rfl) tw_484 tw_485 tw_486 tw_5 tw_487 hd_X9_wrong rfl hl.1 rfl (Nat.le_of_ble_eq_true rfl) dX9_wants_14 ⟨Nat.le_of_ble_eq_true rfl, Nat.le_of_ble_eq_true rfl⟩ rfl (fun H locs hw => ?_)
    refine lv_goto (tgt := 24) X.1 X.2.1 dX9_wants_17 (by decide) ?_
    exact w_X9_wants_24 X  _ _ _ _ hf hw (lv_sub hl [] rfl)
set_option maxHeartbeats 4000000 in
theorem w_X9_scaleNumber_35 {p : Program} {l : Launch} {e : Env} {s : State} {m : MethodId} {args : Array Value} {below : List Frame} {meth : Method} {c : Code} {D : va_G} {B : Nat} {cy : Nat → ClassId} {A : Nat → Prop} {ad av : Nat → Nat} {Z : HS} (X : hCX p s m args meth c RX9 cX9_scaleNumber 3 none D cy A ad av) {z : Nat}  (x1 : Int32) (S : HS) (H : Heap) (locs : List Loc) (ls : Array Slot) (hf : fn_X9_scaleNumber_35 x1 S = some Z) (hw : hWd D B cy A true (hMz z) S s.heap H locs) (hl : lv_has ls 3 [(0, .ref (B + 0)), (1, .int x1)]) : W p l e ({ frames := 7, cells := 0, slots := 0, locals := 152 } : Room) s m args below meth c H locs 0 0 (MQ below (hQo D B cy A true (hMz z) Z none) args s 0 0 A) (F0 m 35 ls []) := by
  unfold fn_X9_scaleNumber_35 at hf
  refine lv_aload_n X.1 X.2.1 dX9_scaleNumber_35 rfl (lv_at hl 0 rfl) ?_
  refine lv_iconst (v := 3) X.1 X.2.1 dX9_scaleNumber_36 (by decide) ?_
  obtain ⟨r2, S1, hS1, hf⟩ := bn2_ok hf
  refine r_callV (As := [.int 3]) (rest := []) (st1 := [.int r2]) (κ := 10) X hw (c_X9_takes l D B cy A ad av 3 hw.2.2.2.2.1 hw.2.2.2.2.2 hS1) ⟨rfl, rfl, Nat.le_of_ble_eq_true rfl, Nat.le_of_ble_eq_true rfl⟩ rfl (by decide) (hMk hw.2.2.2.2.2.1 0 rfl) tw_488 tw_489 tw_490 tw_5 tw_491 hd_X9_takes rfl hl.1 rfl (Nat.le_of_ble_eq_true rfl) dX9_scaleNumber_37 ⟨Nat.le_of_ble_eq_true rfl, Nat.le_of_ble_eq_true rfl⟩ rfl (fun H locs hw => ?_)
  refine lv_istore_n (lv' := [(2, .int r2), (0, .ref (B + 0)), (1, .int x1)]) X.1 X.2.1 dX9_scaleNumber_40 rfl hl (by decide) rfl (fun ls hl => ?_)
  refine lv_aload_n X.1 X.2.1 dX9_scaleNumber_41 rfl (lv_at hl 1 rfl) ?_
  refine r_getI X hw (κ := 10) rfl inlX9 22 (by decide) rfl (by decide) tw_447 (hMk hw.2.2.2.2.2.1 0 rfl) dX9_scaleNumber_42 ?_
  refine lv_if_eq (tgt := 49) X.1 X.2.1 dX9_scaleNumber_45 (by decide) (fun hq => ?_) (fun hq => ?_)
  · replace hf := cd_tk hq hf
    refine lv_aload_n X.1 X.2.1 dX9_scaleNumber_49 rfl (lv_at hl 1 rfl) ?_
    refine r_getF X hw (κ := 10) rfl inlX9 15 (by decide) rfl (by decide) tw_115 (hMk hw.2.2.2.2.2.1 0 rfl) (hMr hw.2.2.2.2.2.1 0 15 rfl) dX9_scaleNumber_50 ?_
    refine lv_bipush (v := 8) X.1 X.2.1 dX9_scaleNumber_53 (by decide) ?_
    refine lv_iload_n X.1 X.2.1 dX9_scaleNumber_55 rfl (lv_at hl 2 rfl) ?_
    refine lv_imul X.1 X.2.1 dX9_scaleNumber_56 ?_
    refine lv_aload_n X.1 X.2.1 dX9_scaleNumber_57 rfl (lv_at hl 1 rfl) ?_
    refine r_getF X hw (κ := 10) rfl inlX9 16 (by decide) rfl (by decide) tw_116 (hMk hw.2.2.2.2.2.1 0 rfl) (hMr hw.2.2.2.2.2.1 0 16 rfl) dX9_scaleNumber_58 ?_
    refine lv_iload_n X.1 X.2.1 dX9_scaleNumber_61 rfl (lv_at hl 2 rfl) ?_
    obtain ⟨g3, hf⟩ := gd_ok hf
    refine r_iald X hw (hMk hw.2.2.2.2.2.1 13 rfl) (hMn hw.2.2.2.2.2.1 13 rfl) g3 dX9_scaleNumber_62 ?_
    refine lv_iadd X.1 X.2.1 dX9_scaleNumber_63 ?_
    refine lv_iload_n X.1 X.2.1 dX9_scaleNumber_64 rfl (lv_at hl 0 rfl) ?_
    obtain ⟨g4, hf⟩ := gd_ok hf
    obtain ⟨S5, eS5, hf⟩ := bn_ok hf
    replace eS5 := Option.some.inj eS5
    refine r_iast X hw (hMk hw.2.2.2.2.2.1 12 rfl) (hMn hw.2.2.2.2.2.1 12 rfl) g4 hw.2.2.2.2.2 dX9_scaleNumber_65 (fun H locs hw => ?_)
    rw [eS5] at hw
    refine lv_aload_n X.1 X.2.1 dX9_scaleNumber_66 rfl (lv_at hl 1 rfl) ?_
    refine r_getF X hw (κ := 10) rfl inlX9 16 (by decide) rfl (by decide) tw_116 (hMk hw.2.2.2.2.2.1 0 rfl) (hMr hw.2.2.2.2.2.1 0 16 rfl) dX9_scaleNumber_67 ?_
    refine lv_iload_n X.1 X.2.1 dX9_scaleNumber_70 rfl (lv_at hl 2 rfl) ?_
    refine lv_dup2_11 X.1 X.2.1 dX9_scaleNumber_71 rfl rfl ?_
    obtain ⟨g6, hf⟩ := gd_ok hf
    refine r_iald X hw (hMk hw.2.2.2.2.2.1 13 rfl) (hMn hw.2.2.2.2.2.1 13 rfl) g6 dX9_scaleNumber_72 ?_
    refine lv_iconst (v := 1) X.1 X.2.1 dX9_scaleNumber_73 (by decide) ?_
    refine lv_iadd X.1 X.2.1 dX9_scaleNumber_74 ?_
    obtain ⟨g7, hf⟩ := gd_ok hf
    obtain ⟨S8, eS8, hf⟩ := bn_ok hf
    replace eS8 := Option.some.inj eS8
    refine r_iast X hw (hMk hw.2.2.2.2.2.1 13 rfl) (hMn hw.2.2.2.2.2.1 13 rfl) g7 hw.2.2.2.2.2 dX9_scaleNumber_75 (fun H locs hw => ?_)
    rw [eS8] at hw
    cases hf
    exact r_vret X hw dX9_scaleNumber_76
  · replace hf := cd_fk hq hf
    cases hf
    exact r_vret X hw dX9_scaleNumber_48
theorem hd_X9_scaleNumber : yX9_scaleNumber.cls = RX9 ∧ yX9_scaleNumber.cls ≠ "java/lang/invoke/MethodHandle" ∧ yX9_scaleNumber.cls ≠ "java/lang/invoke/VarHandle" ∧ (parseMethodDescriptor yX9_scaleNumber.desc).map (fun d => d.parameters.length) = some 1 := by decide +kernel
set_option maxHeartbeats 4000000 in
theorem c_X9_scaleNumber (l : Launch) (D : va_G) (B : Nat) (cy : Nat → ClassId) (A : Nat → Prop) (ad av : Nat → Nat) {z : Nat} (x1 : Int32) {S Z : HS} (hfr : hFr S) (hG : (hMz z) S) (hf : fn_X9_scaleNumber x1 S = some Z) : hMet l yX9_scaleNumber cX9_scaleNumber 3 none ({ frames := 7, cells := 0, slots := 0, locals := 152 } : Room) D B cy A ad av true (hMz z) [.ref (B + 0), .int x1] S Z none 0 0 := by
  refine h_entry (by decide) hfr hG ?_
  intro p e s m below meth c args X hnm hw
  have hl := lv_entry ([.ref (B + 0), .int x1]) (n := 3) (Nat.le_of_ble_eq_true rfl)
  rw [lg_entry_eq]
  generalize (lg_sl ([.ref (B + 0), .int x1]) ++ List.replicate (3 - (lg_sl ([.ref (B + 0), .int x1])).length) Slot.unset).toArray = ls at hl ⊢
  have hl : lv_has ls 3 [(0, .ref (B + 0)), (1, .int x1)] := hl
  unfold fn_X9_scaleNumber at hf
  refine lv_aload_n X.1 X.2.1 dX9_scaleNumber_0 rfl (lv_at hl 0 rfl) ?_
  refine r_getI X hw (κ := 10) rfl inlX9 22 (by decide) rfl (by decide) tw_447 (hMk hw.2.2.2.2.2.1 0 rfl) dX9_scaleNumber_1 ?_
  refine lv_if_ne (tgt := 35) X.1 X.2.1 dX9_scaleNumber_4 (by decide) (fun hq => ?_) (fun hq => ?_)
  · replace hf := cd_fk hq hf
    exact w_X9_scaleNumber_35 X  _ _ _ _ _ hf hw (lv_sub hl [0, 1] rfl)
  · replace hf := cd_tk hq hf
    refine lv_aload_n X.1 X.2.1 dX9_scaleNumber_7 rfl (lv_at hl 0 rfl) ?_
    refine r_getI X hw (κ := 10) rfl inlX9 20 (by decide) rfl (by decide) tw_457 (hMk hw.2.2.2.2.2.1 0 rfl) dX9_scaleNumber_8 ?_
    refine lv_iconst (v := 3) X.1 X.2.1 dX9_scaleNumber_11 (by decide) ?_
    refine lv_icmp_ne (tgt := 35) X.1 X.2.1 dX9_scaleNumber_12 (by decide) (fun hq => ?_) (fun hq => ?_)
    · replace hf := cd_fk hq hf
      exact w_X9_scaleNumber_35 X  _ _ _ _ _ hf hw (lv_sub hl [0, 1] rfl)
    · replace hf := cd_tk hq hf
      refine lv_aload_n X.1 X.2.1 dX9_scaleNumber_15 rfl (lv_at hl 0 rfl) ?_
      refine r_getF X hw (κ := 10) rfl inlX9 16 (by decide) rfl (by decide) tw_116 (hMk hw.2.2.2.2.2.1 0 rfl) (hMr hw.2.2.2.2.2.1 0 16 rfl) dX9_scaleNumber_16 ?_
      refine lv_iload_n X.1 X.2.1 dX9_scaleNumber_19 rfl (lv_at hl 1 rfl) ?_
      obtain ⟨g1, hf⟩ := gd_ok hf
      refine r_iald X hw (hMk hw.2.2.2.2.2.1 13 rfl) (hMn hw.2.2.2.2.2.1 13 rfl) g1 dX9_scaleNumber_20 ?_
      refine lv_bipush (v := 8) X.1 X.2.1 dX9_scaleNumber_21 (by decide) ?_
      refine lv_icmp_ne (tgt := 35) X.1 X.2.1 dX9_scaleNumber_23 (by decide) (fun hq => ?_) (fun hq => ?_)
      · replace hf := cd_fk hq hf
        exact w_X9_scaleNumber_35 X  _ _ _ _ _ hf hw (lv_sub hl [0, 1] rfl)
      · replace hf := cd_tk hq hf
        refine lv_aload_n X.1 X.2.1 dX9_scaleNumber_26 rfl (lv_at hl 0 rfl) ?_
        refine lv_iconst (v := 2) X.1 X.2.1 dX9_scaleNumber_27 (by decide) ?_
        refine lv_aload_n X.1 X.2.1 dX9_scaleNumber_28 rfl (lv_at hl 0 rfl) ?_
        refine r_getI X hw (κ := 10) rfl inlX9 19 (by decide) rfl (by decide) tw_462 (hMk hw.2.2.2.2.2.1 0 rfl) dX9_scaleNumber_29 ?_
        obtain ⟨S2, hS2, hf⟩ := bn_ok hf
        refine r_callV (As := [.int 2, .int (gI S 0 19)]) (rest := []) (st1 := []) (κ := 10) X hw (c_X9_wrong l D B cy A ad av 2 (gI S 0 19) hw.2.2.2.2.1 hw.2.2.2.2.2 hS2) ⟨rfl, rfl, Nat.le_of_ble_eq_true rfl, Nat.le_of_ble_eq_true rfl⟩ rfl (by decide) (hMk hw.2.2.2.2.2.1 0 rfl) tw_484 tw_485 tw_486 tw_5 tw_487 hd_X9_wrong rfl hl.1 rfl (Nat.le_of_ble_eq_true rfl) dX9_scaleNumber_32 ⟨Nat.le_of_ble_eq_true rfl, Nat.le_of_ble_eq_true rfl⟩ rfl (fun H locs hw => ?_)
        exact w_X9_scaleNumber_35 X  _ _ _ _ _ hf hw (lv_sub hl [0, 1] rfl)
set_option maxHeartbeats 4000000 in
theorem w_X9_factOf_56 {p : Program} {l : Launch} {e : Env} {s : State} {m : MethodId} {args : Array Value} {below : List Frame} {meth : Method} {c : Code} {D : va_G} {B : Nat} {cy : Nat → ClassId} {A : Nat → Prop} {ad av : Nat → Nat} {Z : HS} (X : hCX p s m args meth c RX9 cX9_factOf 2 none D cy A ad av) {z : Nat}  (x1 : Int32) (S : HS) (H : Heap) (locs : List Loc) (ls : Array Slot) (hf : fn_X9_factOf_56 x1 S = some Z) (hw : hWd D B cy A true (hMz z) S s.heap H locs) (hl : lv_has ls 2 [(0, .ref (B + 0)), (1, .int x1)]) : W p l e ({ frames := 7, cells := 0, slots := 0, locals := 152 } : Room) s m args below meth c H locs 0 0 (MQ below (hQo D B cy A true (hMz z) Z none) args s 0 0 A) (F0 m 56 ls []) := by
  unfold fn_X9_factOf_56 at hf
  refine lv_aload_n X.1 X.2.1 dX9_factOf_56 rfl (lv_at hl 0 rfl) ?_
  refine r_getF X hw (κ := 10) rfl inlX9 11 (by decide) rfl (by decide) tw_111 (hMk hw.2.2.2.2.2.1 0 rfl) (hMr hw.2.2.2.2.2.1 0 11 rfl) dX9_factOf_57 ?_
  refine lv_iload_n X.1 X.2.1 dX9_factOf_60 rfl (lv_at hl 1 rfl) ?_
  refine lv_aload_n X.1 X.2.1 dX9_factOf_61 rfl (lv_at hl 0 rfl) ?_
  refine r_getI X hw (κ := 10) rfl inlX9 21 (by decide) rfl (by decide) tw_463 (hMk hw.2.2.2.2.2.1 0 rfl) dX9_factOf_62 ?_
  obtain ⟨g1, hf⟩ := gd_ok hf
  obtain ⟨S2, eS2, hf⟩ := bn_ok hf
  replace eS2 := Option.some.inj eS2
  refine r_iast X hw (hMk hw.2.2.2.2.2.1 8 rfl) (hMn hw.2.2.2.2.2.1 8 rfl) g1 hw.2.2.2.2.2 dX9_factOf_65 (fun H locs hw => ?_)
  rw [eS2] at hw
  refine lv_aload_n X.1 X.2.1 dX9_factOf_66 rfl (lv_at hl 0 rfl) ?_
  obtain ⟨S3, hS3, hf⟩ := bn_ok hf
  refine r_callV (As := []) (rest := []) (st1 := []) (κ := 10) X hw (c_X9_next l D B cy A ad av  hw.2.2.2.2.1 hw.2.2.2.2.2 hS3) ⟨rfl, rfl, Nat.le_of_ble_eq_true rfl, Nat.le_of_ble_eq_true rfl⟩ rfl (by decide) (hMk hw.2.2.2.2.2.1 0 rfl) tw_458 tw_459 tw_460 tw_5 tw_461 hd_X9_next rfl hl.1 rfl (Nat.le_of_ble_eq_true rfl) dX9_factOf_67 ⟨Nat.le_of_ble_eq_true rfl, Nat.le_of_ble_eq_true rfl⟩ rfl (fun H locs hw => ?_)
  refine lv_aload_n X.1 X.2.1 dX9_factOf_70 rfl (lv_at hl 0 rfl) ?_
  refine r_getF X hw (κ := 10) rfl inlX9 12 (by decide) rfl (by decide) tw_112 (hMk hw.2.2.2.2.2.1 0 rfl) (hMr hw.2.2.2.2.2.1 0 12 rfl) dX9_factOf_71 ?_
  refine lv_iload_n X.1 X.2.1 dX9_factOf_74 rfl (lv_at hl 1 rfl) ?_
  refine lv_aload_n X.1 X.2.1 dX9_factOf_75 rfl (lv_at hl 0 rfl) ?_
  refine lv_iconst (v := 3) X.1 X.2.1 dX9_factOf_76 (by decide) ?_
  obtain ⟨r5, S4, hS4, hf⟩ := bn2_ok hf
  refine r_callV (As := [.int 3]) (rest := [.int x1, .ref (B + 9)]) (st1 := [.int r5, .int x1, .ref (B + 9)]) (κ := 10) X hw (c_X9_takes l D B cy A ad av 3 hw.2.2.2.2.1 hw.2.2.2.2.2 hS4) ⟨rfl, rfl, Nat.le_of_ble_eq_true rfl, Nat.le_of_ble_eq_true rfl⟩ rfl (by decide) (hMk hw.2.2.2.2.2.1 0 rfl) tw_488 tw_489 tw_490 tw_5 tw_491 hd_X9_takes rfl hl.1 rfl (Nat.le_of_ble_eq_true rfl) dX9_factOf_77 ⟨Nat.le_of_ble_eq_true rfl, Nat.le_of_ble_eq_true rfl⟩ rfl (fun H locs hw => ?_)
  obtain ⟨g6, hf⟩ := gd_ok hf
  obtain ⟨S7, eS7, hf⟩ := bn_ok hf
  replace eS7 := Option.some.inj eS7
  refine r_iast X hw (hMk hw.2.2.2.2.2.1 9 rfl) (hMn hw.2.2.2.2.2.1 9 rfl) g6 hw.2.2.2.2.2 dX9_factOf_80 (fun H locs hw => ?_)
  rw [eS7] at hw
  cases hf
  exact r_vret X hw dX9_factOf_81
theorem hd_X9_factOf : yX9_factOf.cls = RX9 ∧ yX9_factOf.cls ≠ "java/lang/invoke/MethodHandle" ∧ yX9_factOf.cls ≠ "java/lang/invoke/VarHandle" ∧ (parseMethodDescriptor yX9_factOf.desc).map (fun d => d.parameters.length) = some 1 := by decide +kernel
set_option maxHeartbeats 4000000 in
theorem c_X9_factOf (l : Launch) (D : va_G) (B : Nat) (cy : Nat → ClassId) (A : Nat → Prop) (ad av : Nat → Nat) {z : Nat} (x1 : Int32) {S Z : HS} (hfr : hFr S) (hG : (hMz z) S) (hf : fn_X9_factOf x1 S = some Z) : hMet l yX9_factOf cX9_factOf 2 none ({ frames := 7, cells := 0, slots := 0, locals := 152 } : Room) D B cy A ad av true (hMz z) [.ref (B + 0), .int x1] S Z none 0 0 := by
  refine h_entry (by decide) hfr hG ?_
  intro p e s m below meth c args X hnm hw
  have hl := lv_entry ([.ref (B + 0), .int x1]) (n := 2) (Nat.le_of_ble_eq_true rfl)
  rw [lg_entry_eq]
  generalize (lg_sl ([.ref (B + 0), .int x1]) ++ List.replicate (2 - (lg_sl ([.ref (B + 0), .int x1])).length) Slot.unset).toArray = ls at hl ⊢
  have hl : lv_has ls 2 [(0, .ref (B + 0)), (1, .int x1)] := hl
  unfold fn_X9_factOf at hf
  refine lv_aload_n X.1 X.2.1 dX9_factOf_0 rfl (lv_at hl 0 rfl) ?_
  refine r_getF X hw (κ := 10) rfl inlX9 10 (by decide) rfl (by decide) tw_110 (hMk hw.2.2.2.2.2.1 0 rfl) (hMr hw.2.2.2.2.2.1 0 10 rfl) dX9_factOf_1 ?_
  refine lv_iload_n X.1 X.2.1 dX9_factOf_4 rfl (lv_at hl 1 rfl) ?_
  refine lv_aload_n X.1 X.2.1 dX9_factOf_5 rfl (lv_at hl 0 rfl) ?_
  refine lv_iconst (v := 2) X.1 X.2.1 dX9_factOf_6 (by decide) ?_
  obtain ⟨r2, S1, hS1, hf⟩ := bn2_ok hf
  refine r_callV (As := [.int 2]) (rest := [.int x1, .ref (B + 7)]) (st1 := [.int r2, .int x1, .ref (B + 7)]) (κ := 10) X hw (c_X9_takes l D B cy A ad av 2 hw.2.2.2.2.1 hw.2.2.2.2.2 hS1) ⟨rfl, rfl, Nat.le_of_ble_eq_true rfl, Nat.le_of_ble_eq_true rfl⟩ rfl (by decide) (hMk hw.2.2.2.2.2.1 0 rfl) tw_488 tw_489 tw_490 tw_5 tw_491 hd_X9_takes rfl hl.1 rfl (Nat.le_of_ble_eq_true rfl) dX9_factOf_7 ⟨Nat.le_of_ble_eq_true rfl, Nat.le_of_ble_eq_true rfl⟩ rfl (fun H locs hw => ?_)
  obtain ⟨g3, hf⟩ := gd_ok hf
  obtain ⟨S4, eS4, hf⟩ := bn_ok hf
  replace eS4 := Option.some.inj eS4
  refine r_iast X hw (hMk hw.2.2.2.2.2.1 7 rfl) (hMn hw.2.2.2.2.2.1 7 rfl) g3 hw.2.2.2.2.2 dX9_factOf_10 (fun H locs hw => ?_)
  rw [eS4] at hw
  refine lv_aload_n X.1 X.2.1 dX9_factOf_11 rfl (lv_at hl 0 rfl) ?_
  refine r_getI X hw (κ := 10) rfl inlX9 22 (by decide) rfl (by decide) tw_447 (hMk hw.2.2.2.2.2.1 0 rfl) dX9_factOf_12 ?_
  refine lv_if_eq (tgt := 19) X.1 X.2.1 dX9_factOf_15 (by decide) (fun hq => ?_) (fun hq => ?_)
  · replace hf := cd_tk hq hf
    refine lv_aload_n X.1 X.2.1 dX9_factOf_19 rfl (lv_at hl 0 rfl) ?_
    refine lv_bipush (v := 60) X.1 X.2.1 dX9_factOf_20 (by decide) ?_
    obtain ⟨r6, S5, hS5, hf⟩ := bn2_ok hf
    refine r_callV (As := [.int 60]) (rest := []) (st1 := [.int r6]) (κ := 10) X hw (c_X9_isSign l D B cy A ad av 60 hw.2.2.2.2.1 hw.2.2.2.2.2 hS5) ⟨rfl, rfl, Nat.le_of_ble_eq_true rfl, Nat.le_of_ble_eq_true rfl⟩ rfl (by decide) (hMk hw.2.2.2.2.2.1 0 rfl) tw_500 tw_501 tw_502 tw_5 tw_503 hd_X9_isSign rfl hl.1 rfl (Nat.le_of_ble_eq_true rfl) dX9_factOf_22 ⟨Nat.le_of_ble_eq_true rfl, Nat.le_of_ble_eq_true rfl⟩ rfl (fun H locs hw => ?_)
    refine lv_if_ne (tgt := 56) X.1 X.2.1 dX9_factOf_25 (by decide) (fun hq => ?_) (fun hq => ?_)
    · replace hf := cd_fk hq hf
      exact w_X9_factOf_56 X  _ _ _ _ _ hf hw (lv_sub hl [0, 1] rfl)
    · replace hf := cd_tk hq hf
      refine lv_aload_n X.1 X.2.1 dX9_factOf_28 rfl (lv_at hl 0 rfl) ?_
      refine lv_bipush (v := 62) X.1 X.2.1 dX9_factOf_29 (by decide) ?_
      obtain ⟨r8, S7, hS7, hf⟩ := bn2_ok hf
      refine r_callV (As := [.int 62]) (rest := []) (st1 := [.int r8]) (κ := 10) X hw (c_X9_isSign l D B cy A ad av 62 hw.2.2.2.2.1 hw.2.2.2.2.2 hS7) ⟨rfl, rfl, Nat.le_of_ble_eq_true rfl, Nat.le_of_ble_eq_true rfl⟩ rfl (by decide) (hMk hw.2.2.2.2.2.1 0 rfl) tw_500 tw_501 tw_502 tw_5 tw_503 hd_X9_isSign rfl hl.1 rfl (Nat.le_of_ble_eq_true rfl) dX9_factOf_31 ⟨Nat.le_of_ble_eq_true rfl, Nat.le_of_ble_eq_true rfl⟩ rfl (fun H locs hw => ?_)
      refine lv_if_ne (tgt := 56) X.1 X.2.1 dX9_factOf_34 (by decide) (fun hq => ?_) (fun hq => ?_)
      · replace hf := cd_fk hq hf
        exact w_X9_factOf_56 X  _ _ _ _ _ hf hw (lv_sub hl [0, 1] rfl)
      · replace hf := cd_tk hq hf
        refine lv_aload_n X.1 X.2.1 dX9_factOf_37 rfl (lv_at hl 0 rfl) ?_
        refine lv_bipush (v := 61) X.1 X.2.1 dX9_factOf_38 (by decide) ?_
        obtain ⟨r10, S9, hS9, hf⟩ := bn2_ok hf
        refine r_callV (As := [.int 61]) (rest := []) (st1 := [.int r10]) (κ := 10) X hw (c_X9_isSign l D B cy A ad av 61 hw.2.2.2.2.1 hw.2.2.2.2.2 hS9) ⟨rfl, rfl, Nat.le_of_ble_eq_true rfl, Nat.le_of_ble_eq_true rfl⟩ rfl (by decide) (hMk hw.2.2.2.2.2.1 0 rfl) tw_500 tw_501 tw_502 tw_5 tw_503 hd_X9_isSign rfl hl.1 rfl (Nat.le_of_ble_eq_true rfl) dX9_factOf_40 ⟨Nat.le_of_ble_eq_true rfl, Nat.le_of_ble_eq_true rfl⟩ rfl (fun H locs hw => ?_)
        refine lv_if_ne (tgt := 56) X.1 X.2.1 dX9_factOf_43 (by decide) (fun hq => ?_) (fun hq => ?_)
        · replace hf := cd_fk hq hf
          exact w_X9_factOf_56 X  _ _ _ _ _ hf hw (lv_sub hl [0, 1] rfl)
        · replace hf := cd_tk hq hf
          refine lv_aload_n X.1 X.2.1 dX9_factOf_46 rfl (lv_at hl 0 rfl) ?_
          refine lv_iconst (v := 1) X.1 X.2.1 dX9_factOf_47 (by decide) ?_
          refine lv_aload_n X.1 X.2.1 dX9_factOf_48 rfl (lv_at hl 0 rfl) ?_
          refine r_getI X hw (κ := 10) rfl inlX9 19 (by decide) rfl (by decide) tw_462 (hMk hw.2.2.2.2.2.1 0 rfl) dX9_factOf_49 ?_
          obtain ⟨S11, hS11, hf⟩ := bn_ok hf
          refine r_callV (As := [.int 1, .int (gI S9 0 19)]) (rest := []) (st1 := []) (κ := 10) X hw (c_X9_wrong l D B cy A ad av 1 (gI S9 0 19) hw.2.2.2.2.1 hw.2.2.2.2.2 hS11) ⟨rfl, rfl, Nat.le_of_ble_eq_true rfl, Nat.le_of_ble_eq_true rfl⟩ rfl (by decide) (hMk hw.2.2.2.2.2.1 0 rfl) tw_484 tw_485 tw_486 tw_5 tw_487 hd_X9_wrong rfl hl.1 rfl (Nat.le_of_ble_eq_true rfl) dX9_factOf_52 ⟨Nat.le_of_ble_eq_true rfl, Nat.le_of_ble_eq_true rfl⟩ rfl (fun H locs hw => ?_)
          cases hf
          exact r_vret X hw dX9_factOf_55
  · replace hf := cd_fk hq hf
    cases hf
    exact r_vret X hw dX9_factOf_18
set_option maxHeartbeats 4000000 in
theorem w_X9_named_197 {p : Program} {l : Launch} {e : Env} {s : State} {m : MethodId} {args : Array Value} {below : List Frame} {meth : Method} {c : Code} {D : va_G} {B : Nat} {cy : Nat → ClassId} {A : Nat → Prop} {ad av : Nat → Nat} {Z : HS} (X : hCX p s m args meth c RX9 cX9_named 3 none D cy A ad av) {z : Nat}   (S : HS) (H : Heap) (locs : List Loc) (ls : Array Slot) (hf : fn_X9_named_197 S = some Z) (hw : hWd D B cy A true (hMz z) S s.heap H locs) (hl : lv_has ls 3 []) : W p l e ({ frames := 8, cells := 0, slots := 0, locals := 174 } : Room) s m args below meth c H locs 0 0 (MQ below (hQo D B cy A true (hMz z) Z none) args s 0 0 A) (F0 m 197 ls []) := by
  unfold fn_X9_named_197 at hf
  cases hf
  exact r_vret X hw dX9_named_197
set_option maxHeartbeats 4000000 in
theorem w_X9_named_186 {p : Program} {l : Launch} {e : Env} {s : State} {m : MethodId} {args : Array Value} {below : List Frame} {meth : Method} {c : Code} {D : va_G} {B : Nat} {cy : Nat → ClassId} {A : Nat → Prop} {ad av : Nat → Nat} {Z : HS} (X : hCX p s m args meth c RX9 cX9_named 3 none D cy A ad av) {z : Nat}  (x1 : Int32) (S : HS) (H : Heap) (locs : List Loc) (ls : Array Slot) (hf : fn_X9_named_186 x1 S = some Z) (hw : hWd D B cy A true (hMz z) S s.heap H locs) (hl : lv_has ls 3 [(0, .ref (B + 0)), (1, .int x1)]) : W p l e ({ frames := 8, cells := 0, slots := 0, locals := 174 } : Room) s m args below meth c H locs 0 0 (MQ below (hQo D B cy A true (hMz z) Z none) args s 0 0 A) (F0 m 186 ls []) := by
  unfold fn_X9_named_186 at hf
  refine lv_aload_n X.1 X.2.1 dX9_named_186 rfl (lv_at hl 0 rfl) ?_
  refine r_getF X hw (κ := 10) rfl inlX9 14 (by decide) rfl (by decide) tw_114 (hMk hw.2.2.2.2.2.1 0 rfl) (hMr hw.2.2.2.2.2.1 0 14 rfl) dX9_named_187 ?_
  refine lv_iload_n X.1 X.2.1 dX9_named_190 rfl (lv_at hl 1 rfl) ?_
  refine lv_iconst (v := 1) X.1 X.2.1 dX9_named_191 (by decide) ?_
  obtain ⟨g1, hf⟩ := gd_ok hf
  obtain ⟨S2, eS2, hf⟩ := bn_ok hf
  replace eS2 := Option.some.inj eS2
  refine r_zast X hw (hMk hw.2.2.2.2.2.1 11 rfl) (hMn hw.2.2.2.2.2.1 11 rfl) g1 (by decide) hw.2.2.2.2.2 dX9_named_192 (fun H locs hw => ?_)
  rw [eS2] at hw
  refine lv_aload_n X.1 X.2.1 dX9_named_193 rfl (lv_at hl 0 rfl) ?_
  obtain ⟨S3, hS3, hf⟩ := bn_ok hf
  refine r_callV (As := []) (rest := []) (st1 := []) (κ := 10) X hw (c_X9_next l D B cy A ad av  hw.2.2.2.2.1 hw.2.2.2.2.2 hS3) ⟨rfl, rfl, Nat.le_of_ble_eq_true rfl, Nat.le_of_ble_eq_true rfl⟩ rfl (by decide) (hMk hw.2.2.2.2.2.1 0 rfl) tw_458 tw_459 tw_460 tw_5 tw_461 hd_X9_next rfl hl.1 rfl (Nat.le_of_ble_eq_true rfl) dX9_named_194 ⟨Nat.le_of_ble_eq_true rfl, Nat.le_of_ble_eq_true rfl⟩ rfl (fun H locs hw => ?_)
  exact w_X9_named_197 X  _ _ _ _ hf hw (lv_sub hl [] rfl)
set_option maxHeartbeats 4000000 in
theorem w_X9_named_164 {p : Program} {l : Launch} {e : Env} {s : State} {m : MethodId} {args : Array Value} {below : List Frame} {meth : Method} {c : Code} {D : va_G} {B : Nat} {cy : Nat → ClassId} {A : Nat → Prop} {ad av : Nat → Nat} {Z : HS} (X : hCX p s m args meth c RX9 cX9_named 3 none D cy A ad av) {z : Nat}   (S : HS) (H : Heap) (locs : List Loc) (ls : Array Slot) (hf : fn_X9_named_164 S = some Z) (hw : hWd D B cy A true (hMz z) S s.heap H locs) (hl : lv_has ls 3 []) : W p l e ({ frames := 8, cells := 0, slots := 0, locals := 174 } : Room) s m args below meth c H locs 0 0 (MQ below (hQo D B cy A true (hMz z) Z none) args s 0 0 A) (F0 m 164 ls []) := by
  unfold fn_X9_named_164 at hf
  cases hf
  exact r_vret X hw dX9_named_164
set_option maxHeartbeats 4000000 in
theorem w_X9_named_133 {p : Program} {l : Launch} {e : Env} {s : State} {m : MethodId} {args : Array Value} {below : List Frame} {meth : Method} {c : Code} {D : va_G} {B : Nat} {cy : Nat → ClassId} {A : Nat → Prop} {ad av : Nat → Nat} {Z : HS} (X : hCX p s m args meth c RX9 cX9_named 3 none D cy A ad av) {z : Nat}  (x1 : Int32) (x2 : Int32) (S : HS) (H : Heap) (locs : List Loc) (ls : Array Slot) (hf : fn_X9_named_133 x1 x2 S = some Z) (hw : hWd D B cy A true (hMz z) S s.heap H locs) (hl : lv_has ls 3 [(0, .ref (B + 0)), (1, .int x1), (2, .int x2)]) : W p l e ({ frames := 8, cells := 0, slots := 0, locals := 174 } : Room) s m args below meth c H locs 0 0 (MQ below (hQo D B cy A true (hMz z) Z none) args s 0 0 A) (F0 m 133 ls []) := by
  unfold fn_X9_named_133 at hf
  refine lv_aload_n X.1 X.2.1 dX9_named_133 rfl (lv_at hl 0 rfl) ?_
  refine lv_bipush (v := 61) X.1 X.2.1 dX9_named_134 (by decide) ?_
  obtain ⟨S1, hS1, hf⟩ := bn_ok hf
  refine r_callV (As := [.int 61]) (rest := []) (st1 := []) (κ := 10) X hw (c_X9_wants l D B cy A ad av 61 hw.2.2.2.2.1 hw.2.2.2.2.2 hS1) ⟨rfl, rfl, Nat.le_of_ble_eq_true rfl, Nat.le_of_ble_eq_true rfl⟩ rfl (by decide) (hMk hw.2.2.2.2.2.1 0 rfl) tw_496 tw_497 tw_498 tw_5 tw_499 hd_X9_wants rfl hl.1 rfl (Nat.le_of_ble_eq_true rfl) dX9_named_136 ⟨Nat.le_of_ble_eq_true rfl, Nat.le_of_ble_eq_true rfl⟩ rfl (fun H locs hw => ?_)
  refine lv_aload_n X.1 X.2.1 dX9_named_139 rfl (lv_at hl 0 rfl) ?_
  refine r_getF X hw (κ := 10) rfl inlX9 13 (by decide) rfl (by decide) tw_113 (hMk hw.2.2.2.2.2.1 0 rfl) (hMr hw.2.2.2.2.2.1 0 13 rfl) dX9_named_140 ?_
  refine lv_iload_n X.1 X.2.1 dX9_named_143 rfl (lv_at hl 1 rfl) ?_
  refine lv_aload_n X.1 X.2.1 dX9_named_144 rfl (lv_at hl 0 rfl) ?_
  refine lv_iconst (v := 3) X.1 X.2.1 dX9_named_145 (by decide) ?_
  obtain ⟨r3, S2, hS2, hf⟩ := bn2_ok hf
  refine r_callV (As := [.int 3]) (rest := [.int x1, .ref (B + 10)]) (st1 := [.int r3, .int x1, .ref (B + 10)]) (κ := 10) X hw (c_X9_takes l D B cy A ad av 3 hw.2.2.2.2.1 hw.2.2.2.2.2 hS2) ⟨rfl, rfl, Nat.le_of_ble_eq_true rfl, Nat.le_of_ble_eq_true rfl⟩ rfl (by decide) (hMk hw.2.2.2.2.2.1 0 rfl) tw_488 tw_489 tw_490 tw_5 tw_491 hd_X9_takes rfl hl.1 rfl (Nat.le_of_ble_eq_true rfl) dX9_named_146 ⟨Nat.le_of_ble_eq_true rfl, Nat.le_of_ble_eq_true rfl⟩ rfl (fun H locs hw => ?_)
  obtain ⟨g4, hf⟩ := gd_ok hf
  obtain ⟨S5, eS5, hf⟩ := bn_ok hf
  replace eS5 := Option.some.inj eS5
  refine r_iast X hw (hMk hw.2.2.2.2.2.1 10 rfl) (hMn hw.2.2.2.2.2.1 10 rfl) g4 hw.2.2.2.2.2 dX9_named_149 (fun H locs hw => ?_)
  rw [eS5] at hw
  refine lv_iload_n X.1 X.2.1 dX9_named_150 rfl (lv_at hl 2 rfl) ?_
  refine lv_iconst (v := 5) X.1 X.2.1 dX9_named_151 (by decide) ?_
  refine lv_icmp_ne (tgt := 164) X.1 X.2.1 dX9_named_152 (by decide) (fun hq => ?_) (fun hq => ?_)
  · replace hf := cd_fk hq hf
    exact w_X9_named_164 X  _ _ _ _ hf hw (lv_sub hl [] rfl)
  · replace hf := cd_tk hq hf
    refine lv_aload_n X.1 X.2.1 dX9_named_155 rfl (lv_at hl 0 rfl) ?_
    refine lv_bipush (v := 37) X.1 X.2.1 dX9_named_156 (by decide) ?_
    obtain ⟨r7, S6, hS6, hf⟩ := bn2_ok hf
    refine r_callV (As := [.int 37]) (rest := []) (st1 := [.int r7]) (κ := 10) X hw (c_X9_isSign l D B cy A ad av 37 hw.2.2.2.2.1 hw.2.2.2.2.2 hS6) ⟨rfl, rfl, Nat.le_of_ble_eq_true rfl, Nat.le_of_ble_eq_true rfl⟩ rfl (by decide) (hMk hw.2.2.2.2.2.1 0 rfl) tw_500 tw_501 tw_502 tw_5 tw_503 hd_X9_isSign rfl hl.1 rfl (Nat.le_of_ble_eq_true rfl) dX9_named_158 ⟨Nat.le_of_ble_eq_true rfl, Nat.le_of_ble_eq_true rfl⟩ rfl (fun H locs hw => ?_)
    refine lv_if_ne (tgt := 165) X.1 X.2.1 dX9_named_161 (by decide) (fun hq => ?_) (fun hq => ?_)
    · replace hf := cd_fk hq hf
      refine lv_aload_n X.1 X.2.1 dX9_named_165 rfl (lv_at hl 0 rfl) ?_
      refine r_getF X hw (κ := 10) rfl inlX9 13 (by decide) rfl (by decide) tw_113 (hMk hw.2.2.2.2.2.1 0 rfl) (hMr hw.2.2.2.2.2.1 0 13 rfl) dX9_named_166 ?_
      refine lv_iload_n X.1 X.2.1 dX9_named_169 rfl (lv_at hl 1 rfl) ?_
      obtain ⟨g8, hf⟩ := gd_ok hf
      refine r_iald X hw (hMk hw.2.2.2.2.2.1 10 rfl) (hMn hw.2.2.2.2.2.1 10 rfl) g8 dX9_named_170 ?_
      refine lv_sipush (v := 999) X.1 X.2.1 dX9_named_171 (by decide) ?_
      refine lv_icmp_le (tgt := 186) X.1 X.2.1 dX9_named_174 (by decide) (fun hq => ?_) (fun hq => ?_)
      · replace hf := cd_tk hq hf
        exact w_X9_named_186 X  _ _ _ _ _ hf hw (lv_sub hl [0, 1] rfl)
      · replace hf := cd_fk hq hf
        refine lv_aload_n X.1 X.2.1 dX9_named_177 rfl (lv_at hl 0 rfl) ?_
        refine lv_iconst (v := 2) X.1 X.2.1 dX9_named_178 (by decide) ?_
        refine lv_aload_n X.1 X.2.1 dX9_named_179 rfl (lv_at hl 0 rfl) ?_
        refine r_getI X hw (κ := 10) rfl inlX9 19 (by decide) rfl (by decide) tw_462 (hMk hw.2.2.2.2.2.1 0 rfl) dX9_named_180 ?_
        obtain ⟨S9, hS9, hf⟩ := bn_ok hf
        refine r_callV (As := [.int 2, .int (gI S6 0 19)]) (rest := []) (st1 := []) (κ := 10) X hw (c_X9_wrong l D B cy A ad av 2 (gI S6 0 19) hw.2.2.2.2.1 hw.2.2.2.2.2 hS9) ⟨rfl, rfl, Nat.le_of_ble_eq_true rfl, Nat.le_of_ble_eq_true rfl⟩ rfl (by decide) (hMk hw.2.2.2.2.2.1 0 rfl) tw_484 tw_485 tw_486 tw_5 tw_487 hd_X9_wrong rfl hl.1 rfl (Nat.le_of_ble_eq_true rfl) dX9_named_183 ⟨Nat.le_of_ble_eq_true rfl, Nat.le_of_ble_eq_true rfl⟩ rfl (fun H locs hw => ?_)
        exact w_X9_named_186 X  _ _ _ _ _ hf hw (lv_sub hl [0, 1] rfl)
    · replace hf := cd_tk hq hf
      exact w_X9_named_164 X  _ _ _ _ hf hw (lv_sub hl [] rfl)
set_option maxHeartbeats 4000000 in
theorem w_X9_named_128 {p : Program} {l : Launch} {e : Env} {s : State} {m : MethodId} {args : Array Value} {below : List Frame} {meth : Method} {c : Code} {D : va_G} {B : Nat} {cy : Nat → ClassId} {A : Nat → Prop} {ad av : Nat → Nat} {Z : HS} (X : hCX p s m args meth c RX9 cX9_named 3 none D cy A ad av) {z : Nat}  (x1 : Int32) (x2 : Int32) (S : HS) (H : Heap) (locs : List Loc) (ls : Array Slot) (hf : fn_X9_named_128 x1 x2 S = some Z) (hw : hWd D B cy A true (hMz z) S s.heap H locs) (hl : lv_has ls 3 [(0, .ref (B + 0)), (1, .int x1), (2, .int x2)]) : W p l e ({ frames := 8, cells := 0, slots := 0, locals := 174 } : Room) s m args below meth c H locs 0 0 (MQ below (hQo D B cy A true (hMz z) Z none) args s 0 0 A) (F0 m 128 ls []) := by
  unfold fn_X9_named_128 at hf
  refine lv_aload_n X.1 X.2.1 dX9_named_128 rfl (lv_at hl 0 rfl) ?_
  refine lv_iload_n X.1 X.2.1 dX9_named_129 rfl (lv_at hl 1 rfl) ?_
  obtain ⟨S1, hS1, hf⟩ := bn_ok hf
  refine r_callV (As := [.int x1]) (rest := []) (st1 := []) (κ := 10) X hw (c_X9_factOf l D B cy A ad av x1 hw.2.2.2.2.1 hw.2.2.2.2.2 hS1) ⟨rfl, rfl, Nat.le_of_ble_eq_true rfl, Nat.le_of_ble_eq_true rfl⟩ rfl (by decide) (hMk hw.2.2.2.2.2.1 0 rfl) tw_508 tw_509 tw_510 tw_5 tw_511 hd_X9_factOf rfl hl.1 rfl (Nat.le_of_ble_eq_true rfl) dX9_named_130 ⟨Nat.le_of_ble_eq_true rfl, Nat.le_of_ble_eq_true rfl⟩ rfl (fun H locs hw => ?_)
  exact w_X9_named_133 X  _ _ _ _ _ _ hf hw (lv_sub hl [0, 1, 2] rfl)
set_option maxHeartbeats 4000000 in
theorem w_X9_named_88 {p : Program} {l : Launch} {e : Env} {s : State} {m : MethodId} {args : Array Value} {below : List Frame} {meth : Method} {c : Code} {D : va_G} {B : Nat} {cy : Nat → ClassId} {A : Nat → Prop} {ad av : Nat → Nat} {Z : HS} (X : hCX p s m args meth c RX9 cX9_named 3 none D cy A ad av) {z : Nat}  : ∀ (n : Nat) (x1 : Int32) (S : HS) (H : Heap) (locs : List Loc) (ls : Array Slot), fn_X9_named_88 n x1 S = some Z → hWd D B cy A true (hMz z) S s.heap H locs → lv_has ls 3 [(0, .ref (B + 0)), (1, .int x1)] → W p l e ({ frames := 8, cells := 0, slots := 0, locals := 174 } : Room) s m args below meth c H locs 0 0 (MQ below (hQo D B cy A true (hMz z) Z none) args s 0 0 A) (F0 m 88 ls []) := by
  intro n
  induction n with
  | zero =>
    intro x1 S H locs ls hf
    cases hf
  | succ n ih =>
    intro x1 S H locs ls hf hw hl
    rw [fn_X9_named_88] at hf
    refine lv_aload_n X.1 X.2.1 dX9_named_88 rfl (lv_at hl 0 rfl) ?_
    refine lv_bipush (v := 44) X.1 X.2.1 dX9_named_89 (by decide) ?_
    obtain ⟨r2, S1, hS1, hf⟩ := bn2_ok hf
    refine r_callV (As := [.int 44]) (rest := []) (st1 := [.int r2]) (κ := 10) X hw (c_X9_isSign l D B cy A ad av 44 hw.2.2.2.2.1 hw.2.2.2.2.2 hS1) ⟨rfl, rfl, Nat.le_of_ble_eq_true rfl, Nat.le_of_ble_eq_true rfl⟩ rfl (by decide) (hMk hw.2.2.2.2.2.1 0 rfl) tw_500 tw_501 tw_502 tw_5 tw_503 hd_X9_isSign rfl hl.1 rfl (Nat.le_of_ble_eq_true rfl) dX9_named_91 ⟨Nat.le_of_ble_eq_true rfl, Nat.le_of_ble_eq_true rfl⟩ rfl (fun H locs hw => ?_)
    refine lv_if_eq (tgt := 197) X.1 X.2.1 dX9_named_94 (by decide) (fun hq => ?_) (fun hq => ?_)
    · replace hf := cd_tk hq hf
      exact w_X9_named_197 X  _ _ _ _ hf hw (lv_sub hl [] rfl)
    · replace hf := cd_fk hq hf
      refine lv_aload_n X.1 X.2.1 dX9_named_97 rfl (lv_at hl 0 rfl) ?_
      obtain ⟨S3, hS3, hf⟩ := bn_ok hf
      refine r_callV (As := []) (rest := []) (st1 := []) (κ := 10) X hw (c_X9_next l D B cy A ad av  hw.2.2.2.2.1 hw.2.2.2.2.2 hS3) ⟨rfl, rfl, Nat.le_of_ble_eq_true rfl, Nat.le_of_ble_eq_true rfl⟩ rfl (by decide) (hMk hw.2.2.2.2.2.1 0 rfl) tw_458 tw_459 tw_460 tw_5 tw_461 hd_X9_next rfl hl.1 rfl (Nat.le_of_ble_eq_true rfl) dX9_named_98 ⟨Nat.le_of_ble_eq_true rfl, Nat.le_of_ble_eq_true rfl⟩ rfl (fun H locs hw => ?_)
      refine lv_aload_n X.1 X.2.1 dX9_named_101 rfl (lv_at hl 0 rfl) ?_
      refine lv_iload_n X.1 X.2.1 dX9_named_102 rfl (lv_at hl 1 rfl) ?_
      obtain ⟨S4, hS4, hf⟩ := bn_ok hf
      refine r_callV (As := [.int x1]) (rest := []) (st1 := []) (κ := 10) X hw (c_X9_scaleNumber l D B cy A ad av x1 hw.2.2.2.2.1 hw.2.2.2.2.2 hS4) ⟨rfl, rfl, Nat.le_of_ble_eq_true rfl, Nat.le_of_ble_eq_true rfl⟩ rfl (by decide) (hMk hw.2.2.2.2.2.1 0 rfl) tw_504 tw_505 tw_506 tw_5 tw_507 hd_X9_scaleNumber rfl hl.1 rfl (Nat.le_of_ble_eq_true rfl) dX9_named_103 ⟨Nat.le_of_ble_eq_true rfl, Nat.le_of_ble_eq_true rfl⟩ rfl (fun H locs hw => ?_)
      refine lv_goto (tgt := 88) X.1 X.2.1 dX9_named_106 (by decide) ?_
      exact ih _ _ _ _ _ hf hw (lv_sub hl [0, 1] rfl)
set_option maxHeartbeats 4000000 in
theorem w_X9_named_51 {p : Program} {l : Launch} {e : Env} {s : State} {m : MethodId} {args : Array Value} {below : List Frame} {meth : Method} {c : Code} {D : va_G} {B : Nat} {cy : Nat → ClassId} {A : Nat → Prop} {ad av : Nat → Nat} {Z : HS} (X : hCX p s m args meth c RX9 cX9_named 3 none D cy A ad av) {z : Nat}  (x1 : Int32) (S : HS) (H : Heap) (locs : List Loc) (ls : Array Slot) (hf : fn_X9_named_51 x1 S = some Z) (hw : hWd D B cy A true (hMz z) S s.heap H locs) (hl : lv_has ls 3 [(0, .ref (B + 0)), (1, .int x1)]) : W p l e ({ frames := 8, cells := 0, slots := 0, locals := 174 } : Room) s m args below meth c H locs 0 0 (MQ below (hQo D B cy A true (hMz z) Z none) args s 0 0 A) (F0 m 51 ls []) := by
  unfold fn_X9_named_51 at hf
  refine lv_aload_n X.1 X.2.1 dX9_named_51 rfl (lv_at hl 0 rfl) ?_
  refine r_getF X hw (κ := 10) rfl inlX9 13 (by decide) rfl (by decide) tw_113 (hMk hw.2.2.2.2.2.1 0 rfl) (hMr hw.2.2.2.2.2.1 0 13 rfl) dX9_named_52 ?_
  refine lv_iload_n X.1 X.2.1 dX9_named_55 rfl (lv_at hl 1 rfl) ?_
  refine lv_aload_n X.1 X.2.1 dX9_named_56 rfl (lv_at hl 0 rfl) ?_
  refine lv_iconst (v := 3) X.1 X.2.1 dX9_named_57 (by decide) ?_
  obtain ⟨r2, S1, hS1, hf⟩ := bn2_ok hf
  refine r_callV (As := [.int 3]) (rest := [.int x1, .ref (B + 10)]) (st1 := [.int r2, .int x1, .ref (B + 10)]) (κ := 10) X hw (c_X9_takes l D B cy A ad av 3 hw.2.2.2.2.1 hw.2.2.2.2.2 hS1) ⟨rfl, rfl, Nat.le_of_ble_eq_true rfl, Nat.le_of_ble_eq_true rfl⟩ rfl (by decide) (hMk hw.2.2.2.2.2.1 0 rfl) tw_488 tw_489 tw_490 tw_5 tw_491 hd_X9_takes rfl hl.1 rfl (Nat.le_of_ble_eq_true rfl) dX9_named_58 ⟨Nat.le_of_ble_eq_true rfl, Nat.le_of_ble_eq_true rfl⟩ rfl (fun H locs hw => ?_)
  obtain ⟨g3, hf⟩ := gd_ok hf
  obtain ⟨S4, eS4, hf⟩ := bn_ok hf
  replace eS4 := Option.some.inj eS4
  refine r_iast X hw (hMk hw.2.2.2.2.2.1 10 rfl) (hMn hw.2.2.2.2.2.1 10 rfl) g3 hw.2.2.2.2.2 dX9_named_61 (fun H locs hw => ?_)
  rw [eS4] at hw
  refine lv_goto (tgt := 197) X.1 X.2.1 dX9_named_62 (by decide) ?_
  exact w_X9_named_197 X  _ _ _ _ hf hw (lv_sub hl [] rfl)
set_option maxHeartbeats 4000000 in
theorem w_X9_named_40 {p : Program} {l : Launch} {e : Env} {s : State} {m : MethodId} {args : Array Value} {below : List Frame} {meth : Method} {c : Code} {D : va_G} {B : Nat} {cy : Nat → ClassId} {A : Nat → Prop} {ad av : Nat → Nat} {Z : HS} (X : hCX p s m args meth c RX9 cX9_named 3 none D cy A ad av) {z : Nat}  (x1 : Int32) (S : HS) (H : Heap) (locs : List Loc) (ls : Array Slot) (hf : fn_X9_named_40 x1 S = some Z) (hw : hWd D B cy A true (hMz z) S s.heap H locs) (hl : lv_has ls 3 [(0, .ref (B + 0)), (1, .int x1)]) : W p l e ({ frames := 8, cells := 0, slots := 0, locals := 174 } : Room) s m args below meth c H locs 0 0 (MQ below (hQo D B cy A true (hMz z) Z none) args s 0 0 A) (F0 m 40 ls []) := by
  unfold fn_X9_named_40 at hf
  refine lv_aload_n X.1 X.2.1 dX9_named_40 rfl (lv_at hl 0 rfl) ?_
  refine r_getI X hw (κ := 10) rfl inlX9 22 (by decide) rfl (by decide) tw_447 (hMk hw.2.2.2.2.2.1 0 rfl) dX9_named_41 ?_
  refine lv_if_ne (tgt := 51) X.1 X.2.1 dX9_named_44 (by decide) (fun hq => ?_) (fun hq => ?_)
  · replace hf := cd_fk hq hf
    exact w_X9_named_51 X  _ _ _ _ _ hf hw (lv_sub hl [0, 1] rfl)
  · replace hf := cd_tk hq hf
    refine lv_aload_n X.1 X.2.1 dX9_named_47 rfl (lv_at hl 0 rfl) ?_
    obtain ⟨S1, hS1, hf⟩ := bn_ok hf
    refine r_callV (As := []) (rest := []) (st1 := []) (κ := 10) X hw (c_X9_next l D B cy A ad av  hw.2.2.2.2.1 hw.2.2.2.2.2 hS1) ⟨rfl, rfl, Nat.le_of_ble_eq_true rfl, Nat.le_of_ble_eq_true rfl⟩ rfl (by decide) (hMk hw.2.2.2.2.2.1 0 rfl) tw_458 tw_459 tw_460 tw_5 tw_461 hd_X9_next rfl hl.1 rfl (Nat.le_of_ble_eq_true rfl) dX9_named_48 ⟨Nat.le_of_ble_eq_true rfl, Nat.le_of_ble_eq_true rfl⟩ rfl (fun H locs hw => ?_)
    exact w_X9_named_51 X  _ _ _ _ _ hf hw (lv_sub hl [0, 1] rfl)
set_option maxHeartbeats 4000000 in
theorem w_X9_named_28 {p : Program} {l : Launch} {e : Env} {s : State} {m : MethodId} {args : Array Value} {below : List Frame} {meth : Method} {c : Code} {D : va_G} {B : Nat} {cy : Nat → ClassId} {A : Nat → Prop} {ad av : Nat → Nat} {Z : HS} (X : hCX p s m args meth c RX9 cX9_named 3 none D cy A ad av) {z : Nat}  (x1 : Int32) (S : HS) (H : Heap) (locs : List Loc) (ls : Array Slot) (hf : fn_X9_named_28 x1 S = some Z) (hw : hWd D B cy A true (hMz z) S s.heap H locs) (hl : lv_has ls 3 [(0, .ref (B + 0)), (1, .int x1)]) : W p l e ({ frames := 8, cells := 0, slots := 0, locals := 174 } : Room) s m args below meth c H locs 0 0 (MQ below (hQo D B cy A true (hMz z) Z none) args s 0 0 A) (F0 m 28 ls []) := by
  unfold fn_X9_named_28 at hf
  refine lv_aload_n X.1 X.2.1 dX9_named_28 rfl (lv_at hl 0 rfl) ?_
  refine lv_iconst (v := 1) X.1 X.2.1 dX9_named_29 (by decide) ?_
  refine lv_aload_n X.1 X.2.1 dX9_named_30 rfl (lv_at hl 0 rfl) ?_
  refine r_getI X hw (κ := 10) rfl inlX9 19 (by decide) rfl (by decide) tw_462 (hMk hw.2.2.2.2.2.1 0 rfl) dX9_named_31 ?_
  obtain ⟨S1, hS1, hf⟩ := bn_ok hf
  refine r_callV (As := [.int 1, .int (gI S 0 19)]) (rest := []) (st1 := []) (κ := 10) X hw (c_X9_wrong l D B cy A ad av 1 (gI S 0 19) hw.2.2.2.2.1 hw.2.2.2.2.2 hS1) ⟨rfl, rfl, Nat.le_of_ble_eq_true rfl, Nat.le_of_ble_eq_true rfl⟩ rfl (by decide) (hMk hw.2.2.2.2.2.1 0 rfl) tw_484 tw_485 tw_486 tw_5 tw_487 hd_X9_wrong rfl hl.1 rfl (Nat.le_of_ble_eq_true rfl) dX9_named_34 ⟨Nat.le_of_ble_eq_true rfl, Nat.le_of_ble_eq_true rfl⟩ rfl (fun H locs hw => ?_)
  refine lv_goto (tgt := 51) X.1 X.2.1 dX9_named_37 (by decide) ?_
  exact w_X9_named_51 X  _ _ _ _ _ hf hw (lv_sub hl [0, 1] rfl)
theorem hd_X9_named : yX9_named.cls = RX9 ∧ yX9_named.cls ≠ "java/lang/invoke/MethodHandle" ∧ yX9_named.cls ≠ "java/lang/invoke/VarHandle" ∧ (parseMethodDescriptor yX9_named.desc).map (fun d => d.parameters.length) = some 2 := by decide +kernel
set_option maxHeartbeats 4000000 in
theorem c_X9_named (l : Launch) (D : va_G) (B : Nat) (cy : Nat → ClassId) (A : Nat → Prop) (ad av : Nat → Nat) {z : Nat} (x1 : Int32) (x2 : Int32) {S Z : HS} (hfr : hFr S) (hG : (hMz z) S) (hf : fn_X9_named x1 x2 S = some Z) : hMet l yX9_named cX9_named 3 none ({ frames := 8, cells := 0, slots := 0, locals := 174 } : Room) D B cy A ad av true (hMz z) [.ref (B + 0), .int x1, .int x2] S Z none 0 0 := by
  refine h_entry (by decide) hfr hG ?_
  intro p e s m below meth c args X hnm hw
  have hl := lv_entry ([.ref (B + 0), .int x1, .int x2]) (n := 3) (Nat.le_of_ble_eq_true rfl)
  rw [lg_entry_eq]
  generalize (lg_sl ([.ref (B + 0), .int x1, .int x2]) ++ List.replicate (3 - (lg_sl ([.ref (B + 0), .int x1, .int x2])).length) Slot.unset).toArray = ls at hl ⊢
  have hl : lv_has ls 3 [(0, .ref (B + 0)), (1, .int x1), (2, .int x2)] := hl
  unfold fn_X9_named at hf
  refine lv_iload_n X.1 X.2.1 dX9_named_0 rfl (lv_at hl 2 rfl) ?_
  refine lv_iconst (v := 1) X.1 X.2.1 dX9_named_1 (by decide) ?_
  refine lv_icmp_ne (tgt := 65) X.1 X.2.1 dX9_named_2 (by decide) (fun hq => ?_) (fun hq => ?_)
  · replace hf := cd_fk hq hf
    refine lv_iload_n X.1 X.2.1 dX9_named_65 rfl (lv_at hl 2 rfl) ?_
    refine lv_iconst (v := 2) X.1 X.2.1 dX9_named_66 (by decide) ?_
    refine lv_icmp_ne (tgt := 109) X.1 X.2.1 dX9_named_67 (by decide) (fun hq => ?_) (fun hq => ?_)
    · replace hf := cd_fk hq hf
      refine lv_iload_n X.1 X.2.1 dX9_named_109 rfl (lv_at hl 2 rfl) ?_
      refine lv_if_eq (tgt := 128) X.1 X.2.1 dX9_named_110 (by decide) (fun hq => ?_) (fun hq => ?_)
      · replace hf := cd_tk hq hf
        exact w_X9_named_128 X  _ _ _ _ _ _ hf hw (lv_sub hl [0, 1, 2] rfl)
      · replace hf := cd_fk hq hf
        refine lv_aload_n X.1 X.2.1 dX9_named_113 rfl (lv_at hl 0 rfl) ?_
        refine r_getI X hw (κ := 10) rfl inlX9 22 (by decide) rfl (by decide) tw_447 (hMk hw.2.2.2.2.2.1 0 rfl) dX9_named_114 ?_
        refine lv_if_ne (tgt := 133) X.1 X.2.1 dX9_named_117 (by decide) (fun hq => ?_) (fun hq => ?_)
        · replace hf := cd_fk hq hf
          exact w_X9_named_133 X  _ _ _ _ _ _ hf hw (lv_sub hl [0, 1, 2] rfl)
        · replace hf := cd_tk hq hf
          refine lv_aload_n X.1 X.2.1 dX9_named_120 rfl (lv_at hl 0 rfl) ?_
          refine r_getI X hw (κ := 10) rfl inlX9 20 (by decide) rfl (by decide) tw_457 (hMk hw.2.2.2.2.2.1 0 rfl) dX9_named_121 ?_
          refine lv_iconst (v := 2) X.1 X.2.1 dX9_named_124 (by decide) ?_
          refine lv_icmp_ne (tgt := 133) X.1 X.2.1 dX9_named_125 (by decide) (fun hq => ?_) (fun hq => ?_)
          · replace hf := cd_fk hq hf
            exact w_X9_named_133 X  _ _ _ _ _ _ hf hw (lv_sub hl [0, 1, 2] rfl)
          · replace hf := cd_tk hq hf
            exact w_X9_named_128 X  _ _ _ _ _ _ hf hw (lv_sub hl [0, 1, 2] rfl)
    · replace hf := cd_tk hq hf
      refine lv_aload_n X.1 X.2.1 dX9_named_70 rfl (lv_at hl 0 rfl) ?_
      refine lv_bipush (v := 58) X.1 X.2.1 dX9_named_71 (by decide) ?_
      obtain ⟨S1, hS1, hf⟩ := bn_ok hf
      refine r_callV (As := [.int 58]) (rest := []) (st1 := []) (κ := 10) X hw (c_X9_wants l D B cy A ad av 58 hw.2.2.2.2.1 hw.2.2.2.2.2 hS1) ⟨rfl, rfl, Nat.le_of_ble_eq_true rfl, Nat.le_of_ble_eq_true rfl⟩ rfl (by decide) (hMk hw.2.2.2.2.2.1 0 rfl) tw_496 tw_497 tw_498 tw_5 tw_499 hd_X9_wants rfl hl.1 rfl (Nat.le_of_ble_eq_true rfl) dX9_named_73 ⟨Nat.le_of_ble_eq_true rfl, Nat.le_of_ble_eq_true rfl⟩ rfl (fun H locs hw => ?_)
      refine lv_aload_n X.1 X.2.1 dX9_named_76 rfl (lv_at hl 0 rfl) ?_
      refine r_getF X hw (κ := 10) rfl inlX9 16 (by decide) rfl (by decide) tw_116 (hMk hw.2.2.2.2.2.1 0 rfl) (hMr hw.2.2.2.2.2.1 0 16 rfl) dX9_named_77 ?_
      refine lv_iload_n X.1 X.2.1 dX9_named_80 rfl (lv_at hl 1 rfl) ?_
      refine lv_iconst (v := 0) X.1 X.2.1 dX9_named_81 (by decide) ?_
      obtain ⟨g2, hf⟩ := gd_ok hf
      obtain ⟨S3, eS3, hf⟩ := bn_ok hf
      replace eS3 := Option.some.inj eS3
      refine r_iast X hw (hMk hw.2.2.2.2.2.1 13 rfl) (hMn hw.2.2.2.2.2.1 13 rfl) g2 hw.2.2.2.2.2 dX9_named_82 (fun H locs hw => ?_)
      rw [eS3] at hw
      refine lv_aload_n X.1 X.2.1 dX9_named_83 rfl (lv_at hl 0 rfl) ?_
      refine lv_iload_n X.1 X.2.1 dX9_named_84 rfl (lv_at hl 1 rfl) ?_
      obtain ⟨S4, hS4, hf⟩ := bn_ok hf
      refine r_callV (As := [.int x1]) (rest := []) (st1 := []) (κ := 10) X hw (c_X9_scaleNumber l D B cy A ad av x1 hw.2.2.2.2.1 hw.2.2.2.2.2 hS4) ⟨rfl, rfl, Nat.le_of_ble_eq_true rfl, Nat.le_of_ble_eq_true rfl⟩ rfl (by decide) (hMk hw.2.2.2.2.2.1 0 rfl) tw_504 tw_505 tw_506 tw_5 tw_507 hd_X9_scaleNumber rfl hl.1 rfl (Nat.le_of_ble_eq_true rfl) dX9_named_85 ⟨Nat.le_of_ble_eq_true rfl, Nat.le_of_ble_eq_true rfl⟩ rfl (fun H locs hw => ?_)
      exact w_X9_named_88 X  _ _ _ _ _ _ hf hw (lv_sub hl [0, 1] rfl)
  · replace hf := cd_tk hq hf
    refine lv_aload_n X.1 X.2.1 dX9_named_5 rfl (lv_at hl 0 rfl) ?_
    refine r_getI X hw (κ := 10) rfl inlX9 22 (by decide) rfl (by decide) tw_447 (hMk hw.2.2.2.2.2.1 0 rfl) dX9_named_6 ?_
    refine lv_if_ne (tgt := 40) X.1 X.2.1 dX9_named_9 (by decide) (fun hq => ?_) (fun hq => ?_)
    · replace hf := cd_fk hq hf
      exact w_X9_named_40 X  _ _ _ _ _ hf hw (lv_sub hl [0, 1] rfl)
    · replace hf := cd_tk hq hf
      refine lv_aload_n X.1 X.2.1 dX9_named_12 rfl (lv_at hl 0 rfl) ?_
      refine r_getI X hw (κ := 10) rfl inlX9 20 (by decide) rfl (by decide) tw_457 (hMk hw.2.2.2.2.2.1 0 rfl) dX9_named_13 ?_
      refine lv_if_ne (tgt := 28) X.1 X.2.1 dX9_named_16 (by decide) (fun hq => ?_) (fun hq => ?_)
      · replace hf := cd_fk hq hf
        exact w_X9_named_28 X  _ _ _ _ _ hf hw (lv_sub hl [0, 1] rfl)
      · replace hf := cd_tk hq hf
        refine lv_aload_n X.1 X.2.1 dX9_named_19 rfl (lv_at hl 0 rfl) ?_
        refine r_getI X hw (κ := 10) rfl inlX9 21 (by decide) rfl (by decide) tw_463 (hMk hw.2.2.2.2.2.1 0 rfl) dX9_named_20 ?_
        refine lv_bipush (v := 7) X.1 X.2.1 dX9_named_23 (by decide) ?_
        refine lv_icmp_eq (tgt := 40) X.1 X.2.1 dX9_named_25 (by decide) (fun hq => ?_) (fun hq => ?_)
        · replace hf := cd_tk hq hf
          exact w_X9_named_40 X  _ _ _ _ _ hf hw (lv_sub hl [0, 1] rfl)
        · replace hf := cd_fk hq hf
          exact w_X9_named_28 X  _ _ _ _ _ hf hw (lv_sub hl [0, 1] rfl)
