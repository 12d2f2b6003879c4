set_option maxHeartbeats 4000000 in
theorem w_X9_line_303 {p : Program} {l : Launch} {e : Env} {s : State} {m : MethodId} {args : Array Value} {below : List Frame} {meth : Method} {c : Code} {D : va_G} {B : Nat} {cy : Nat → ClassId} {A : Nat → Prop} {ad av : Nat → Nat} {Z : HS} (X : hCX p s m args meth c RX9 cX9_line 6 none D cy A ad av) {z : Nat} (k275 : Int32 → Int32 → Int32 → HS → Option HS) (hk275 : ∀ (x2 : Int32) (x3 : Int32) (x5 : Int32) (S : HS) (H : Heap) (locs : List Loc) (ls : Array Slot), k275 x2 x3 x5 S = some Z → hWd D B cy A true (hMz z) S s.heap H locs → lv_has ls 6 [(0, .ref (B + 0)), (2, .int x2), (3, .int x3), (5, .int x5)] → W p l e ({ frames := 9, cells := 0, slots := 0, locals := 196 } : Room) s m args below meth c H locs 0 0 (MQ below (hQo D B cy A true (hMz z) Z none) args s 0 0 A) (F0 m 275 ls [])) (x2 : Int32) (x3 : Int32) (x5 : Int32) (S : HS) (H : Heap) (locs : List Loc) (ls : Array Slot) (hf : fn_X9_line_303 k275 x2 x3 x5 S = some Z) (hw : hWd D B cy A true (hMz z) S s.heap H locs) (hl : lv_has ls 6 [(0, .ref (B + 0)), (2, .int x2), (3, .int x3), (5, .int x5)]) : W p l e ({ frames := 9, cells := 0, slots := 0, locals := 196 } : Room) s m args below meth c H locs 0 0 (MQ below (hQo D B cy A true (hMz z) Z none) args s 0 0 A) (F0 m 303 ls []) := by
  unfold fn_X9_line_303 at hf
  obtain ⟨v1, ev1, hf⟩ := bn_ok hf
  replace ev1 := Option.some.inj ev1
  refine lv_iinc (v := v1) (lv' := [(5, .int v1), (0, .ref (B + 0)), (2, .int x2), (3, .int x3)]) X.1 X.2.1 dX9_line_303 hl (k := 3) rfl ev1 (by decide) rfl (fun ls hl => ?_)
  refine lv_goto (tgt := 275) X.1 X.2.1 dX9_line_306 (by decide) ?_
  exact hk275 _ _ _ _ _ _ _ hf hw (lv_sub hl [1, 2, 3, 0] rfl)
set_option maxHeartbeats 4000000 in
theorem w_X9_line_275 {p : Program} {l : Launch} {e : Env} {s : State} {m : MethodId} {args : Array Value} {below : List Frame} {meth : Method} {c : Code} {D : va_G} {B : Nat} {cy : Nat → ClassId} {A : Nat → Prop} {ad av : Nat → Nat} {Z : HS} (X : hCX p s m args meth c RX9 cX9_line 6 none D cy A ad av) {z : Nat}  : ∀ (n : Nat) (x2 : Int32) (x3 : Int32) (x5 : Int32) (S : HS) (H : Heap) (locs : List Loc) (ls : Array Slot), fn_X9_line_275 n x2 x3 x5 S = some Z → hWd D B cy A true (hMz z) S s.heap H locs → lv_has ls 6 [(0, .ref (B + 0)), (2, .int x2), (3, .int x3), (5, .int x5)] → W p l e ({ frames := 9, cells := 0, slots := 0, locals := 196 } : Room) s m args below meth c H locs 0 0 (MQ below (hQo D B cy A true (hMz z) Z none) args s 0 0 A) (F0 m 275 ls []) := by
  intro n
  induction n with
  | zero =>
    intro x2 x3 x5 S H locs ls hf
    cases hf
  | succ n ih =>
    intro x2 x3 x5 S H locs ls hf hw hl
    rw [fn_X9_line_275] at hf
    refine lv_iload X.1 X.2.1 dX9_line_275 (lv_at hl 3 rfl) ?_
    refine lv_iload_n X.1 X.2.1 dX9_line_277 rfl (lv_at hl 2 rfl) ?_
    refine lv_icmp_ge (tgt := 309) X.1 X.2.1 dX9_line_278 (by decide) (fun hq => ?_) (fun hq => ?_)
    · replace hf := cd_tk hq hf
      refine lv_aload_n X.1 X.2.1 dX9_line_309 rfl (lv_at hl 0 rfl) ?_
      refine lv_dup X.1 X.2.1 dX9_line_310 rfl ?_
      refine r_getI X hw (κ := 10) rfl inlX9 26 (by decide) rfl (by decide) tw_451 (hMk hw.2.2.2.2.2.1 0 rfl) dX9_line_311 ?_
      refine lv_iconst (v := 1) X.1 X.2.1 dX9_line_314 (by decide) ?_
      refine lv_iadd X.1 X.2.1 dX9_line_315 ?_
      obtain ⟨S1, eS1, hf⟩ := bn_ok hf
      replace eS1 := Option.some.inj eS1
      refine r_putI X hw (κ := 10) rfl inlX9 tyX9 tyX9_ok nmX9 26 (by decide) rfl (by decide) tw_451 (Or.inl rfl) (hMk hw.2.2.2.2.2.1 0 rfl) rfl rfl hw.2.2.2.2.2 dX9_line_316 (fun H locs hw => ?_)
      rw [eS1] at hw
      cases hf
      exact r_vret X hw dX9_line_319
    · replace hf := cd_fk hq hf
      refine lv_aload_n X.1 X.2.1 dX9_line_281 rfl (lv_at hl 0 rfl) ?_
      refine r_getF X hw (κ := 10) rfl inlX9 8 (by decide) rfl (by decide) tw_108 (hMk hw.2.2.2.2.2.1 0 rfl) (hMr hw.2.2.2.2.2.1 0 8 rfl) dX9_line_282 ?_
      refine lv_iload X.1 X.2.1 dX9_line_285 (lv_at hl 3 rfl) ?_
      obtain ⟨g2, hf⟩ := gd_ok hf
      refine r_iald X hw (hMk hw.2.2.2.2.2.1 5 rfl) (hMn hw.2.2.2.2.2.1 5 rfl) g2 dX9_line_287 ?_
      refine lv_aload_n X.1 X.2.1 dX9_line_288 rfl (lv_at hl 0 rfl) ?_
      refine r_getF X hw (κ := 10) rfl inlX9 8 (by decide) rfl (by decide) tw_108 (hMk hw.2.2.2.2.2.1 0 rfl) (hMr hw.2.2.2.2.2.1 0 8 rfl) dX9_line_289 ?_
      refine lv_iload_n X.1 X.2.1 dX9_line_292 rfl (lv_at hl 2 rfl) ?_
      obtain ⟨g3, hf⟩ := gd_ok hf
      refine r_iald X hw (hMk hw.2.2.2.2.2.1 5 rfl) (hMn hw.2.2.2.2.2.1 5 rfl) g3 dX9_line_293 ?_
      refine lv_icmp_ne (tgt := 303) X.1 X.2.1 dX9_line_294 (by decide) (fun hq => ?_) (fun hq => ?_)
      · replace hf := cd_fk hq hf
        exact w_X9_line_303 X (fn_X9_line_275 n) ih _ _ _ _ _ _ _ hf hw (lv_sub hl [0, 1, 2, 3] rfl)
      · replace hf := cd_tk hq hf
        refine lv_aload_n X.1 X.2.1 dX9_line_297 rfl (lv_at hl 0 rfl) ?_
        refine lv_iconst (v := 3) X.1 X.2.1 dX9_line_298 (by decide) ?_
        refine lv_iload_n X.1 X.2.1 dX9_line_299 rfl (lv_at hl 1 rfl) ?_
        obtain ⟨S4, hS4, hf⟩ := bn_ok hf
        refine r_callV (As := [.int 3, .int x2]) (rest := []) (st1 := []) (κ := 10) X hw (c_X9_wrong l D B cy A ad av 3 x2 hw.2.2.2.2.1 hw.2.2.2.2.2 hS4) ⟨rfl, rfl, Nat.le_of_ble_eq_true rfl, Nat.le_of_ble_eq_true rfl⟩ rfl (by decide) (hMk hw.2.2.2.2.2.1 0 rfl) tw_484 tw_485 tw_486 tw_5 tw_487 hd_X9_wrong rfl hl.1 rfl (Nat.le_of_ble_eq_true rfl) dX9_line_300 ⟨Nat.le_of_ble_eq_true rfl, Nat.le_of_ble_eq_true rfl⟩ rfl (fun H locs hw => ?_)
        exact w_X9_line_303 X (fn_X9_line_275 n) ih _ _ _ _ _ _ _ hf hw (lv_sub hl [0, 1, 2, 3] rfl)
set_option maxHeartbeats 4000000 in
theorem w_X9_line_264 {p : Program} {l : Launch} {e : Env} {s : State} {m : MethodId} {args : Array Value} {below : List Frame} {meth : Method} {c : Code} {D : va_G} {B : Nat} {cy : Nat → ClassId} {A : Nat → Prop} {ad av : Nat → Nat} {Z : HS} (X : hCX p s m args meth c RX9 cX9_line 6 none D cy A ad av) {z : Nat}  (x1 : Int32) (x2 : Int32) (x3 : Int32) (S : HS) (H : Heap) (locs : List Loc) (ls : Array Slot) (hf : fn_X9_line_264 x1 x2 x3 S = some Z) (hw : hWd D B cy A true (hMz z) S s.heap H locs) (hl : lv_has ls 6 [(0, .ref (B + 0)), (1, .int x1), (2, .int x2), (3, .int x3)]) : W p l e ({ frames := 9, cells := 0, slots := 0, locals := 196 } : Room) s m args below meth c H locs 0 0 (MQ below (hQo D B cy A true (hMz z) Z none) args s 0 0 A) (F0 m 264 ls []) := by
  unfold fn_X9_line_264 at hf
  refine lv_aload_n X.1 X.2.1 dX9_line_264 rfl (lv_at hl 0 rfl) ?_
  refine r_getI X hw (κ := 10) rfl inlX9 22 (by decide) rfl (by decide) tw_447 (hMk hw.2.2.2.2.2.1 0 rfl) dX9_line_265 ?_
  refine lv_if_eq (tgt := 272) X.1 X.2.1 dX9_line_268 (by decide) (fun hq => ?_) (fun hq => ?_)
  · replace hf := cd_tk hq hf
    refine lv_iload_n X.1 X.2.1 dX9_line_272 rfl (lv_at hl 1 rfl) ?_
    refine lv_istore (lv' := [(5, .int x1), (0, .ref (B + 0)), (1, .int x1), (2, .int x2), (3, .int x3)]) X.1 X.2.1 dX9_line_273 hl (by decide) rfl (fun ls hl => ?_)
    exact w_X9_line_275 X  _ _ _ _ _ _ _ _ hf hw (lv_sub hl [1, 3, 4, 0] rfl)
  · replace hf := cd_fk hq hf
    cases hf
    exact r_vret X hw dX9_line_271
set_option maxHeartbeats 4000000 in
theorem w_X9_line_226 {p : Program} {l : Launch} {e : Env} {s : State} {m : MethodId} {args : Array Value} {below : List Frame} {meth : Method} {c : Code} {D : va_G} {B : Nat} {cy : Nat → ClassId} {A : Nat → Prop} {ad av : Nat → Nat} {Z : HS} (X : hCX p s m args meth c RX9 cX9_line 6 none D cy A ad av) {z : Nat}  (x1 : Int32) (x2 : Int32) (x3 : Int32) (S : HS) (H : Heap) (locs : List Loc) (ls : Array Slot) (hf : fn_X9_line_226 x1 x2 x3 S = some Z) (hw : hWd D B cy A true (hMz z) S s.heap H locs) (hl : lv_has ls 6 [(0, .ref (B + 0)), (1, .int x1), (2, .int x2), (3, .int x3)]) : W p l e ({ frames := 9, cells := 0, slots := 0, locals := 196 } : Room) s m args below meth c H locs 0 0 (MQ below (hQo D B cy A true (hMz z) Z none) args s 0 0 A) (F0 m 226 ls []) := by
  unfold fn_X9_line_226 at hf
  refine lv_aload_n X.1 X.2.1 dX9_line_226 rfl (lv_at hl 0 rfl) ?_
  refine r_getF X hw (κ := 10) rfl inlX9 13 (by decide) rfl (by decide) tw_113 (hMk hw.2.2.2.2.2.1 0 rfl) (hMr hw.2.2.2.2.2.1 0 13 rfl) dX9_line_227 ?_
  refine lv_iload_n X.1 X.2.1 dX9_line_230 rfl (lv_at hl 3 rfl) ?_
  refine lv_aload_n X.1 X.2.1 dX9_line_231 rfl (lv_at hl 0 rfl) ?_
  refine lv_iconst (v := 3) X.1 X.2.1 dX9_line_232 (by decide) ?_
  obtain ⟨r2, S1, hS1, hf⟩ := bn2_ok hf
  refine r_callV (As := [.int 3]) (rest := [.int x3, .ref (B + 10)]) (st1 := [.int r2, .int x3, .ref (B + 10)]) (κ := 10) X hw (c_X9_takes l D B cy A ad av 3 hw.2.2.2.2.1 hw.2.2.2.2.2 hS1) ⟨rfl, rfl, Nat.le_of_ble_eq_true rfl, Nat.le_of_ble_eq_true rfl⟩ rfl (by decide) (hMk hw.2.2.2.2.2.1 0 rfl) tw_488 tw_489 tw_490 tw_5 tw_491 hd_X9_takes rfl hl.1 rfl (Nat.le_of_ble_eq_true rfl) dX9_line_233 ⟨Nat.le_of_ble_eq_true rfl, Nat.le_of_ble_eq_true rfl⟩ rfl (fun H locs hw => ?_)
  obtain ⟨g3, hf⟩ := gd_ok hf
  obtain ⟨S4, eS4, hf⟩ := bn_ok hf
  replace eS4 := Option.some.inj eS4
  refine r_iast X hw (hMk hw.2.2.2.2.2.1 10 rfl) (hMn hw.2.2.2.2.2.1 10 rfl) g3 hw.2.2.2.2.2 dX9_line_236 (fun H locs hw => ?_)
  rw [eS4] at hw
  refine lv_goto (tgt := 264) X.1 X.2.1 dX9_line_237 (by decide) ?_
  exact w_X9_line_264 X  _ _ _ _ _ _ _ hf hw (lv_sub hl [0, 1, 2, 3] rfl)
set_option maxHeartbeats 4000000 in
theorem w_X9_line_185 {p : Program} {l : Launch} {e : Env} {s : State} {m : MethodId} {args : Array Value} {below : List Frame} {meth : Method} {c : Code} {D : va_G} {B : Nat} {cy : Nat → ClassId} {A : Nat → Prop} {ad av : Nat → Nat} {Z : HS} (X : hCX p s m args meth c RX9 cX9_line 6 none D cy A ad av) {z : Nat}  (x1 : Int32) (x2 : Int32) (x3 : Int32) (x4 : Int32) (S : HS) (H : Heap) (locs : List Loc) (ls : Array Slot) (hf : fn_X9_line_185 x1 x2 x3 x4 S = some Z) (hw : hWd D B cy A true (hMz z) S s.heap H locs) (hl : lv_has ls 6 [(0, .ref (B + 0)), (1, .int x1), (2, .int x2), (3, .int x3), (4, .int x4)]) : W p l e ({ frames := 9, cells := 0, slots := 0, locals := 196 } : Room) s m args below meth c H locs 0 0 (MQ below (hQo D B cy A true (hMz z) Z none) args s 0 0 A) (F0 m 185 ls []) := by
  unfold fn_X9_line_185 at hf
  refine lv_aload_n X.1 X.2.1 dX9_line_185 rfl (lv_at hl 0 rfl) ?_
  refine r_getF X hw (κ := 10) rfl inlX9 8 (by decide) rfl (by decide) tw_108 (hMk hw.2.2.2.2.2.1 0 rfl) (hMr hw.2.2.2.2.2.1 0 8 rfl) dX9_line_186 ?_
  refine lv_iload_n X.1 X.2.1 dX9_line_189 rfl (lv_at hl 3 rfl) ?_
  refine lv_bipush (v := 26) X.1 X.2.1 dX9_line_190 (by decide) ?_
  refine lv_iload X.1 X.2.1 dX9_line_192 (lv_at hl 4 rfl) ?_
  refine lv_imul X.1 X.2.1 dX9_line_194 ?_
  obtain ⟨g1, hf⟩ := gd_ok hf
  obtain ⟨S2, eS2, hf⟩ := bn_ok hf
  replace eS2 := Option.some.inj eS2
  refine r_iast X hw (hMk hw.2.2.2.2.2.1 5 rfl) (hMn hw.2.2.2.2.2.1 5 rfl) g1 hw.2.2.2.2.2 dX9_line_195 (fun H locs hw => ?_)
  rw [eS2] at hw
  refine lv_iload X.1 X.2.1 dX9_line_196 (lv_at hl 4 rfl) ?_
  refine lv_iconst (v := 3) X.1 X.2.1 dX9_line_198 (by decide) ?_
  refine lv_icmp_ne (tgt := 226) X.1 X.2.1 dX9_line_199 (by decide) (fun hq => ?_) (fun hq => ?_)
  · replace hf := cd_fk hq hf
    exact w_X9_line_226 X  _ _ _ _ _ _ _ hf hw (lv_sub hl [0, 1, 2, 3] rfl)
  · replace hf := cd_tk hq hf
    refine lv_aload_n X.1 X.2.1 dX9_line_202 rfl (lv_at hl 0 rfl) ?_
    refine r_getI X hw (κ := 10) rfl inlX9 20 (by decide) rfl (by decide) tw_457 (hMk hw.2.2.2.2.2.1 0 rfl) dX9_line_203 ?_
    refine lv_iconst (v := 3) X.1 X.2.1 dX9_line_206 (by decide) ?_
    refine lv_icmp_ne (tgt := 226) X.1 X.2.1 dX9_line_207 (by decide) (fun hq => ?_) (fun hq => ?_)
    · replace hf := cd_fk hq hf
      exact w_X9_line_226 X  _ _ _ _ _ _ _ hf hw (lv_sub hl [0, 1, 2, 3] rfl)
    · replace hf := cd_tk hq hf
      refine lv_aload_n X.1 X.2.1 dX9_line_210 rfl (lv_at hl 0 rfl) ?_
      refine r_getI X hw (κ := 10) rfl inlX9 21 (by decide) rfl (by decide) tw_463 (hMk hw.2.2.2.2.2.1 0 rfl) dX9_line_211 ?_
      refine lv_if_ne (tgt := 226) X.1 X.2.1 dX9_line_214 (by decide) (fun hq => ?_) (fun hq => ?_)
      · replace hf := cd_fk hq hf
        exact w_X9_line_226 X  _ _ _ _ _ _ _ hf hw (lv_sub hl [0, 1, 2, 3] rfl)
      · replace hf := cd_tk hq hf
        refine lv_aload_n X.1 X.2.1 dX9_line_217 rfl (lv_at hl 0 rfl) ?_
        refine lv_iconst (v := 2) X.1 X.2.1 dX9_line_218 (by decide) ?_
        refine lv_aload_n X.1 X.2.1 dX9_line_219 rfl (lv_at hl 0 rfl) ?_
        refine r_getI X hw (κ := 10) rfl inlX9 19 (by decide) rfl (by decide) tw_462 (hMk hw.2.2.2.2.2.1 0 rfl) dX9_line_220 ?_
        obtain ⟨S3, hS3, hf⟩ := bn_ok hf
        refine r_callV (As := [.int 2, .int (gI S2 0 19)]) (rest := []) (st1 := []) (κ := 10) X hw (c_X9_wrong l D B cy A ad av 2 (gI S2 0 19) hw.2.2.2.2.1 hw.2.2.2.2.2 hS3) ⟨rfl, rfl, Nat.le_of_ble_eq_true rfl, Nat.le_of_ble_eq_true rfl⟩ rfl (by decide) (hMk hw.2.2.2.2.2.1 0 rfl) tw_484 tw_485 tw_486 tw_5 tw_487 hd_X9_wrong rfl hl.1 rfl (Nat.le_of_ble_eq_true rfl) dX9_line_223 ⟨Nat.le_of_ble_eq_true rfl, Nat.le_of_ble_eq_true rfl⟩ rfl (fun H locs hw => ?_)
        exact w_X9_line_226 X  _ _ _ _ _ _ _ hf hw (lv_sub hl [0, 1, 2, 3] rfl)
set_option maxHeartbeats 4000000 in
theorem w_X9_line_131 {p : Program} {l : Launch} {e : Env} {s : State} {m : MethodId} {args : Array Value} {below : List Frame} {meth : Method} {c : Code} {D : va_G} {B : Nat} {cy : Nat → ClassId} {A : Nat → Prop} {ad av : Nat → Nat} {Z : HS} (X : hCX p s m args meth c RX9 cX9_line 6 none D cy A ad av) {z : Nat}  (x1 : Int32) (x2 : Int32) (x3 : Int32) (y0 : Int32) (S : HS) (H : Heap) (locs : List Loc) (ls : Array Slot) (hf : fn_X9_line_131 x1 x2 x3 y0 S = some Z) (hw : hWd D B cy A true (hMz z) S s.heap H locs) (hl : lv_has ls 6 [(0, .ref (B + 0)), (1, .int x1), (2, .int x2), (3, .int x3)]) : W p l e ({ frames := 9, cells := 0, slots := 0, locals := 196 } : Room) s m args below meth c H locs 0 0 (MQ below (hQo D B cy A true (hMz z) Z none) args s 0 0 A) (F0 m 131 ls [.int y0]) := by
  unfold fn_X9_line_131 at hf
  refine lv_istore (lv' := [(4, .int y0), (0, .ref (B + 0)), (1, .int x1), (2, .int x2), (3, .int x3)]) X.1 X.2.1 dX9_line_131 hl (by decide) rfl (fun ls hl => ?_)
  refine lv_iload X.1 X.2.1 dX9_line_133 (lv_at hl 0 rfl) ?_
  refine lv_iconst (v := (-1)) X.1 X.2.1 dX9_line_135 (by decide) ?_
  refine lv_icmp_ne (tgt := 149) X.1 X.2.1 dX9_line_136 (by decide) (fun hq => ?_) (fun hq => ?_)
  · replace hf := cd_fk hq hf
    refine lv_aload_n X.1 X.2.1 dX9_line_149 rfl (lv_at hl 1 rfl) ?_
    obtain ⟨S1, hS1, hf⟩ := bn_ok hf
    refine r_callV (As := []) (rest := []) (st1 := []) (κ := 10) X hw (c_X9_next l D B cy A ad av  hw.2.2.2.2.1 hw.2.2.2.2.2 hS1) ⟨rfl, rfl, Nat.le_of_ble_eq_true rfl, Nat.le_of_ble_eq_true rfl⟩ rfl (by decide) (hMk hw.2.2.2.2.2.1 0 rfl) tw_458 tw_459 tw_460 tw_5 tw_461 hd_X9_next rfl hl.1 rfl (Nat.le_of_ble_eq_true rfl) dX9_line_150 ⟨Nat.le_of_ble_eq_true rfl, Nat.le_of_ble_eq_true rfl⟩ rfl (fun H locs hw => ?_)
    refine lv_aload_n X.1 X.2.1 dX9_line_153 rfl (lv_at hl 1 rfl) ?_
    refine r_getF X hw (κ := 10) rfl inlX9 8 (by decide) rfl (by decide) tw_108 (hMk hw.2.2.2.2.2.1 0 rfl) (hMr hw.2.2.2.2.2.1 0 8 rfl) dX9_line_154 ?_
    refine lv_iload_n X.1 X.2.1 dX9_line_157 rfl (lv_at hl 4 rfl) ?_
    refine lv_bipush (v := 26) X.1 X.2.1 dX9_line_158 (by decide) ?_
    refine lv_iload X.1 X.2.1 dX9_line_160 (lv_at hl 0 rfl) ?_
    refine lv_imul X.1 X.2.1 dX9_line_162 ?_
    refine lv_aload_n X.1 X.2.1 dX9_line_163 rfl (lv_at hl 1 rfl) ?_
    refine lv_iconst (v := 1) X.1 X.2.1 dX9_line_164 (by decide) ?_
    obtain ⟨r3, S2, hS2, hf⟩ := bn2_ok hf
    refine r_callV (As := [.int 1]) (rest := [.int (26 * y0), .int x3, .ref (B + 5)]) (st1 := [.int r3, .int (26 * y0), .int x3, .ref (B + 5)]) (κ := 10) X hw (c_X9_takes l D B cy A ad av 1 hw.2.2.2.2.1 hw.2.2.2.2.2 hS2) ⟨rfl, rfl, Nat.le_of_ble_eq_true rfl, Nat.le_of_ble_eq_true rfl⟩ rfl (by decide) (hMk hw.2.2.2.2.2.1 0 rfl) tw_488 tw_489 tw_490 tw_5 tw_491 hd_X9_takes rfl hl.1 rfl (Nat.le_of_ble_eq_true rfl) dX9_line_165 ⟨Nat.le_of_ble_eq_true rfl, Nat.le_of_ble_eq_true rfl⟩ rfl (fun H locs hw => ?_)
    refine lv_iadd X.1 X.2.1 dX9_line_168 ?_
    obtain ⟨g4, hf⟩ := gd_ok hf
    obtain ⟨S5, eS5, hf⟩ := bn_ok hf
    replace eS5 := Option.some.inj eS5
    refine r_iast X hw (hMk hw.2.2.2.2.2.1 5 rfl) (hMn hw.2.2.2.2.2.1 5 rfl) g4 hw.2.2.2.2.2 dX9_line_169 (fun H locs hw => ?_)
    rw [eS5] at hw
    refine lv_goto (tgt := 264) X.1 X.2.1 dX9_line_170 (by decide) ?_
    exact w_X9_line_264 X  _ _ _ _ _ _ _ hf hw (lv_sub hl [1, 2, 3, 4] rfl)
  · replace hf := cd_tk hq hf
    refine lv_aload_n X.1 X.2.1 dX9_line_139 rfl (lv_at hl 1 rfl) ?_
    refine lv_iconst (v := 1) X.1 X.2.1 dX9_line_140 (by decide) ?_
    refine lv_aload_n X.1 X.2.1 dX9_line_141 rfl (lv_at hl 1 rfl) ?_
    refine r_getI X hw (κ := 10) rfl inlX9 19 (by decide) rfl (by decide) tw_462 (hMk hw.2.2.2.2.2.1 0 rfl) dX9_line_142 ?_
    obtain ⟨S6, hS6, hf⟩ := bn_ok hf
    refine r_callV (As := [.int 1, .int (gI S 0 19)]) (rest := []) (st1 := []) (κ := 10) X hw (c_X9_wrong l D B cy A ad av 1 (gI S 0 19) hw.2.2.2.2.1 hw.2.2.2.2.2 hS6) ⟨rfl, rfl, Nat.le_of_ble_eq_true rfl, Nat.le_of_ble_eq_true rfl⟩ rfl (by decide) (hMk hw.2.2.2.2.2.1 0 rfl) tw_484 tw_485 tw_486 tw_5 tw_487 hd_X9_wrong rfl hl.1 rfl (Nat.le_of_ble_eq_true rfl) dX9_line_145 ⟨Nat.le_of_ble_eq_true rfl, Nat.le_of_ble_eq_true rfl⟩ rfl (fun H locs hw => ?_)
    cases hf
    exact r_vret X hw dX9_line_148
set_option maxHeartbeats 4000000 in
theorem w_X9_line_130 {p : Program} {l : Launch} {e : Env} {s : State} {m : MethodId} {args : Array Value} {below : List Frame} {meth : Method} {c : Code} {D : va_G} {B : Nat} {cy : Nat → ClassId} {A : Nat → Prop} {ad av : Nat → Nat} {Z : HS} (X : hCX p s m args meth c RX9 cX9_line 6 none D cy A ad av) {z : Nat}  (x1 : Int32) (x2 : Int32) (x3 : Int32) (S : HS) (H : Heap) (locs : List Loc) (ls : Array Slot) (hf : fn_X9_line_130 x1 x2 x3 S = some Z) (hw : hWd D B cy A true (hMz z) S s.heap H locs) (hl : lv_has ls 6 [(0, .ref (B + 0)), (1, .int x1), (2, .int x2), (3, .int x3)]) : W p l e ({ frames := 9, cells := 0, slots := 0, locals := 196 } : Room) s m args below meth c H locs 0 0 (MQ below (hQo D B cy A true (hMz z) Z none) args s 0 0 A) (F0 m 130 ls []) := by
  unfold fn_X9_line_130 at hf
  refine lv_iconst (v := (-1)) X.1 X.2.1 dX9_line_130 (by decide) ?_
  exact w_X9_line_131 X  _ _ _ _ _ _ _ _ hf hw (lv_sub hl [0, 1, 2, 3] rfl)
set_option maxHeartbeats 4000000 in
theorem w_X9_line_123 {p : Program} {l : Launch} {e : Env} {s : State} {m : MethodId} {args : Array Value} {below : List Frame} {meth : Method} {c : Code} {D : va_G} {B : Nat} {cy : Nat → ClassId} {A : Nat → Prop} {ad av : Nat → Nat} {Z : HS} (X : hCX p s m args meth c RX9 cX9_line 6 none D cy A ad av) {z : Nat}  (x1 : Int32) (x2 : Int32) (x3 : Int32) (S : HS) (H : Heap) (locs : List Loc) (ls : Array Slot) (hf : fn_X9_line_123 x1 x2 x3 S = some Z) (hw : hWd D B cy A true (hMz z) S s.heap H locs) (hl : lv_has ls 6 [(0, .ref (B + 0)), (1, .int x1), (2, .int x2), (3, .int x3)]) : W p l e ({ frames := 9, cells := 0, slots := 0, locals := 196 } : Room) s m args below meth c H locs 0 0 (MQ below (hQo D B cy A true (hMz z) Z none) args s 0 0 A) (F0 m 123 ls []) := by
  unfold fn_X9_line_123 at hf
  refine lv_aload_n X.1 X.2.1 dX9_line_123 rfl (lv_at hl 0 rfl) ?_
  refine r_getI X hw (κ := 10) rfl inlX9 21 (by decide) rfl (by decide) tw_463 (hMk hw.2.2.2.2.2.1 0 rfl) dX9_line_124 ?_
  refine lv_goto (tgt := 131) X.1 X.2.1 dX9_line_127 (by decide) ?_
  exact w_X9_line_131 X  _ _ _ _ _ _ _ _ hf hw (lv_sub hl [0, 1, 2, 3] rfl)
set_option maxHeartbeats 4000000 in
theorem w_X9_line_74 {p : Program} {l : Launch} {e : Env} {s : State} {m : MethodId} {args : Array Value} {below : List Frame} {meth : Method} {c : Code} {D : va_G} {B : Nat} {cy : Nat → ClassId} {A : Nat → Prop} {ad av : Nat → Nat} {Z : HS} (X : hCX p s m args meth c RX9 cX9_line 6 none D cy A ad av) {z : Nat}  (x1 : Int32) (x2 : Int32) (x3 : Int32) (x4 : Int32) (y0 : Int32) (y1 : Int32) (S : HS) (H : Heap) (locs : List Loc) (ls : Array Slot) (hf : fn_X9_line_74 x1 x2 x3 x4 y0 y1 S = some Z) (hw : hWd D B cy A true (hMz z) S s.heap H locs) (hl : lv_has ls 6 [(0, .ref (B + 0)), (1, .int x1), (2, .int x2), (3, .int x3), (4, .int x4)]) : W p l e ({ frames := 9, cells := 0, slots := 0, locals := 196 } : Room) s m args below meth c H locs 0 0 (MQ below (hQo D B cy A true (hMz z) Z none) args s 0 0 A) (F0 m 74 ls [.int y0, .int y1, .ref (B + 6)]) := by
  unfold fn_X9_line_74 at hf
  obtain ⟨g1, hf⟩ := gd_ok hf
  obtain ⟨g2, hf⟩ := gd_ok hf
  obtain ⟨S3, eS3, hf⟩ := bn_ok hf
  replace eS3 := Option.some.inj eS3
  refine r_zast X hw (hMk hw.2.2.2.2.2.1 6 rfl) (hMn hw.2.2.2.2.2.1 6 rfl) g1 g2 hw.2.2.2.2.2 dX9_line_74 (fun H locs hw => ?_)
  rw [eS3] at hw
  refine lv_aload_n X.1 X.2.1 dX9_line_75 rfl (lv_at hl 0 rfl) ?_
  refine r_getF X hw (κ := 10) rfl inlX9 10 (by decide) rfl (by decide) tw_110 (hMk hw.2.2.2.2.2.1 0 rfl) (hMr hw.2.2.2.2.2.1 0 10 rfl) dX9_line_76 ?_
  refine lv_iload_n X.1 X.2.1 dX9_line_79 rfl (lv_at hl 3 rfl) ?_
  refine lv_iconst (v := (-1)) X.1 X.2.1 dX9_line_80 (by decide) ?_
  obtain ⟨g4, hf⟩ := gd_ok hf
  obtain ⟨S5, eS5, hf⟩ := bn_ok hf
  replace eS5 := Option.some.inj eS5
  refine r_iast X hw (hMk hw.2.2.2.2.2.1 7 rfl) (hMn hw.2.2.2.2.2.1 7 rfl) g4 hw.2.2.2.2.2 dX9_line_81 (fun H locs hw => ?_)
  rw [eS5] at hw
  refine lv_aload_n X.1 X.2.1 dX9_line_82 rfl (lv_at hl 0 rfl) ?_
  refine r_getF X hw (κ := 10) rfl inlX9 14 (by decide) rfl (by decide) tw_114 (hMk hw.2.2.2.2.2.1 0 rfl) (hMr hw.2.2.2.2.2.1 0 14 rfl) dX9_line_83 ?_
  refine lv_iload_n X.1 X.2.1 dX9_line_86 rfl (lv_at hl 3 rfl) ?_
  refine lv_iconst (v := 0) X.1 X.2.1 dX9_line_87 (by decide) ?_
  obtain ⟨g6, hf⟩ := gd_ok hf
  obtain ⟨S7, eS7, hf⟩ := bn_ok hf
  replace eS7 := Option.some.inj eS7
  refine r_zast X hw (hMk hw.2.2.2.2.2.1 11 rfl) (hMn hw.2.2.2.2.2.1 11 rfl) g6 (by decide) hw.2.2.2.2.2 dX9_line_88 (fun H locs hw => ?_)
  rw [eS7] at hw
  refine lv_aload_n X.1 X.2.1 dX9_line_89 rfl (lv_at hl 0 rfl) ?_
  obtain ⟨S8, hS8, hf⟩ := bn_ok hf
  refine r_callV (As := []) (rest := []) (st1 := []) (κ := 10) X hw (c_X9_next l D B cy A ad av  hw.2.2.2.2.1 hw.2.2.2.2.2 hS8) ⟨rfl, rfl, Nat.le_of_ble_eq_true rfl, Nat.le_of_ble_eq_true rfl⟩ rfl (by decide) (hMk hw.2.2.2.2.2.1 0 rfl) tw_458 tw_459 tw_460 tw_5 tw_461 hd_X9_next rfl hl.1 rfl (Nat.le_of_ble_eq_true rfl) dX9_line_90 ⟨Nat.le_of_ble_eq_true rfl, Nat.le_of_ble_eq_true rfl⟩ rfl (fun H locs hw => ?_)
  refine lv_iload X.1 X.2.1 dX9_line_93 (lv_at hl 4 rfl) ?_
  refine lv_bipush (v := 6) X.1 X.2.1 dX9_line_95 (by decide) ?_
  refine lv_icmp_ne (tgt := 173) X.1 X.2.1 dX9_line_97 (by decide) (fun hq => ?_) (fun hq => ?_)
  · replace hf := cd_fk hq hf
    refine lv_iload X.1 X.2.1 dX9_line_173 (lv_at hl 4 rfl) ?_
    refine lv_iconst (v := 3) X.1 X.2.1 dX9_line_175 (by decide) ?_
    refine lv_icmp_eq (tgt := 185) X.1 X.2.1 dX9_line_176 (by decide) (fun hq => ?_) (fun hq => ?_)
    · replace hf := cd_tk hq hf
      exact w_X9_line_185 X  _ _ _ _ _ _ _ _ hf hw (lv_sub hl [0, 1, 2, 3, 4] rfl)
    · replace hf := cd_fk hq hf
      refine lv_iload X.1 X.2.1 dX9_line_179 (lv_at hl 4 rfl) ?_
      refine lv_iconst (v := 4) X.1 X.2.1 dX9_line_181 (by decide) ?_
      refine lv_icmp_ne (tgt := 240) X.1 X.2.1 dX9_line_182 (by decide) (fun hq => ?_) (fun hq => ?_)
      · replace hf := cd_fk hq hf
        refine lv_aload_n X.1 X.2.1 dX9_line_240 rfl (lv_at hl 0 rfl) ?_
        refine r_getF X hw (κ := 10) rfl inlX9 8 (by decide) rfl (by decide) tw_108 (hMk hw.2.2.2.2.2.1 0 rfl) (hMr hw.2.2.2.2.2.1 0 8 rfl) dX9_line_241 ?_
        refine lv_iload_n X.1 X.2.1 dX9_line_244 rfl (lv_at hl 3 rfl) ?_
        refine lv_bipush (v := 26) X.1 X.2.1 dX9_line_245 (by decide) ?_
        refine lv_iload X.1 X.2.1 dX9_line_247 (lv_at hl 4 rfl) ?_
        refine lv_imul X.1 X.2.1 dX9_line_249 ?_
        refine lv_aload_n X.1 X.2.1 dX9_line_250 rfl (lv_at hl 0 rfl) ?_
        refine lv_iconst (v := 1) X.1 X.2.1 dX9_line_251 (by decide) ?_
        obtain ⟨r10, S9, hS9, hf⟩ := bn2_ok hf
        refine r_callV (As := [.int 1]) (rest := [.int (26 * x4), .int x3, .ref (B + 5)]) (st1 := [.int r10, .int (26 * x4), .int x3, .ref (B + 5)]) (κ := 10) X hw (c_X9_takes l D B cy A ad av 1 hw.2.2.2.2.1 hw.2.2.2.2.2 hS9) ⟨rfl, rfl, Nat.le_of_ble_eq_true rfl, Nat.le_of_ble_eq_true rfl⟩ rfl (by decide) (hMk hw.2.2.2.2.2.1 0 rfl) tw_488 tw_489 tw_490 tw_5 tw_491 hd_X9_takes rfl hl.1 rfl (Nat.le_of_ble_eq_true rfl) dX9_line_252 ⟨Nat.le_of_ble_eq_true rfl, Nat.le_of_ble_eq_true rfl⟩ rfl (fun H locs hw => ?_)
        refine lv_iadd X.1 X.2.1 dX9_line_255 ?_
        obtain ⟨g11, hf⟩ := gd_ok hf
        obtain ⟨S12, eS12, hf⟩ := bn_ok hf
        replace eS12 := Option.some.inj eS12
        refine r_iast X hw (hMk hw.2.2.2.2.2.1 5 rfl) (hMn hw.2.2.2.2.2.1 5 rfl) g11 hw.2.2.2.2.2 dX9_line_256 (fun H locs hw => ?_)
        rw [eS12] at hw
        refine lv_aload_n X.1 X.2.1 dX9_line_257 rfl (lv_at hl 0 rfl) ?_
        refine lv_iload_n X.1 X.2.1 dX9_line_258 rfl (lv_at hl 3 rfl) ?_
        refine lv_iload X.1 X.2.1 dX9_line_259 (lv_at hl 4 rfl) ?_
        obtain ⟨S13, hS13, hf⟩ := bn_ok hf
        refine r_callV (As := [.int x3, .int x4]) (rest := []) (st1 := []) (κ := 10) X hw (c_X9_named l D B cy A ad av x3 x4 hw.2.2.2.2.1 hw.2.2.2.2.2 hS13) ⟨rfl, rfl, Nat.le_of_ble_eq_true rfl, Nat.le_of_ble_eq_true rfl⟩ rfl (by decide) (hMk hw.2.2.2.2.2.1 0 rfl) tw_492 tw_493 tw_494 tw_5 tw_495 hd_X9_named rfl hl.1 rfl (Nat.le_of_ble_eq_true rfl) dX9_line_261 ⟨Nat.le_of_ble_eq_true rfl, Nat.le_of_ble_eq_true rfl⟩ rfl (fun H locs hw => ?_)
        exact w_X9_line_264 X  _ _ _ _ _ _ _ hf hw (lv_sub hl [0, 1, 2, 3] rfl)
      · replace hf := cd_tk hq hf
        exact w_X9_line_185 X  _ _ _ _ _ _ _ _ hf hw (lv_sub hl [0, 1, 2, 3, 4] rfl)
  · replace hf := cd_tk hq hf
    refine lv_aload_n X.1 X.2.1 dX9_line_100 rfl (lv_at hl 0 rfl) ?_
    refine r_getI X hw (κ := 10) rfl inlX9 20 (by decide) rfl (by decide) tw_457 (hMk hw.2.2.2.2.2.1 0 rfl) dX9_line_101 ?_
    refine lv_if_ne (tgt := 130) X.1 X.2.1 dX9_line_104 (by decide) (fun hq => ?_) (fun hq => ?_)
    · replace hf := cd_fk hq hf
      exact w_X9_line_130 X  _ _ _ _ _ _ _ hf hw (lv_sub hl [0, 1, 2, 3] rfl)
    · replace hf := cd_tk hq hf
      refine lv_aload_n X.1 X.2.1 dX9_line_107 rfl (lv_at hl 0 rfl) ?_
      refine r_getI X hw (κ := 10) rfl inlX9 21 (by decide) rfl (by decide) tw_463 (hMk hw.2.2.2.2.2.1 0 rfl) dX9_line_108 ?_
      refine lv_iconst (v := 2) X.1 X.2.1 dX9_line_111 (by decide) ?_
      refine lv_icmp_le (tgt := 123) X.1 X.2.1 dX9_line_112 (by decide) (fun hq => ?_) (fun hq => ?_)
      · replace hf := cd_tk hq hf
        exact w_X9_line_123 X  _ _ _ _ _ _ _ hf hw (lv_sub hl [0, 1, 2, 3] rfl)
      · replace hf := cd_fk hq hf
        refine lv_aload_n X.1 X.2.1 dX9_line_115 rfl (lv_at hl 0 rfl) ?_
        refine r_getI X hw (κ := 10) rfl inlX9 21 (by decide) rfl (by decide) tw_463 (hMk hw.2.2.2.2.2.1 0 rfl) dX9_line_116 ?_
        refine lv_iconst (v := 5) X.1 X.2.1 dX9_line_119 (by decide) ?_
        refine lv_icmp_ne (tgt := 130) X.1 X.2.1 dX9_line_120 (by decide) (fun hq => ?_) (fun hq => ?_)
        · replace hf := cd_fk hq hf
          exact w_X9_line_130 X  _ _ _ _ _ _ _ hf hw (lv_sub hl [0, 1, 2, 3] rfl)
        · replace hf := cd_tk hq hf
          exact w_X9_line_123 X  _ _ _ _ _ _ _ hf hw (lv_sub hl [0, 1, 2, 3] rfl)
set_option maxHeartbeats 4000000 in
theorem w_X9_line_21 {p : Program} {l : Launch} {e : Env} {s : State} {m : MethodId} {args : Array Value} {below : List Frame} {meth : Method} {c : Code} {D : va_G} {B : Nat} {cy : Nat → ClassId} {A : Nat → Prop} {ad av : Nat → Nat} {Z : HS} (X : hCX p s m args meth c RX9 cX9_line 6 none D cy A ad av) {z : Nat}  (x2 : Int32) (S : HS) (H : Heap) (locs : List Loc) (ls : Array Slot) (hf : fn_X9_line_21 x2 S = some Z) (hw : hWd D B cy A true (hMz z) S s.heap H locs) (hl : lv_has ls 6 [(0, .ref (B + 0)), (2, .int x2)]) : W p l e ({ frames := 9, cells := 0, slots := 0, locals := 196 } : Room) s m args below meth c H locs 0 0 (MQ below (hQo D B cy A true (hMz z) Z none) args s 0 0 A) (F0 m 21 ls []) := by
  unfold fn_X9_line_21 at hf
  refine lv_aload_n X.1 X.2.1 dX9_line_21 rfl (lv_at hl 0 rfl) ?_
  refine lv_iconst (v := 1) X.1 X.2.1 dX9_line_22 (by decide) ?_
  refine lv_iload_n X.1 X.2.1 dX9_line_23 rfl (lv_at hl 1 rfl) ?_
  obtain ⟨S1, hS1, hf⟩ := bn_ok hf
  refine r_callV (As := [.int 1, .int x2]) (rest := []) (st1 := []) (κ := 10) X hw (c_X9_wrong l D B cy A ad av 1 x2 hw.2.2.2.2.1 hw.2.2.2.2.2 hS1) ⟨rfl, rfl, Nat.le_of_ble_eq_true rfl, Nat.le_of_ble_eq_true rfl⟩ rfl (by decide) (hMk hw.2.2.2.2.2.1 0 rfl) tw_484 tw_485 tw_486 tw_5 tw_487 hd_X9_wrong rfl hl.1 rfl (Nat.le_of_ble_eq_true rfl) dX9_line_24 ⟨Nat.le_of_ble_eq_true rfl, Nat.le_of_ble_eq_true rfl⟩ rfl (fun H locs hw => ?_)
  cases hf
  exact r_vret X hw dX9_line_27
theorem hd_X9_line : yX9_line.cls = RX9 ∧ yX9_line.cls ≠ "java/lang/invoke/MethodHandle" ∧ yX9_line.cls ≠ "java/lang/invoke/VarHandle" ∧ (parseMethodDescriptor yX9_line.desc).map (fun d => d.parameters.length) = some 1 := by decide +kernel
set_option maxHeartbeats 4000000 in
theorem c_X9_line (l : Launch) (D : va_G) (B : Nat) (cy : Nat → ClassId) (A : Nat → Prop) (ad av : Nat → Nat) {z : Nat} (x1 : Int32) {S Z : HS} (hfr : hFr S) (hG : (hMz z) S) (hf : fn_X9_line x1 S = some Z) : hMet l yX9_line cX9_line 6 none ({ frames := 9, cells := 0, slots := 0, locals := 196 } : Room) D B cy A ad av true (hMz z) [.ref (B + 0), .int x1] S Z none 0 0 := by
  refine h_entry (by decide) hfr hG ?_
  intro p e s m below meth c args X hnm hw
  have hl := lv_entry ([.ref (B + 0), .int x1]) (n := 6) (Nat.le_of_ble_eq_true rfl)
  rw [lg_entry_eq]
  generalize (lg_sl ([.ref (B + 0), .int x1]) ++ List.replicate (6 - (lg_sl ([.ref (B + 0), .int x1])).length) Slot.unset).toArray = ls at hl ⊢
  have hl : lv_has ls 6 [(0, .ref (B + 0)), (1, .int x1)] := hl
  unfold fn_X9_line at hf
  refine lv_aload_n X.1 X.2.1 dX9_line_0 rfl (lv_at hl 0 rfl) ?_
  refine r_getI X hw (κ := 10) rfl inlX9 19 (by decide) rfl (by decide) tw_462 (hMk hw.2.2.2.2.2.1 0 rfl) dX9_line_1 ?_
  obtain ⟨v1, ev1, hf⟩ := bn_ok hf
  replace ev1 := Option.some.inj ev1
  refine lv_ren ev1 ?_
  refine lv_istore_n (lv' := [(2, .int v1), (0, .ref (B + 0)), (1, .int x1)]) X.1 X.2.1 dX9_line_4 rfl hl (by decide) rfl (fun ls hl => ?_)
  refine lv_aload_n X.1 X.2.1 dX9_line_5 rfl (lv_at hl 1 rfl) ?_
  refine r_getI X hw (κ := 10) rfl inlX9 20 (by decide) rfl (by decide) tw_457 (hMk hw.2.2.2.2.2.1 0 rfl) dX9_line_6 ?_
  refine lv_if_ne (tgt := 21) X.1 X.2.1 dX9_line_9 (by decide) (fun hq => ?_) (fun hq => ?_)
  · replace hf := cd_fk hq hf
    exact w_X9_line_21 X  _ _ _ _ _ hf hw (lv_sub hl [1, 0] rfl)
  · replace hf := cd_tk hq hf
    refine lv_aload_n X.1 X.2.1 dX9_line_12 rfl (lv_at hl 1 rfl) ?_
    refine r_getI X hw (κ := 10) rfl inlX9 21 (by decide) rfl (by decide) tw_463 (hMk hw.2.2.2.2.2.1 0 rfl) dX9_line_13 ?_
    refine lv_bipush (v := 7) X.1 X.2.1 dX9_line_16 (by decide) ?_
    refine lv_icmp_ne (tgt := 28) X.1 X.2.1 dX9_line_18 (by decide) (fun hq => ?_) (fun hq => ?_)
    · replace hf := cd_fk hq hf
      refine lv_aload_n X.1 X.2.1 dX9_line_28 rfl (lv_at hl 1 rfl) ?_
      refine r_getI X hw (κ := 10) rfl inlX9 26 (by decide) rfl (by decide) tw_451 (hMk hw.2.2.2.2.2.1 0 rfl) dX9_line_29 ?_
      refine lv_iload_n X.1 X.2.1 dX9_line_32 rfl (lv_at hl 2 rfl) ?_
      refine lv_isub X.1 X.2.1 dX9_line_33 ?_
      refine lv_bipush (v := 40) X.1 X.2.1 dX9_line_34 (by decide) ?_
      refine lv_icmp_ne (tgt := 46) X.1 X.2.1 dX9_line_36 (by decide) (fun hq => ?_) (fun hq => ?_)
      · replace hf := cd_fk hq hf
        refine lv_aload_n X.1 X.2.1 dX9_line_46 rfl (lv_at hl 1 rfl) ?_
        refine r_getI X hw (κ := 10) rfl inlX9 26 (by decide) rfl (by decide) tw_451 (hMk hw.2.2.2.2.2.1 0 rfl) dX9_line_47 ?_
        obtain ⟨v2, ev2, hf⟩ := bn_ok hf
        replace ev2 := Option.some.inj ev2
        refine lv_ren ev2 ?_
        refine lv_istore_n (lv' := [(3, .int v2), (2, .int v1), (0, .ref (B + 0)), (1, .int x1)]) X.1 X.2.1 dX9_line_50 rfl hl (by decide) rfl (fun ls hl => ?_)
        refine lv_aload_n X.1 X.2.1 dX9_line_51 rfl (lv_at hl 2 rfl) ?_
        refine r_getI X hw (κ := 10) rfl inlX9 21 (by decide) rfl (by decide) tw_463 (hMk hw.2.2.2.2.2.1 0 rfl) dX9_line_52 ?_
        obtain ⟨v3, ev3, hf⟩ := bn_ok hf
        replace ev3 := Option.some.inj ev3
        refine lv_ren ev3 ?_
        refine lv_istore (lv' := [(4, .int v3), (3, .int v2), (2, .int v1), (0, .ref (B + 0)), (1, .int x1)]) X.1 X.2.1 dX9_line_55 hl (by decide) rfl (fun ls hl => ?_)
        refine lv_aload_n X.1 X.2.1 dX9_line_57 rfl (lv_at hl 3 rfl) ?_
        refine r_getF X hw (κ := 10) rfl inlX9 9 (by decide) rfl (by decide) tw_109 (hMk hw.2.2.2.2.2.1 0 rfl) (hMr hw.2.2.2.2.2.1 0 9 rfl) dX9_line_58 ?_
        refine lv_iload_n X.1 X.2.1 dX9_line_61 rfl (lv_at hl 1 rfl) ?_
        refine lv_iload X.1 X.2.1 dX9_line_62 (lv_at hl 0 rfl) ?_
        refine lv_bipush (v := 6) X.1 X.2.1 dX9_line_64 (by decide) ?_
        refine lv_icmp_ne (tgt := 73) X.1 X.2.1 dX9_line_66 (by decide) (fun hq => ?_) (fun hq => ?_)
        · replace hf := cd_fk hq hf
          refine lv_iconst (v := 0) X.1 X.2.1 dX9_line_73 (by decide) ?_
          exact w_X9_line_74 X  _ _ _ _ _ _ _ _ _ _ hf hw (lv_sub hl [3, 4, 2, 1, 0] rfl)
        · replace hf := cd_tk hq hf
          refine lv_iconst (v := 1) X.1 X.2.1 dX9_line_69 (by decide) ?_
          refine lv_goto (tgt := 74) X.1 X.2.1 dX9_line_70 (by decide) ?_
          exact w_X9_line_74 X  _ _ _ _ _ _ _ _ _ _ hf hw (lv_sub hl [3, 4, 2, 1, 0] rfl)
      · replace hf := cd_tk hq hf
        refine lv_aload_n X.1 X.2.1 dX9_line_39 rfl (lv_at hl 1 rfl) ?_
        refine lv_iconst (v := 2) X.1 X.2.1 dX9_line_40 (by decide) ?_
        refine lv_iload_n X.1 X.2.1 dX9_line_41 rfl (lv_at hl 0 rfl) ?_
        obtain ⟨S4, hS4, hf⟩ := bn_ok hf
        refine r_callV (As := [.int 2, .int v1]) (rest := []) (st1 := []) (κ := 10) X hw (c_X9_wrong l D B cy A ad av 2 v1 hw.2.2.2.2.1 hw.2.2.2.2.2 hS4) ⟨rfl, rfl, Nat.le_of_ble_eq_true rfl, Nat.le_of_ble_eq_true rfl⟩ rfl (by decide) (hMk hw.2.2.2.2.2.1 0 rfl) tw_484 tw_485 tw_486 tw_5 tw_487 hd_X9_wrong rfl hl.1 rfl (Nat.le_of_ble_eq_true rfl) dX9_line_42 ⟨Nat.le_of_ble_eq_true rfl, Nat.le_of_ble_eq_true rfl⟩ rfl (fun H locs hw => ?_)
        cases hf
        exact r_vret X hw dX9_line_45
    · replace hf := cd_tk hq hf
      exact w_X9_line_21 X  _ _ _ _ _ hf hw (lv_sub hl [1, 0] rfl)
set_option maxHeartbeats 4000000 in
theorem w_X9_parses_63 {p : Program} {l : Launch} {e : Env} {s : State} {m : MethodId} {args : Array Value} {below : List Frame} {meth : Method} {c : Code} {D : va_G} {B : Nat} {cy : Nat → ClassId} {A : Nat → Prop} {ad av : Nat → Nat} {Z : HS} (X : hCX p s m args meth c RX9 cX9_parses 2 none D cy A ad av) {z : Nat}   (S : HS) (H : Heap) (locs : List Loc) (ls : Array Slot) (hf : fn_X9_parses_63 S = some Z) (hw : hWd D B cy A true (hMz z) S s.heap H locs) (hl : lv_has ls 2 []) : W p l e ({ frames := 10, cells := 0, slots := 0, locals := 221 } : Room) s m args below meth c H locs 0 0 (MQ below (hQo D B cy A true (hMz z) Z none) args s 0 0 A) (F0 m 63 ls []) := by
  unfold fn_X9_parses_63 at hf
  cases hf
  exact r_vret X hw dX9_parses_63
set_option maxHeartbeats 4000000 in
theorem w_X9_parses_34 {p : Program} {l : Launch} {e : Env} {s : State} {m : MethodId} {args : Array Value} {below : List Frame} {meth : Method} {c : Code} {D : va_G} {B : Nat} {cy : Nat → ClassId} {A : Nat → Prop} {ad av : Nat → Nat} {Z : HS} (X : hCX p s m args meth c RX9 cX9_parses 2 none D cy A ad av) {z : Nat}  : ∀ (n : Nat) (x1 : Int32) (S : HS) (H : Heap) (locs : List Loc) (ls : Array Slot), fn_X9_parses_34 n x1 S = some Z → hWd D B cy A true (hMz z) S s.heap H locs → lv_has ls 2 [(0, .ref (B + 0)), (1, .int x1)] → W p l e ({ frames := 10, cells := 0, slots := 0, locals := 221 } : Room) s m args below meth c H locs 0 0 (MQ below (hQo D B cy A true (hMz z) Z none) args s 0 0 A) (F0 m 34 ls []) := by
  intro n
  induction n with
  | zero =>
    intro x1 S H locs ls hf
    cases hf
  | succ n ih =>
    intro x1 S H locs ls hf hw hl
    rw [fn_X9_parses_34] at hf
    refine lv_aload_n X.1 X.2.1 dX9_parses_34 rfl (lv_at hl 0 rfl) ?_
    refine r_getI X hw (κ := 10) rfl inlX9 22 (by decide) rfl (by decide) tw_447 (hMk hw.2.2.2.2.2.1 0 rfl) dX9_parses_35 ?_
    refine lv_if_ne (tgt := 63) X.1 X.2.1 dX9_parses_38 (by decide) (fun hq => ?_) (fun hq => ?_)
    · replace hf := cd_fk hq hf
      exact w_X9_parses_63 X  _ _ _ _ hf hw (lv_sub hl [] rfl)
    · replace hf := cd_tk hq hf
      refine lv_aload_n X.1 X.2.1 dX9_parses_41 rfl (lv_at hl 0 rfl) ?_
      refine r_getI X hw (κ := 10) rfl inlX9 20 (by decide) rfl (by decide) tw_457 (hMk hw.2.2.2.2.2.1 0 rfl) dX9_parses_42 ?_
      refine lv_iconst (v := 5) X.1 X.2.1 dX9_parses_45 (by decide) ?_
      refine lv_icmp_eq (tgt := 63) X.1 X.2.1 dX9_parses_46 (by decide) (fun hq => ?_) (fun hq => ?_)
      · replace hf := cd_tk hq hf
        exact w_X9_parses_63 X  _ _ _ _ hf hw (lv_sub hl [] rfl)
      · replace hf := cd_fk hq hf
        refine lv_aload_n X.1 X.2.1 dX9_parses_49 rfl (lv_at hl 0 rfl) ?_
        refine lv_iload_n X.1 X.2.1 dX9_parses_50 rfl (lv_at hl 1 rfl) ?_
        obtain ⟨S1, hS1, hf⟩ := bn_ok hf
        refine r_callV (As := [.int x1]) (rest := []) (st1 := []) (κ := 10) X hw (c_X9_line l D B cy A ad av x1 hw.2.2.2.2.1 hw.2.2.2.2.2 hS1) ⟨rfl, rfl, Nat.le_of_ble_eq_true rfl, Nat.le_of_ble_eq_true rfl⟩ rfl (by decide) (hMk hw.2.2.2.2.2.1 0 rfl) tw_480 tw_481 tw_482 tw_5 tw_483 hd_X9_line rfl hl.1 rfl (Nat.le_of_ble_eq_true rfl) dX9_parses_51 ⟨Nat.le_of_ble_eq_true rfl, Nat.le_of_ble_eq_true rfl⟩ rfl (fun H locs hw => ?_)
        refine lv_aload_n X.1 X.2.1 dX9_parses_54 rfl (lv_at hl 0 rfl) ?_
        refine lv_bipush (v := 59) X.1 X.2.1 dX9_parses_55 (by decide) ?_
        obtain ⟨S2, hS2, hf⟩ := bn_ok hf
        refine r_callV (As := [.int 59]) (rest := []) (st1 := []) (κ := 10) X hw (c_X9_wants l D B cy A ad av 59 hw.2.2.2.2.1 hw.2.2.2.2.2 hS2) ⟨rfl, rfl, Nat.le_of_ble_eq_true rfl, Nat.le_of_ble_eq_true rfl⟩ rfl (by decide) (hMk hw.2.2.2.2.2.1 0 rfl) tw_496 tw_497 tw_498 tw_5 tw_499 hd_X9_wants rfl hl.1 rfl (Nat.le_of_ble_eq_true rfl) dX9_parses_57 ⟨Nat.le_of_ble_eq_true rfl, Nat.le_of_ble_eq_true rfl⟩ rfl (fun H locs hw => ?_)
        refine lv_goto (tgt := 34) X.1 X.2.1 dX9_parses_60 (by decide) ?_
        exact ih _ _ _ _ _ hf hw (lv_sub hl [0, 1] rfl)
theorem hd_X9_parses : yX9_parses.cls = RX9 ∧ yX9_parses.cls ≠ "java/lang/invoke/MethodHandle" ∧ yX9_parses.cls ≠ "java/lang/invoke/VarHandle" ∧ (parseMethodDescriptor yX9_parses.desc).map (fun d => d.parameters.length) = some 0 := by decide +kernel
set_option maxHeartbeats 4000000 in
theorem c_X9_parses (l : Launch) (D : va_G) (B : Nat) (cy : Nat → ClassId) (A : Nat → Prop) (ad av : Nat → Nat) {z : Nat}  {S Z : HS} (hfr : hFr S) (hG : (hMz z) S) (hf : fn_X9_parses S = some Z) : hMet l yX9_parses cX9_parses 2 none ({ frames := 10, cells := 0, slots := 0, locals := 221 } : Room) D B cy A ad av true (hMz z) [.ref (B + 0)] S Z none 0 0 := by
  refine h_entry (by decide) hfr hG ?_
  intro p e s m below meth c args X hnm hw
  have hl := lv_entry ([.ref (B + 0)]) (n := 2) (Nat.le_of_ble_eq_true rfl)
  rw [lg_entry_eq]
  generalize (lg_sl ([.ref (B + 0)]) ++ List.replicate (2 - (lg_sl ([.ref (B + 0)])).length) Slot.unset).toArray = ls at hl ⊢
  have hl : lv_has ls 2 [(0, .ref (B + 0))] := hl
  unfold fn_X9_parses at hf
  refine lv_aload_n X.1 X.2.1 dX9_parses_0 rfl (lv_at hl 0 rfl) ?_
  refine lv_iconst (v := 0) X.1 X.2.1 dX9_parses_1 (by decide) ?_
  obtain ⟨S1, eS1, hf⟩ := bn_ok hf
  replace eS1 := Option.some.inj eS1
  refine r_putI X hw (κ := 10) rfl inlX9 tyX9 tyX9_ok nmX9 18 (by decide) rfl (by decide) tw_456 (Or.inl rfl) (hMk hw.2.2.2.2.2.1 0 rfl) rfl rfl hw.2.2.2.2.2 dX9_parses_2 (fun H locs hw => ?_)
  rw [eS1] at hw
  refine lv_aload_n X.1 X.2.1 dX9_parses_5 rfl (lv_at hl 0 rfl) ?_
  refine lv_iconst (v := 0) X.1 X.2.1 dX9_parses_6 (by decide) ?_
  obtain ⟨S2, eS2, hf⟩ := bn_ok hf
  replace eS2 := Option.some.inj eS2
  refine r_putI X hw (κ := 10) rfl inlX9 tyX9 tyX9_ok nmX9 22 (by decide) rfl (by decide) tw_447 (Or.inl rfl) (hMk hw.2.2.2.2.2.1 0 rfl) rfl rfl hw.2.2.2.2.2 dX9_parses_7 (fun H locs hw => ?_)
  rw [eS2] at hw
  refine lv_aload_n X.1 X.2.1 dX9_parses_10 rfl (lv_at hl 0 rfl) ?_
  refine lv_iconst (v := (-1)) X.1 X.2.1 dX9_parses_11 (by decide) ?_
  obtain ⟨S3, eS3, hf⟩ := bn_ok hf
  replace eS3 := Option.some.inj eS3
  refine r_putI X hw (κ := 10) rfl inlX9 tyX9 tyX9_ok nmX9 23 (by decide) rfl (by decide) tw_449 (Or.inl rfl) (hMk hw.2.2.2.2.2.1 0 rfl) rfl rfl hw.2.2.2.2.2 dX9_parses_12 (fun H locs hw => ?_)
  rw [eS3] at hw
  refine lv_aload_n X.1 X.2.1 dX9_parses_15 rfl (lv_at hl 0 rfl) ?_
  refine r_getF X hw (κ := 10) rfl inlX9 6 (by decide) rfl (by decide) tw_107 (hMk hw.2.2.2.2.2.1 0 rfl) (hMr hw.2.2.2.2.2.1 0 6 rfl) dX9_parses_16 ?_
  refine lv_aload_n X.1 X.2.1 dX9_parses_19 rfl (lv_at hl 0 rfl) ?_
  refine r_getI X hw (κ := 10) rfl inlX9 7 (by decide) rfl (by decide) tw_445 (hMk hw.2.2.2.2.2.1 0 rfl) dX9_parses_20 ?_
  obtain ⟨g4, hf⟩ := gd_ok hf
  refine r_iald X hw (hMk hw.2.2.2.2.2.1 4 rfl) (hMn hw.2.2.2.2.2.1 4 rfl) g4 dX9_parses_23 ?_
  obtain ⟨v5, ev5, hf⟩ := bn_ok hf
  replace ev5 := Option.some.inj ev5
  refine lv_ren ev5 ?_
  refine lv_istore_n (lv' := [(1, .int v5), (0, .ref (B + 0))]) X.1 X.2.1 dX9_parses_24 rfl hl (by decide) rfl (fun ls hl => ?_)
  refine lv_aload_n X.1 X.2.1 dX9_parses_25 rfl (lv_at hl 1 rfl) ?_
  refine lv_iload_n X.1 X.2.1 dX9_parses_26 rfl (lv_at hl 0 rfl) ?_
  obtain ⟨S6, eS6, hf⟩ := bn_ok hf
  replace eS6 := Option.some.inj eS6
  refine r_putI X hw (κ := 10) rfl inlX9 tyX9 tyX9_ok nmX9 26 (by decide) rfl (by decide) tw_451 (Or.inl rfl) (hMk hw.2.2.2.2.2.1 0 rfl) rfl rfl hw.2.2.2.2.2 dX9_parses_27 (fun H locs hw => ?_)
  rw [eS6] at hw
  refine lv_aload_n X.1 X.2.1 dX9_parses_30 rfl (lv_at hl 1 rfl) ?_
  obtain ⟨S7, hS7, hf⟩ := bn_ok hf
  refine r_callV (As := []) (rest := []) (st1 := []) (κ := 10) X hw (c_X9_next l D B cy A ad av  hw.2.2.2.2.1 hw.2.2.2.2.2 hS7) ⟨rfl, rfl, Nat.le_of_ble_eq_true rfl, Nat.le_of_ble_eq_true rfl⟩ rfl (by decide) (hMk hw.2.2.2.2.2.1 0 rfl) tw_458 tw_459 tw_460 tw_5 tw_461 hd_X9_next rfl hl.1 rfl (Nat.le_of_ble_eq_true rfl) dX9_parses_31 ⟨Nat.le_of_ble_eq_true rfl, Nat.le_of_ble_eq_true rfl⟩ rfl (fun H locs hw => ?_)
  exact w_X9_parses_34 X  _ _ _ _ _ _ hf hw (lv_sub hl [1, 0] rfl)
set_option maxHeartbeats 4000000 in
theorem w_X9_agree_37 {p : Program} {l : Launch} {e : Env} {s : State} {m : MethodId} {args : Array Value} {below : List Frame} {meth : Method} {c : Code} {D : va_G} {B : Nat} {cy : Nat → ClassId} {A : Nat → Prop} {ad av : Nat → Nat} {rv : Int32} {Z : HS} (X : hCX p s m args meth c RX9 cX9_agree 3 (some .int) D cy A ad av) {z : Nat}   (S : HS) (H : Heap) (locs : List Loc) (ls : Array Slot) (hf : fn_X9_agree_37 S = some (rv, Z)) (hw : hWd D B cy A true (hMz z) S s.heap H locs) (hl : lv_has ls 3 []) : W p l e ({ frames := 11, cells := 0, slots := 0, locals := 242 } : Room) s m args below meth c H locs 0 0 (MQ below (hQo D B cy A true (hMz z) Z (some (.int rv))) args s 0 0 A) (F0 m 37 ls []) := by
  unfold fn_X9_agree_37 at hf
  refine lv_bipush (v := (-2)) X.1 X.2.1 dX9_agree_37 (by decide) ?_
  cases hf
  exact r_iret X hw dX9_agree_39
theorem hd_X9_agree : yX9_agree.cls = RX9 ∧ yX9_agree.cls ≠ "java/lang/invoke/MethodHandle" ∧ yX9_agree.cls ≠ "java/lang/invoke/VarHandle" ∧ (parseMethodDescriptor yX9_agree.desc).map (fun d => d.parameters.length) = some 2 := by decide +kernel
set_option maxHeartbeats 4000000 in
theorem c_X9_agree (l : Launch) (D : va_G) (B : Nat) (cy : Nat → ClassId) (A : Nat → Prop) (ad av : Nat → Nat) {z : Nat} (x1 : Int32) (x2 : Int32) {S Z : HS} {rv : Int32} (hfr : hFr S) (hG : (hMz z) S) (hf : fn_X9_agree x1 x2 S = some (rv, Z)) : hMet l yX9_agree cX9_agree 3 (some .int) ({ frames := 11, cells := 0, slots := 0, locals := 242 } : Room) D B cy A ad av true (hMz z) [.ref (B + 0), .int x1, .int x2] S Z (some (.int rv)) 0 0 := by
  refine h_entry (by decide) hfr hG ?_
  intro p e s m below meth c args X hnm hw
  have hl := lv_entry ([.ref (B + 0), .int x1, .int x2]) (n := 3) (Nat.le_of_ble_eq_true rfl)
  rw [lg_entry_eq]
  generalize (lg_sl ([.ref (B + 0), .int x1, .int x2]) ++ List.replicate (3 - (lg_sl ([.ref (B + 0), .int x1, .int x2])).length) Slot.unset).toArray = ls at hl ⊢
  have hl : lv_has ls 3 [(0, .ref (B + 0)), (1, .int x1), (2, .int x2)] := hl
  unfold fn_X9_agree at hf
  refine lv_aload_n X.1 X.2.1 dX9_agree_0 rfl (lv_at hl 0 rfl) ?_
  refine lv_iconst (v := 0) X.1 X.2.1 dX9_agree_1 (by decide) ?_
  obtain ⟨S1, eS1, hf⟩ := bn_ok hf
  replace eS1 := Option.some.inj eS1
  refine r_putI X hw (κ := 10) rfl inlX9 tyX9 tyX9_ok nmX9 0 (by decide) rfl (by decide) tw_158 (Or.inl rfl) (hMk hw.2.2.2.2.2.1 0 rfl) rfl rfl hw.2.2.2.2.2 dX9_agree_2 (fun H locs hw => ?_)
  rw [eS1] at hw
  refine lv_iload_n X.1 X.2.1 dX9_agree_5 rfl (lv_at hl 1 rfl) ?_
  refine lv_if_lt (tgt := 37) X.1 X.2.1 dX9_agree_6 (by decide) (fun hq => ?_) (fun hq => ?_)
  · replace hf := cd_tk hq hf
    exact w_X9_agree_37 X  _ _ _ _ hf hw (lv_sub hl [] rfl)
  · replace hf := cd_fk hq hf
    refine lv_iload_n X.1 X.2.1 dX9_agree_9 rfl (lv_at hl 1 rfl) ?_
    refine lv_aload_n X.1 X.2.1 dX9_agree_10 rfl (lv_at hl 0 rfl) ?_
    refine r_getI X hw (κ := 10) rfl inlX9 2 (by decide) rfl (by decide) tw_159 (hMk hw.2.2.2.2.2.1 0 rfl) dX9_agree_11 ?_
    refine lv_icmp_gt (tgt := 37) X.1 X.2.1 dX9_agree_14 (by decide) (fun hq => ?_) (fun hq => ?_)
    · replace hf := cd_tk hq hf
      exact w_X9_agree_37 X  _ _ _ _ hf hw (lv_sub hl [] rfl)
    · replace hf := cd_fk hq hf
      refine lv_iload_n X.1 X.2.1 dX9_agree_17 rfl (lv_at hl 2 rfl) ?_
      refine lv_if_lt (tgt := 37) X.1 X.2.1 dX9_agree_18 (by decide) (fun hq => ?_) (fun hq => ?_)
      · replace hf := cd_tk hq hf
        exact w_X9_agree_37 X  _ _ _ _ hf hw (lv_sub hl [] rfl)
      · replace hf := cd_fk hq hf
        refine lv_iload_n X.1 X.2.1 dX9_agree_21 rfl (lv_at hl 2 rfl) ?_
        refine lv_sipush (v := 1200) X.1 X.2.1 dX9_agree_22 (by decide) ?_
        refine lv_icmp_ge (tgt := 37) X.1 X.2.1 dX9_agree_25 (by decide) (fun hq => ?_) (fun hq => ?_)
        · replace hf := cd_tk hq hf
          exact w_X9_agree_37 X  _ _ _ _ hf hw (lv_sub hl [] rfl)
        · replace hf := cd_fk hq hf
          refine lv_aload_n X.1 X.2.1 dX9_agree_28 rfl (lv_at hl 0 rfl) ?_
          refine r_getI X hw (κ := 10) rfl inlX9 7 (by decide) rfl (by decide) tw_445 (hMk hw.2.2.2.2.2.1 0 rfl) dX9_agree_29 ?_
          refine lv_bipush (v := 12) X.1 X.2.1 dX9_agree_32 (by decide) ?_
          refine lv_icmp_ne (tgt := 40) X.1 X.2.1 dX9_agree_34 (by decide) (fun hq => ?_) (fun hq => ?_)
          · replace hf := cd_fk hq hf
            refine lv_aload_n X.1 X.2.1 dX9_agree_40 rfl (lv_at hl 0 rfl) ?_
            refine lv_iload_n X.1 X.2.1 dX9_agree_41 rfl (lv_at hl 1 rfl) ?_
            obtain ⟨S2, eS2, hf⟩ := bn_ok hf
            replace eS2 := Option.some.inj eS2
            refine r_putI X hw (κ := 10) rfl inlX9 tyX9 tyX9_ok nmX9 17 (by decide) rfl (by decide) tw_446 (Or.inl rfl) (hMk hw.2.2.2.2.2.1 0 rfl) rfl rfl hw.2.2.2.2.2 dX9_agree_42 (fun H locs hw => ?_)
            rw [eS2] at hw
            refine lv_aload_n X.1 X.2.1 dX9_agree_45 rfl (lv_at hl 0 rfl) ?_
            refine lv_iconst (v := 0) X.1 X.2.1 dX9_agree_46 (by decide) ?_
            obtain ⟨S3, eS3, hf⟩ := bn_ok hf
            replace eS3 := Option.some.inj eS3
            refine r_putI X hw (κ := 10) rfl inlX9 tyX9 tyX9_ok nmX9 2 (by decide) rfl (by decide) tw_159 (Or.inl rfl) (hMk hw.2.2.2.2.2.1 0 rfl) rfl rfl hw.2.2.2.2.2 dX9_agree_47 (fun H locs hw => ?_)
            rw [eS3] at hw
            refine lv_aload_n X.1 X.2.1 dX9_agree_50 rfl (lv_at hl 0 rfl) ?_
            obtain ⟨S4, hS4, hf⟩ := bn_ok hf
            refine r_callV (As := []) (rest := []) (st1 := []) (κ := 10) X hw (c_X9_parses l D B cy A ad av  hw.2.2.2.2.1 hw.2.2.2.2.2 hS4) ⟨rfl, rfl, Nat.le_of_ble_eq_true rfl, Nat.le_of_ble_eq_true rfl⟩ rfl (by decide) (hMk hw.2.2.2.2.2.1 0 rfl) tw_452 tw_453 tw_454 tw_5 tw_455 hd_X9_parses rfl hl.1 rfl (Nat.le_of_ble_eq_true rfl) dX9_agree_51 ⟨Nat.le_of_ble_eq_true rfl, Nat.le_of_ble_eq_true rfl⟩ rfl (fun H locs hw => ?_)
            refine lv_aload_n X.1 X.2.1 dX9_agree_54 rfl (lv_at hl 0 rfl) ?_
            refine lv_aload_n X.1 X.2.1 dX9_agree_55 rfl (lv_at hl 0 rfl) ?_
            refine r_getI X hw (κ := 10) rfl inlX9 22 (by decide) rfl (by decide) tw_447 (hMk hw.2.2.2.2.2.1 0 rfl) dX9_agree_56 ?_
            obtain ⟨S5, eS5, hf⟩ := bn_ok hf
            replace eS5 := Option.some.inj eS5
            refine r_putI X hw (κ := 10) rfl inlX9 tyX9 tyX9_ok nmX9 24 (by decide) rfl (by decide) tw_448 (Or.inl rfl) (hMk hw.2.2.2.2.2.1 0 rfl) rfl rfl hw.2.2.2.2.2 dX9_agree_59 (fun H locs hw => ?_)
            rw [eS5] at hw
            refine lv_aload_n X.1 X.2.1 dX9_agree_62 rfl (lv_at hl 0 rfl) ?_
            refine lv_aload_n X.1 X.2.1 dX9_agree_63 rfl (lv_at hl 0 rfl) ?_
            refine r_getI X hw (κ := 10) rfl inlX9 23 (by decide) rfl (by decide) tw_449 (hMk hw.2.2.2.2.2.1 0 rfl) dX9_agree_64 ?_
            obtain ⟨S6, eS6, hf⟩ := bn_ok hf
            replace eS6 := Option.some.inj eS6
            refine r_putI X hw (κ := 10) rfl inlX9 tyX9 tyX9_ok nmX9 25 (by decide) rfl (by decide) tw_117 (Or.inl rfl) (hMk hw.2.2.2.2.2.1 0 rfl) rfl rfl hw.2.2.2.2.2 dX9_agree_67 (fun H locs hw => ?_)
            rw [eS6] at hw
            refine lv_aload_n X.1 X.2.1 dX9_agree_70 rfl (lv_at hl 0 rfl) ?_
            refine r_getI X hw (κ := 10) rfl inlX9 22 (by decide) rfl (by decide) tw_447 (hMk hw.2.2.2.2.2.1 0 rfl) dX9_agree_71 ?_
            refine lv_if_eq (tgt := 79) X.1 X.2.1 dX9_agree_74 (by decide) (fun hq => ?_) (fun hq => ?_)
            · replace hf := cd_tk hq hf
              refine lv_aload_n X.1 X.2.1 dX9_agree_79 rfl (lv_at hl 0 rfl) ?_
              refine r_getF X hw (κ := 10) rfl inlX9 4 (by decide) rfl (by decide) tw_105 (hMk hw.2.2.2.2.2.1 0 rfl) (hMr hw.2.2.2.2.2.1 0 4 rfl) dX9_agree_80 ?_
              refine lv_aload_n X.1 X.2.1 dX9_agree_83 rfl (lv_at hl 0 rfl) ?_
              refine r_getI X hw (κ := 10) rfl inlX9 7 (by decide) rfl (by decide) tw_445 (hMk hw.2.2.2.2.2.1 0 rfl) dX9_agree_84 ?_
              refine lv_aload_n X.1 X.2.1 dX9_agree_87 rfl (lv_at hl 0 rfl) ?_
              refine r_getI X hw (κ := 10) rfl inlX9 3 (by decide) rfl (by decide) tw_450 (hMk hw.2.2.2.2.2.1 0 rfl) dX9_agree_88 ?_
              obtain ⟨g7, hf⟩ := gd_ok hf
              obtain ⟨S8, eS8, hf⟩ := bn_ok hf
              replace eS8 := Option.some.inj eS8
              refine r_iast X hw (hMk hw.2.2.2.2.2.1 2 rfl) (hMn hw.2.2.2.2.2.1 2 rfl) g7 hw.2.2.2.2.2 dX9_agree_91 (fun H locs hw => ?_)
              rw [eS8] at hw
              refine lv_aload_n X.1 X.2.1 dX9_agree_92 rfl (lv_at hl 0 rfl) ?_
              refine r_getF X hw (κ := 10) rfl inlX9 5 (by decide) rfl (by decide) tw_106 (hMk hw.2.2.2.2.2.1 0 rfl) (hMr hw.2.2.2.2.2.1 0 5 rfl) dX9_agree_93 ?_
              refine lv_aload_n X.1 X.2.1 dX9_agree_96 rfl (lv_at hl 0 rfl) ?_
              refine r_getI X hw (κ := 10) rfl inlX9 7 (by decide) rfl (by decide) tw_445 (hMk hw.2.2.2.2.2.1 0 rfl) dX9_agree_97 ?_
              refine lv_iload_n X.1 X.2.1 dX9_agree_100 rfl (lv_at hl 2 rfl) ?_
              obtain ⟨g9, hf⟩ := gd_ok hf
              obtain ⟨S10, eS10, hf⟩ := bn_ok hf
              replace eS10 := Option.some.inj eS10
              refine r_iast X hw (hMk hw.2.2.2.2.2.1 3 rfl) (hMn hw.2.2.2.2.2.1 3 rfl) g9 hw.2.2.2.2.2 dX9_agree_101 (fun H locs hw => ?_)
              rw [eS10] at hw
              refine lv_aload_n X.1 X.2.1 dX9_agree_102 rfl (lv_at hl 0 rfl) ?_
              refine lv_dup X.1 X.2.1 dX9_agree_103 rfl ?_
              refine r_getI X hw (κ := 10) rfl inlX9 7 (by decide) rfl (by decide) tw_445 (hMk hw.2.2.2.2.2.1 0 rfl) dX9_agree_104 ?_
              refine lv_iconst (v := 1) X.1 X.2.1 dX9_agree_107 (by decide) ?_
              refine lv_iadd X.1 X.2.1 dX9_agree_108 ?_
              obtain ⟨S11, eS11, hf⟩ := bn_ok hf
              replace eS11 := Option.some.inj eS11
              refine r_putI X hw (κ := 10) rfl inlX9 tyX9 tyX9_ok nmX9 7 (by decide) rfl (by decide) tw_445 (Or.inl rfl) (hMk hw.2.2.2.2.2.1 0 rfl) rfl rfl hw.2.2.2.2.2 dX9_agree_109 (fun H locs hw => ?_)
              rw [eS11] at hw
              refine lv_aload_n X.1 X.2.1 dX9_agree_112 rfl (lv_at hl 0 rfl) ?_
              refine r_getF X hw (κ := 10) rfl inlX9 6 (by decide) rfl (by decide) tw_107 (hMk hw.2.2.2.2.2.1 0 rfl) (hMr hw.2.2.2.2.2.1 0 6 rfl) dX9_agree_113 ?_
              refine lv_aload_n X.1 X.2.1 dX9_agree_116 rfl (lv_at hl 0 rfl) ?_
              refine r_getI X hw (κ := 10) rfl inlX9 7 (by decide) rfl (by decide) tw_445 (hMk hw.2.2.2.2.2.1 0 rfl) dX9_agree_117 ?_
              refine lv_aload_n X.1 X.2.1 dX9_agree_120 rfl (lv_at hl 0 rfl) ?_
              refine r_getI X hw (κ := 10) rfl inlX9 26 (by decide) rfl (by decide) tw_451 (hMk hw.2.2.2.2.2.1 0 rfl) dX9_agree_121 ?_
              obtain ⟨g12, hf⟩ := gd_ok hf
              obtain ⟨S13, eS13, hf⟩ := bn_ok hf
              replace eS13 := Option.some.inj eS13
              refine r_iast X hw (hMk hw.2.2.2.2.2.1 4 rfl) (hMn hw.2.2.2.2.2.1 4 rfl) g12 hw.2.2.2.2.2 dX9_agree_124 (fun H locs hw => ?_)
              rw [eS13] at hw
              refine lv_aload_n X.1 X.2.1 dX9_agree_125 rfl (lv_at hl 0 rfl) ?_
              refine r_getI X hw (κ := 10) rfl inlX9 7 (by decide) rfl (by decide) tw_445 (hMk hw.2.2.2.2.2.1 0 rfl) dX9_agree_126 ?_
              refine lv_iconst (v := 1) X.1 X.2.1 dX9_agree_129 (by decide) ?_
              refine lv_isub X.1 X.2.1 dX9_agree_130 ?_
              cases hf
              exact r_iret X hw dX9_agree_131
            · replace hf := cd_fk hq hf
              refine lv_iconst (v := (-1)) X.1 X.2.1 dX9_agree_77 (by decide) ?_
              cases hf
              exact r_iret X hw dX9_agree_78
          · replace hf := cd_tk hq hf
            exact w_X9_agree_37 X  _ _ _ _ hf hw (lv_sub hl [] rfl)
set_option maxHeartbeats 4000000 in
theorem w_X9_fault_29 {p : Program} {l : Launch} {e : Env} {s : State} {m : MethodId} {args : Array Value} {below : List Frame} {meth : Method} {c : Code} {D : va_G} {B : Nat} {cy : Nat → ClassId} {A : Nat → Prop} {ad av : Nat → Nat} {rv : Int32} {Z : HS} (X : hCX p s m args meth c RX9 cX9_fault 2 (some .int) D cy A ad av) {z : Nat}  (y0 : Int32) (S : HS) (H : Heap) (locs : List Loc) (ls : Array Slot) (hf : fn_X9_fault_29 y0 S = some (rv, Z)) (hw : hWd D B cy A true (hMz z) S s.heap H locs) (hl : lv_has ls 2 []) : W p l e ({ frames := 0, cells := 0, slots := 0, locals := 0 } : Room) s m args below meth c H locs 0 0 (MQ below (hQo D B cy A true (hMz z) Z (some (.int rv))) args s 0 0 A) (F0 m 29 ls [.int y0]) := by
  unfold fn_X9_fault_29 at hf
  cases hf
  exact r_iret X hw dX9_fault_29
theorem hd_X9_fault : yX9_fault.cls = RX9 ∧ yX9_fault.cls ≠ "java/lang/invoke/MethodHandle" ∧ yX9_fault.cls ≠ "java/lang/invoke/VarHandle" ∧ (parseMethodDescriptor yX9_fault.desc).map (fun d => d.parameters.length) = some 1 := by decide +kernel
set_option maxHeartbeats 4000000 in
theorem c_X9_fault (l : Launch) (D : va_G) (B : Nat) (cy : Nat → ClassId) (A : Nat → Prop) (ad av : Nat → Nat) {z : Nat} (x1 : Int32) {S Z : HS} {rv : Int32} (hfr : hFr S) (hG : (hMz z) S) (hf : fn_X9_fault x1 S = some (rv, Z)) : hMet l yX9_fault cX9_fault 2 (some .int) ({ frames := 0, cells := 0, slots := 0, locals := 0 } : Room) D B cy A ad av true (hMz z) [.ref (B + 0), .int x1] S Z (some (.int rv)) 0 0 := by
  refine h_entry (by decide) hfr hG ?_
  intro p e s m below meth c args X hnm hw
  have hl := lv_entry ([.ref (B + 0), .int x1]) (n := 2) (Nat.le_of_ble_eq_true rfl)
  rw [lg_entry_eq]
  generalize (lg_sl ([.ref (B + 0), .int x1]) ++ List.replicate (2 - (lg_sl ([.ref (B + 0), .int x1])).length) Slot.unset).toArray = ls at hl ⊢
  have hl : lv_has ls 2 [(0, .ref (B + 0)), (1, .int x1)] := hl
  unfold fn_X9_fault at hf
  refine lv_aload_n X.1 X.2.1 dX9_fault_0 rfl (lv_at hl 0 rfl) ?_
  refine lv_iconst (v := 0) X.1 X.2.1 dX9_fault_1 (by decide) ?_
  obtain ⟨S1, eS1, hf⟩ := bn_ok hf
  replace eS1 := Option.some.inj eS1
  refine r_putI X hw (κ := 10) rfl inlX9 tyX9 tyX9_ok nmX9 0 (by decide) rfl (by decide) tw_158 (Or.inl rfl) (hMk hw.2.2.2.2.2.1 0 rfl) rfl rfl hw.2.2.2.2.2 dX9_fault_2 (fun H locs hw => ?_)
  rw [eS1] at hw
  refine lv_iload_n X.1 X.2.1 dX9_fault_5 rfl (lv_at hl 1 rfl) ?_
  refine lv_if_ne (tgt := 16) X.1 X.2.1 dX9_fault_6 (by decide) (fun hq => ?_) (fun hq => ?_)
  · replace hf := cd_fk hq hf
    refine lv_iload_n X.1 X.2.1 dX9_fault_16 rfl (lv_at hl 1 rfl) ?_
    refine lv_iconst (v := 1) X.1 X.2.1 dX9_fault_17 (by decide) ?_
    refine lv_icmp_ne (tgt := 28) X.1 X.2.1 dX9_fault_18 (by decide) (fun hq => ?_) (fun hq => ?_)
    · replace hf := cd_fk hq hf
      refine lv_iconst (v := (-1)) X.1 X.2.1 dX9_fault_28 (by decide) ?_
      exact w_X9_fault_29 X  _ _ _ _ _ hf hw (lv_sub hl [] rfl)
    · replace hf := cd_tk hq hf
      refine lv_aload_n X.1 X.2.1 dX9_fault_21 rfl (lv_at hl 0 rfl) ?_
      refine r_getI X hw (κ := 10) rfl inlX9 25 (by decide) rfl (by decide) tw_117 (hMk hw.2.2.2.2.2.1 0 rfl) dX9_fault_22 ?_
      refine lv_goto (tgt := 29) X.1 X.2.1 dX9_fault_25 (by decide) ?_
      exact w_X9_fault_29 X  _ _ _ _ _ hf hw (lv_sub hl [] rfl)
  · replace hf := cd_tk hq hf
    refine lv_aload_n X.1 X.2.1 dX9_fault_9 rfl (lv_at hl 0 rfl) ?_
    refine r_getI X hw (κ := 10) rfl inlX9 24 (by decide) rfl (by decide) tw_448 (hMk hw.2.2.2.2.2.1 0 rfl) dX9_fault_10 ?_
    refine lv_goto (tgt := 29) X.1 X.2.1 dX9_fault_13 (by decide) ?_
    exact w_X9_fault_29 X  _ _ _ _ _ hf hw (lv_sub hl [] rfl)
set_option maxHeartbeats 4000000 in
theorem w_X9_pass_28 {p : Program} {l : Launch} {e : Env} {s : State} {m : MethodId} {args : Array Value} {below : List Frame} {meth : Method} {c : Code} {D : va_G} {B : Nat} {cy : Nat → ClassId} {A : Nat → Prop} {ad av : Nat → Nat} {rv : Int32} {Z : HS} (X : hCX p s m args meth c RX9 cX9_pass 2 (some .int) D cy A ad av) {z : Nat}   (S : HS) (H : Heap) (locs : List Loc) (ls : Array Slot) (hf : fn_X9_pass_28 S = some (rv, Z)) (hw : hWd D B cy A true (hMz z) S s.heap H locs) (hl : lv_has ls 2 []) : W p l e ({ frames := 0, cells := 0, slots := 0, locals := 0 } : Room) s m args below meth c H locs 0 0 (MQ below (hQo D B cy A true (hMz z) Z (some (.int rv))) args s 0 0 A) (F0 m 28 ls []) := by
  unfold fn_X9_pass_28 at hf
  refine lv_iconst (v := (-1)) X.1 X.2.1 dX9_pass_28 (by decide) ?_
  cases hf
  exact r_iret X hw dX9_pass_29
theorem hd_X9_pass : yX9_pass.cls = RX9 ∧ yX9_pass.cls ≠ "java/lang/invoke/MethodHandle" ∧ yX9_pass.cls ≠ "java/lang/invoke/VarHandle" ∧ (parseMethodDescriptor yX9_pass.desc).map (fun d => d.parameters.length) = some 1 := by decide +kernel
set_option maxHeartbeats 4000000 in
theorem c_X9_pass (l : Launch) (D : va_G) (B : Nat) (cy : Nat → ClassId) (A : Nat → Prop) (ad av : Nat → Nat) {z : Nat} (x1 : Int32) {S Z : HS} {rv : Int32} (hfr : hFr S) (hG : (hMz z) S) (hf : fn_X9_pass x1 S = some (rv, Z)) : hMet l yX9_pass cX9_pass 2 (some .int) ({ frames := 0, cells := 0, slots := 0, locals := 0 } : Room) D B cy A ad av true (hMz z) [.ref (B + 0), .int x1] S Z (some (.int rv)) 0 0 := by
  refine h_entry (by decide) hfr hG ?_
  intro p e s m below meth c args X hnm hw
  have hl := lv_entry ([.ref (B + 0), .int x1]) (n := 2) (Nat.le_of_ble_eq_true rfl)
  rw [lg_entry_eq]
  generalize (lg_sl ([.ref (B + 0), .int x1]) ++ List.replicate (2 - (lg_sl ([.ref (B + 0), .int x1])).length) Slot.unset).toArray = ls at hl ⊢
  have hl : lv_has ls 2 [(0, .ref (B + 0)), (1, .int x1)] := hl
  unfold fn_X9_pass at hf
  refine lv_aload_n X.1 X.2.1 dX9_pass_0 rfl (lv_at hl 0 rfl) ?_
  refine lv_iconst (v := 0) X.1 X.2.1 dX9_pass_1 (by decide) ?_
  obtain ⟨S1, eS1, hf⟩ := bn_ok hf
  replace eS1 := Option.some.inj eS1
  refine r_putI X hw (κ := 10) rfl inlX9 tyX9 tyX9_ok nmX9 0 (by decide) rfl (by decide) tw_158 (Or.inl rfl) (hMk hw.2.2.2.2.2.1 0 rfl) rfl rfl hw.2.2.2.2.2 dX9_pass_2 (fun H locs hw => ?_)
  rw [eS1] at hw
  refine lv_iload_n X.1 X.2.1 dX9_pass_5 rfl (lv_at hl 1 rfl) ?_
  refine lv_if_lt (tgt := 28) X.1 X.2.1 dX9_pass_6 (by decide) (fun hq => ?_) (fun hq => ?_)
  · replace hf := cd_tk hq hf
    exact w_X9_pass_28 X  _ _ _ _ hf hw (lv_sub hl [] rfl)
  · replace hf := cd_fk hq hf
    refine lv_iload_n X.1 X.2.1 dX9_pass_9 rfl (lv_at hl 1 rfl) ?_
    refine lv_sipush (v := 1200) X.1 X.2.1 dX9_pass_10 (by decide) ?_
    refine lv_icmp_gt (tgt := 28) X.1 X.2.1 dX9_pass_13 (by decide) (fun hq => ?_) (fun hq => ?_)
    · replace hf := cd_tk hq hf
      exact w_X9_pass_28 X  _ _ _ _ hf hw (lv_sub hl [] rfl)
    · replace hf := cd_fk hq hf
      refine lv_aload_n X.1 X.2.1 dX9_pass_16 rfl (lv_at hl 0 rfl) ?_
      refine r_getI X hw (κ := 10) rfl inlX9 3 (by decide) rfl (by decide) tw_450 (hMk hw.2.2.2.2.2.1 0 rfl) dX9_pass_17 ?_
      refine lv_iload_n X.1 X.2.1 dX9_pass_20 rfl (lv_at hl 1 rfl) ?_
      refine lv_iadd X.1 X.2.1 dX9_pass_21 ?_
      refine lv_sipush (v := 1200) X.1 X.2.1 dX9_pass_22 (by decide) ?_
      refine lv_icmp_lt (tgt := 30) X.1 X.2.1 dX9_pass_25 (by decide) (fun hq => ?_) (fun hq => ?_)
      · replace hf := cd_tk hq hf
        refine lv_aload_n X.1 X.2.1 dX9_pass_30 rfl (lv_at hl 0 rfl) ?_
        refine lv_dup X.1 X.2.1 dX9_pass_31 rfl ?_
        refine r_getI X hw (κ := 10) rfl inlX9 3 (by decide) rfl (by decide) tw_450 (hMk hw.2.2.2.2.2.1 0 rfl) dX9_pass_32 ?_
        refine lv_iload_n X.1 X.2.1 dX9_pass_35 rfl (lv_at hl 1 rfl) ?_
        refine lv_iadd X.1 X.2.1 dX9_pass_36 ?_
        obtain ⟨S2, eS2, hf⟩ := bn_ok hf
        replace eS2 := Option.some.inj eS2
        refine r_putI X hw (κ := 10) rfl inlX9 tyX9 tyX9_ok nmX9 3 (by decide) rfl (by decide) tw_450 (Or.inl rfl) (hMk hw.2.2.2.2.2.1 0 rfl) rfl rfl hw.2.2.2.2.2 dX9_pass_37 (fun H locs hw => ?_)
        rw [eS2] at hw
        refine lv_aload_n X.1 X.2.1 dX9_pass_40 rfl (lv_at hl 0 rfl) ?_
        refine r_getI X hw (κ := 10) rfl inlX9 3 (by decide) rfl (by decide) tw_450 (hMk hw.2.2.2.2.2.1 0 rfl) dX9_pass_41 ?_
        cases hf
        exact r_iret X hw dX9_pass_44
      · replace hf := cd_fk hq hf
        exact w_X9_pass_28 X  _ _ _ _ hf hw (lv_sub hl [] rfl)
set_option maxHeartbeats 4000000 in
theorem w_X9_post_24 {p : Program} {l : Launch} {e : Env} {s : State} {m : MethodId} {args : Array Value} {below : List Frame} {meth : Method} {c : Code} {D : va_G} {B : Nat} {cy : Nat → ClassId} {A : Nat → Prop} {ad av : Nat → Nat} {rv : Int32} {Z : HS} (X : hCX p s m args meth c RX9 cX9_post 2 (some .int) D cy A ad av) {z : Nat}   (S : HS) (H : Heap) (locs : List Loc) (ls : Array Slot) (hf : fn_X9_post_24 S = some (rv, Z)) (hw : hWd D B cy A true (hMz z) S s.heap H locs) (hl : lv_has ls 2 []) : W p l e ({ frames := 0, cells := 0, slots := 0, locals := 0 } : Room) s m args below meth c H locs 0 0 (MQ below (hQo D B cy A true (hMz z) Z (some (.int rv))) args s 0 0 A) (F0 m 24 ls []) := by
  unfold fn_X9_post_24 at hf
  refine lv_iconst (v := (-1)) X.1 X.2.1 dX9_post_24 (by decide) ?_
  cases hf
  exact r_iret X hw dX9_post_25
theorem hd_X9_post : yX9_post.cls = RX9 ∧ yX9_post.cls ≠ "java/lang/invoke/MethodHandle" ∧ yX9_post.cls ≠ "java/lang/invoke/VarHandle" ∧ (parseMethodDescriptor yX9_post.desc).map (fun d => d.parameters.length) = some 1 := by decide +kernel
set_option maxHeartbeats 4000000 in
theorem c_X9_post (l : Launch) (D : va_G) (B : Nat) (cy : Nat → ClassId) (A : Nat → Prop) (ad av : Nat → Nat) {z : Nat} (x1 : Int32) {S Z : HS} {rv : Int32} (hfr : hFr S) (hG : (hMz z) S) (hf : fn_X9_post x1 S = some (rv, Z)) : hMet l yX9_post cX9_post 2 (some .int) ({ frames := 0, cells := 0, slots := 0, locals := 0 } : Room) D B cy A ad av true (hMz z) [.ref (B + 0), .int x1] S Z (some (.int rv)) 0 0 := by
  refine h_entry (by decide) hfr hG ?_
  intro p e s m below meth c args X hnm hw
  have hl := lv_entry ([.ref (B + 0), .int x1]) (n := 2) (Nat.le_of_ble_eq_true rfl)
  rw [lg_entry_eq]
  generalize (lg_sl ([.ref (B + 0), .int x1]) ++ List.replicate (2 - (lg_sl ([.ref (B + 0), .int x1])).length) Slot.unset).toArray = ls at hl ⊢
  have hl : lv_has ls 2 [(0, .ref (B + 0)), (1, .int x1)] := hl
  unfold fn_X9_post at hf
  refine lv_aload_n X.1 X.2.1 dX9_post_0 rfl (lv_at hl 0 rfl) ?_
  refine lv_iconst (v := 0) X.1 X.2.1 dX9_post_1 (by decide) ?_
  obtain ⟨S1, eS1, hf⟩ := bn_ok hf
  replace eS1 := Option.some.inj eS1
  refine r_putI X hw (κ := 10) rfl inlX9 tyX9 tyX9_ok nmX9 0 (by decide) rfl (by decide) tw_158 (Or.inl rfl) (hMk hw.2.2.2.2.2.1 0 rfl) rfl rfl hw.2.2.2.2.2 dX9_post_2 (fun H locs hw => ?_)
  rw [eS1] at hw
  refine lv_iload_n X.1 X.2.1 dX9_post_5 rfl (lv_at hl 1 rfl) ?_
  refine lv_if_lt (tgt := 24) X.1 X.2.1 dX9_post_6 (by decide) (fun hq => ?_) (fun hq => ?_)
  · replace hf := cd_tk hq hf
    exact w_X9_post_24 X  _ _ _ _ hf hw (lv_sub hl [] rfl)
  · replace hf := cd_fk hq hf
    refine lv_iload_n X.1 X.2.1 dX9_post_9 rfl (lv_at hl 1 rfl) ?_
    refine lv_bipush (v := 7) X.1 X.2.1 dX9_post_10 (by decide) ?_
    refine lv_icmp_gt (tgt := 24) X.1 X.2.1 dX9_post_12 (by decide) (fun hq => ?_) (fun hq => ?_)
    · replace hf := cd_tk hq hf
      exact w_X9_post_24 X  _ _ _ _ hf hw (lv_sub hl [] rfl)
    · replace hf := cd_fk hq hf
      refine lv_aload_n X.1 X.2.1 dX9_post_15 rfl (lv_at hl 0 rfl) ?_
      refine r_getI X hw (κ := 10) rfl inlX9 28 (by decide) rfl (by decide) tw_538 (hMk hw.2.2.2.2.2.1 0 rfl) dX9_post_16 ?_
      refine lv_bipush (v := 8) X.1 X.2.1 dX9_post_19 (by decide) ?_
      refine lv_icmp_ne (tgt := 26) X.1 X.2.1 dX9_post_21 (by decide) (fun hq => ?_) (fun hq => ?_)
      · replace hf := cd_fk hq hf
        refine lv_aload_n X.1 X.2.1 dX9_post_26 rfl (lv_at hl 0 rfl) ?_
        refine r_getF X hw (κ := 10) rfl inlX9 27 (by decide) rfl (by decide) tw_118 (hMk hw.2.2.2.2.2.1 0 rfl) (hMr hw.2.2.2.2.2.1 0 27 rfl) dX9_post_27 ?_
        refine lv_aload_n X.1 X.2.1 dX9_post_30 rfl (lv_at hl 0 rfl) ?_
        refine r_getI X hw (κ := 10) rfl inlX9 28 (by decide) rfl (by decide) tw_538 (hMk hw.2.2.2.2.2.1 0 rfl) dX9_post_31 ?_
        refine lv_iload_n X.1 X.2.1 dX9_post_34 rfl (lv_at hl 1 rfl) ?_
        obtain ⟨g2, hf⟩ := gd_ok hf
        obtain ⟨S3, eS3, hf⟩ := bn_ok hf
        replace eS3 := Option.some.inj eS3
        refine r_iast X hw (hMk hw.2.2.2.2.2.1 14 rfl) (hMn hw.2.2.2.2.2.1 14 rfl) g2 hw.2.2.2.2.2 dX9_post_35 (fun H locs hw => ?_)
        rw [eS3] at hw
        refine lv_aload_n X.1 X.2.1 dX9_post_36 rfl (lv_at hl 0 rfl) ?_
        refine lv_dup X.1 X.2.1 dX9_post_37 rfl ?_
        refine r_getI X hw (κ := 10) rfl inlX9 28 (by decide) rfl (by decide) tw_538 (hMk hw.2.2.2.2.2.1 0 rfl) dX9_post_38 ?_
        refine lv_iconst (v := 1) X.1 X.2.1 dX9_post_41 (by decide) ?_
        refine lv_iadd X.1 X.2.1 dX9_post_42 ?_
        obtain ⟨S4, eS4, hf⟩ := bn_ok hf
        replace eS4 := Option.some.inj eS4
        refine r_putI X hw (κ := 10) rfl inlX9 tyX9 tyX9_ok nmX9 28 (by decide) rfl (by decide) tw_538 (Or.inl rfl) (hMk hw.2.2.2.2.2.1 0 rfl) rfl rfl hw.2.2.2.2.2 dX9_post_43 (fun H locs hw => ?_)
        rw [eS4] at hw
        refine lv_aload_n X.1 X.2.1 dX9_post_46 rfl (lv_at hl 0 rfl) ?_
        refine r_getI X hw (κ := 10) rfl inlX9 28 (by decide) rfl (by decide) tw_538 (hMk hw.2.2.2.2.2.1 0 rfl) dX9_post_47 ?_
        refine lv_iconst (v := 1) X.1 X.2.1 dX9_post_50 (by decide) ?_
        refine lv_isub X.1 X.2.1 dX9_post_51 ?_
        cases hf
        exact r_iret X hw dX9_post_52
      · replace hf := cd_tk hq hf
        exact w_X9_post_24 X  _ _ _ _ hf hw (lv_sub hl [] rfl)
set_option maxHeartbeats 4000000 in
theorem w_X9_isValue_84 {p : Program} {l : Launch} {e : Env} {s : State} {m : MethodId} {args : Array Value} {below : List Frame} {meth : Method} {c : Code} {D : va_G} {B : Nat} {cy : Nat → ClassId} {A : Nat → Prop} {ad av : Nat → Nat} {rv : Int32} {Z : HS} (X : hCX p s m args meth c RX9 cX9_isValue 2 (some .boolean) D cy A ad av) {z : Nat}  (y0 : Int32) (S : HS) (H : Heap) (locs : List Loc) (ls : Array Slot) (hf : fn_X9_isValue_84 y0 S = some (rv, Z)) (hw : hWd D B cy A true (hMz z) S s.heap H locs) (hl : lv_has ls 2 []) : W p l e ({ frames := 0, cells := 0, slots := 0, locals := 0 } : Room) s m args below meth c H locs 0 0 (MQ below (hQo D B cy A true (hMz z) Z (some (.int rv))) args s 0 0 A) (F0 m 84 ls [.int y0]) := by
  unfold fn_X9_isValue_84 at hf
  obtain ⟨g1, hf⟩ := gd_ok hf
  cases hf
  exact r_zret X hw g1 dX9_isValue_84
set_option maxHeartbeats 4000000 in
theorem w_X9_isValue_83 {p : Program} {l : Launch} {e : Env} {s : State} {m : MethodId} {args : Array Value} {below : List Frame} {meth : Method} {c : Code} {D : va_G} {B : Nat} {cy : Nat → ClassId} {A : Nat → Prop} {ad av : Nat → Nat} {rv : Int32} {Z : HS} (X : hCX p s m args meth c RX9 cX9_isValue 2 (some .boolean) D cy A ad av) {z : Nat}   (S : HS) (H : Heap) (locs : List Loc) (ls : Array Slot) (hf : fn_X9_isValue_83 S = some (rv, Z)) (hw : hWd D B cy A true (hMz z) S s.heap H locs) (hl : lv_has ls 2 []) : W p l e ({ frames := 0, cells := 0, slots := 0, locals := 0 } : Room) s m args below meth c H locs 0 0 (MQ below (hQo D B cy A true (hMz z) Z (some (.int rv))) args s 0 0 A) (F0 m 83 ls []) := by
  unfold fn_X9_isValue_83 at hf
  refine lv_iconst (v := 0) X.1 X.2.1 dX9_isValue_83 (by decide) ?_
  exact w_X9_isValue_84 X  _ _ _ _ _ hf hw (lv_sub hl [] rfl)
set_option maxHeartbeats 4000000 in
theorem w_X9_isValue_46 {p : Program} {l : Launch} {e : Env} {s : State} {m : MethodId} {args : Array Value} {below : List Frame} {meth : Method} {c : Code} {D : va_G} {B : Nat} {cy : Nat → ClassId} {A : Nat → Prop} {ad av : Nat → Nat} {rv : Int32} {Z : HS} (X : hCX p s m args meth c RX9 cX9_isValue 2 (some .boolean) D cy A ad av) {z : Nat}  (y0 : Int32) (S : HS) (H : Heap) (locs : List Loc) (ls : Array Slot) (hf : fn_X9_isValue_46 y0 S = some (rv, Z)) (hw : hWd D B cy A true (hMz z) S s.heap H locs) (hl : lv_has ls 2 []) : W p l e ({ frames := 0, cells := 0, slots := 0, locals := 0 } : Room) s m args below meth c H locs 0 0 (MQ below (hQo D B cy A true (hMz z) Z (some (.int rv))) args s 0 0 A) (F0 m 46 ls [.int y0]) := by
  unfold fn_X9_isValue_46 at hf
  obtain ⟨g1, hf⟩ := gd_ok hf
  cases hf
  exact r_zret X hw g1 dX9_isValue_46
set_option maxHeartbeats 4000000 in
theorem w_X9_isValue_41 {p : Program} {l : Launch} {e : Env} {s : State} {m : MethodId} {args : Array Value} {below : List Frame} {meth : Method} {c : Code} {D : va_G} {B : Nat} {cy : Nat → ClassId} {A : Nat → Prop} {ad av : Nat → Nat} {rv : Int32} {Z : HS} (X : hCX p s m args meth c RX9 cX9_isValue 2 (some .boolean) D cy A ad av) {z : Nat}   (S : HS) (H : Heap) (locs : List Loc) (ls : Array Slot) (hf : fn_X9_isValue_41 S = some (rv, Z)) (hw : hWd D B cy A true (hMz z) S s.heap H locs) (hl : lv_has ls 2 []) : W p l e ({ frames := 0, cells := 0, slots := 0, locals := 0 } : Room) s m args below meth c H locs 0 0 (MQ below (hQo D B cy A true (hMz z) Z (some (.int rv))) args s 0 0 A) (F0 m 41 ls []) := by
  unfold fn_X9_isValue_41 at hf
  refine lv_iconst (v := 1) X.1 X.2.1 dX9_isValue_41 (by decide) ?_
  refine lv_goto (tgt := 46) X.1 X.2.1 dX9_isValue_42 (by decide) ?_
  exact w_X9_isValue_46 X  _ _ _ _ _ hf hw (lv_sub hl [] rfl)
set_option maxHeartbeats 4000000 in
theorem w_X9_isValue_25 {p : Program} {l : Launch} {e : Env} {s : State} {m : MethodId} {args : Array Value} {below : List Frame} {meth : Method} {c : Code} {D : va_G} {B : Nat} {cy : Nat → ClassId} {A : Nat → Prop} {ad av : Nat → Nat} {rv : Int32} {Z : HS} (X : hCX p s m args meth c RX9 cX9_isValue 2 (some .boolean) D cy A ad av) {z : Nat}  (y0 : Int32) (S : HS) (H : Heap) (locs : List Loc) (ls : Array Slot) (hf : fn_X9_isValue_25 y0 S = some (rv, Z)) (hw : hWd D B cy A true (hMz z) S s.heap H locs) (hl : lv_has ls 2 []) : W p l e ({ frames := 0, cells := 0, slots := 0, locals := 0 } : Room) s m args below meth c H locs 0 0 (MQ below (hQo D B cy A true (hMz z) Z (some (.int rv))) args s 0 0 A) (F0 m 25 ls [.int y0]) := by
  unfold fn_X9_isValue_25 at hf
  obtain ⟨g1, hf⟩ := gd_ok hf
  cases hf
  exact r_zret X hw g1 dX9_isValue_25
set_option maxHeartbeats 4000000 in
theorem w_X9_isValue_24 {p : Program} {l : Launch} {e : Env} {s : State} {m : MethodId} {args : Array Value} {below : List Frame} {meth : Method} {c : Code} {D : va_G} {B : Nat} {cy : Nat → ClassId} {A : Nat → Prop} {ad av : Nat → Nat} {rv : Int32} {Z : HS} (X : hCX p s m args meth c RX9 cX9_isValue 2 (some .boolean) D cy A ad av) {z : Nat}   (S : HS) (H : Heap) (locs : List Loc) (ls : Array Slot) (hf : fn_X9_isValue_24 S = some (rv, Z)) (hw : hWd D B cy A true (hMz z) S s.heap H locs) (hl : lv_has ls 2 []) : W p l e ({ frames := 0, cells := 0, slots := 0, locals := 0 } : Room) s m args below meth c H locs 0 0 (MQ below (hQo D B cy A true (hMz z) Z (some (.int rv))) args s 0 0 A) (F0 m 24 ls []) := by
  unfold fn_X9_isValue_24 at hf
  refine lv_iconst (v := 0) X.1 X.2.1 dX9_isValue_24 (by decide) ?_
  exact w_X9_isValue_25 X  _ _ _ _ _ hf hw (lv_sub hl [] rfl)
theorem hd_X9_isValue : yX9_isValue.cls ≠ "java/lang/invoke/MethodHandle" ∧ yX9_isValue.cls ≠ "java/lang/invoke/VarHandle" ∧ (parseMethodDescriptor yX9_isValue.desc).map (fun d => d.parameters.length) = some 2 := by decide +kernel
set_option maxHeartbeats 4000000 in
theorem c_X9_isValue (l : Launch) (D : va_G) (B : Nat) (cy : Nat → ClassId) (A : Nat → Prop) (ad av : Nat → Nat) {z : Nat} (x0 : Int32) (x1 : Int32) {S Z : HS} {rv : Int32} (hfr : hFr S) (hG : (hMz z) S) (hf : fn_X9_isValue x0 x1 S = some (rv, Z)) : hMet l yX9_isValue cX9_isValue 2 (some .boolean) ({ frames := 0, cells := 0, slots := 0, locals := 0 } : Room) D B cy A ad av true (hMz z) [.int x0, .int x1] S Z (some (.int rv)) 0 0 := by
  refine h_entry (by decide) hfr hG ?_
  intro p e s m below meth c args X hnm hw
  have hl := lv_entry ([.int x0, .int x1]) (n := 2) (Nat.le_of_ble_eq_true rfl)
  rw [lg_entry_eq]
  generalize (lg_sl ([.int x0, .int x1]) ++ List.replicate (2 - (lg_sl ([.int x0, .int x1])).length) Slot.unset).toArray = ls at hl ⊢
  have hl : lv_has ls 2 [(0, .int x0), (1, .int x1)] := hl
  unfold fn_X9_isValue at hf
  refine lv_iload_n X.1 X.2.1 dX9_isValue_0 rfl (lv_at hl 0 rfl) ?_
  refine lv_bipush (v := 6) X.1 X.2.1 dX9_isValue_1 (by decide) ?_
  refine lv_icmp_ge (tgt := 26) X.1 X.2.1 dX9_isValue_3 (by decide) (fun hq => ?_) (fun hq => ?_)
  · replace hf := cd_tk hq hf
    refine lv_iload_n X.1 X.2.1 dX9_isValue_26 rfl (lv_at hl 0 rfl) ?_
    refine lv_bipush (v := 7) X.1 X.2.1 dX9_isValue_27 (by decide) ?_
    refine lv_icmp_eq (tgt := 47) X.1 X.2.1 dX9_isValue_29 (by decide) (fun hq => ?_) (fun hq => ?_)
    · replace hf := cd_tk hq hf
      refine lv_iload_n X.1 X.2.1 dX9_isValue_47 rfl (lv_at hl 1 rfl) ?_
      refine lv_if_le (tgt := 83) X.1 X.2.1 dX9_isValue_48 (by decide) (fun hq => ?_) (fun hq => ?_)
      · replace hf := cd_tk hq hf
        exact w_X9_isValue_83 X  _ _ _ _ hf hw (lv_sub hl [] rfl)
      · replace hf := cd_fk hq hf
        refine lv_iload_n X.1 X.2.1 dX9_isValue_51 rfl (lv_at hl 1 rfl) ?_
        refine lv_bipush (v := 10) X.1 X.2.1 dX9_isValue_52 (by decide) ?_
        refine lv_irem X.1 X.2.1 dX9_isValue_54 (by decide) ?_
        refine lv_iconst (v := 1) X.1 X.2.1 dX9_isValue_55 (by decide) ?_
        refine lv_icmp_lt (tgt := 83) X.1 X.2.1 dX9_isValue_56 (by decide) (fun hq => ?_) (fun hq => ?_)
        · replace hf := cd_tk hq hf
          exact w_X9_isValue_83 X  _ _ _ _ hf hw (lv_sub hl [] rfl)
        · replace hf := cd_fk hq hf
          refine lv_iload_n X.1 X.2.1 dX9_isValue_59 rfl (lv_at hl 1 rfl) ?_
          refine lv_bipush (v := 10) X.1 X.2.1 dX9_isValue_60 (by decide) ?_
          refine lv_irem X.1 X.2.1 dX9_isValue_62 (by decide) ?_
          refine lv_bipush (v := 8) X.1 X.2.1 dX9_isValue_63 (by decide) ?_
          refine lv_icmp_gt (tgt := 83) X.1 X.2.1 dX9_isValue_65 (by decide) (fun hq => ?_) (fun hq => ?_)
          · replace hf := cd_tk hq hf
            exact w_X9_isValue_83 X  _ _ _ _ hf hw (lv_sub hl [] rfl)
          · replace hf := cd_fk hq hf
            refine lv_iload_n X.1 X.2.1 dX9_isValue_68 rfl (lv_at hl 1 rfl) ?_
            refine lv_bipush (v := 10) X.1 X.2.1 dX9_isValue_69 (by decide) ?_
            refine lv_idiv X.1 X.2.1 dX9_isValue_71 (by decide) ?_
            refine lv_iload_n X.1 X.2.1 dX9_isValue_72 rfl (lv_at hl 1 rfl) ?_
            refine lv_bipush (v := 10) X.1 X.2.1 dX9_isValue_73 (by decide) ?_
            refine lv_irem X.1 X.2.1 dX9_isValue_75 (by decide) ?_
            refine lv_icmp_gt (tgt := 83) X.1 X.2.1 dX9_isValue_76 (by decide) (fun hq => ?_) (fun hq => ?_)
            · replace hf := cd_tk hq hf
              exact w_X9_isValue_83 X  _ _ _ _ hf hw (lv_sub hl [] rfl)
            · replace hf := cd_fk hq hf
              refine lv_iconst (v := 1) X.1 X.2.1 dX9_isValue_79 (by decide) ?_
              refine lv_goto (tgt := 84) X.1 X.2.1 dX9_isValue_80 (by decide) ?_
              exact w_X9_isValue_84 X  _ _ _ _ _ hf hw (lv_sub hl [] rfl)
    · replace hf := cd_fk hq hf
      refine lv_iload_n X.1 X.2.1 dX9_isValue_32 rfl (lv_at hl 1 rfl) ?_
      refine lv_if_eq (tgt := 41) X.1 X.2.1 dX9_isValue_33 (by decide) (fun hq => ?_) (fun hq => ?_)
      · replace hf := cd_tk hq hf
        exact w_X9_isValue_41 X  _ _ _ _ hf hw (lv_sub hl [] rfl)
      · replace hf := cd_fk hq hf
        refine lv_iload_n X.1 X.2.1 dX9_isValue_36 rfl (lv_at hl 1 rfl) ?_
        refine lv_iconst (v := 1) X.1 X.2.1 dX9_isValue_37 (by decide) ?_
        refine lv_icmp_ne (tgt := 45) X.1 X.2.1 dX9_isValue_38 (by decide) (fun hq => ?_) (fun hq => ?_)
        · replace hf := cd_fk hq hf
          refine lv_iconst (v := 0) X.1 X.2.1 dX9_isValue_45 (by decide) ?_
          exact w_X9_isValue_46 X  _ _ _ _ _ hf hw (lv_sub hl [] rfl)
        · replace hf := cd_tk hq hf
          exact w_X9_isValue_41 X  _ _ _ _ hf hw (lv_sub hl [] rfl)
  · replace hf := cd_fk hq hf
    refine lv_iload_n X.1 X.2.1 dX9_isValue_6 rfl (lv_at hl 1 rfl) ?_
    refine lv_sipush (v := (-9999)) X.1 X.2.1 dX9_isValue_7 (by decide) ?_
    refine lv_icmp_lt (tgt := 24) X.1 X.2.1 dX9_isValue_10 (by decide) (fun hq => ?_) (fun hq => ?_)
    · replace hf := cd_tk hq hf
      exact w_X9_isValue_24 X  _ _ _ _ hf hw (lv_sub hl [] rfl)
    · replace hf := cd_fk hq hf
      refine lv_iload_n X.1 X.2.1 dX9_isValue_13 rfl (lv_at hl 1 rfl) ?_
      refine lv_sipush (v := 9999) X.1 X.2.1 dX9_isValue_14 (by decide) ?_
      refine lv_icmp_gt (tgt := 24) X.1 X.2.1 dX9_isValue_17 (by decide) (fun hq => ?_) (fun hq => ?_)
      · replace hf := cd_tk hq hf
        exact w_X9_isValue_24 X  _ _ _ _ hf hw (lv_sub hl [] rfl)
      · replace hf := cd_fk hq hf
        refine lv_iconst (v := 1) X.1 X.2.1 dX9_isValue_20 (by decide) ?_
        refine lv_goto (tgt := 25) X.1 X.2.1 dX9_isValue_21 (by decide) ?_
        exact w_X9_isValue_25 X  _ _ _ _ _ hf hw (lv_sub hl [] rfl)
set_option maxHeartbeats 4000000 in
theorem w_X9_note_57 {p : Program} {l : Launch} {e : Env} {s : State} {m : MethodId} {args : Array Value} {below : List Frame} {meth : Method} {c : Code} {D : va_G} {B : Nat} {cy : Nat → ClassId} {A : Nat → Prop} {ad av : Nat → Nat} {rv : Int32} {Z : HS} (X : hCX p s m args meth c RX9 cX9_note 5 (some .int) D cy A ad av) {z : Nat}   (S : HS) (H : Heap) (locs : List Loc) (ls : Array Slot) (hf : fn_X9_note_57 S = some (rv, Z)) (hw : hWd D B cy A true (hMz z) S s.heap H locs) (hl : lv_has ls 5 []) : W p l e ({ frames := 1, cells := 0, slots := 0, locals := 21 } : Room) s m args below meth c H locs 0 0 (MQ below (hQo D B cy A true (hMz z) Z (some (.int rv))) args s 0 0 A) (F0 m 57 ls []) := by
  unfold fn_X9_note_57 at hf
  refine lv_iconst (v := (-1)) X.1 X.2.1 dX9_note_57 (by decide) ?_
  cases hf
  exact r_iret X hw dX9_note_58
theorem hd_X9_note : yX9_note.cls = RX9 ∧ yX9_note.cls ≠ "java/lang/invoke/MethodHandle" ∧ yX9_note.cls ≠ "java/lang/invoke/VarHandle" ∧ (parseMethodDescriptor yX9_note.desc).map (fun d => d.parameters.length) = some 4 := by decide +kernel
set_option maxHeartbeats 4000000 in
theorem c_X9_note (l : Launch) (D : va_G) (B : Nat) (cy : Nat → ClassId) (A : Nat → Prop) (ad av : Nat → Nat) {z : Nat} (x1 : Int32) (x2 : Int32) (x3 : Int32) (x4 : Int32) {S Z : HS} {rv : Int32} (hfr : hFr S) (hG : (hMz z) S) (hf : fn_X9_note x1 x2 x3 x4 S = some (rv, Z)) : hMet l yX9_note cX9_note 5 (some .int) ({ frames := 1, cells := 0, slots := 0, locals := 21 } : Room) D B cy A ad av true (hMz z) [.ref (B + 0), .int x1, .int x2, .int x3, .int x4] S Z (some (.int rv)) 0 0 := by
  refine h_entry (by decide) hfr hG ?_
  intro p e s m below meth c args X hnm hw
  have hl := lv_entry ([.ref (B + 0), .int x1, .int x2, .int x3, .int x4]) (n := 5) (Nat.le_of_ble_eq_true rfl)
  rw [lg_entry_eq]
  generalize (lg_sl ([.ref (B + 0), .int x1, .int x2, .int x3, .int x4]) ++ List.replicate (5 - (lg_sl ([.ref (B + 0), .int x1, .int x2, .int x3, .int x4])).length) Slot.unset).toArray = ls at hl ⊢
  have hl : lv_has ls 5 [(0, .ref (B + 0)), (1, .int x1), (2, .int x2), (3, .int x3), (4, .int x4)] := hl
  unfold fn_X9_note at hf
  refine lv_aload_n X.1 X.2.1 dX9_note_0 rfl (lv_at hl 0 rfl) ?_
  refine lv_iconst (v := 0) X.1 X.2.1 dX9_note_1 (by decide) ?_
  obtain ⟨S1, eS1, hf⟩ := bn_ok hf
  replace eS1 := Option.some.inj eS1
  refine r_putI X hw (κ := 10) rfl inlX9 tyX9 tyX9_ok nmX9 0 (by decide) rfl (by decide) tw_158 (Or.inl rfl) (hMk hw.2.2.2.2.2.1 0 rfl) rfl rfl hw.2.2.2.2.2 dX9_note_2 (fun H locs hw => ?_)
  rw [eS1] at hw
  refine lv_iload_n X.1 X.2.1 dX9_note_5 rfl (lv_at hl 1 rfl) ?_
  refine lv_if_lt (tgt := 57) X.1 X.2.1 dX9_note_6 (by decide) (fun hq => ?_) (fun hq => ?_)
  · replace hf := cd_tk hq hf
    exact w_X9_note_57 X  _ _ _ _ hf hw (lv_sub hl [] rfl)
  · replace hf := cd_fk hq hf
    refine lv_iload_n X.1 X.2.1 dX9_note_9 rfl (lv_at hl 1 rfl) ?_
    refine lv_aload_n X.1 X.2.1 dX9_note_10 rfl (lv_at hl 0 rfl) ?_
    refine r_getI X hw (κ := 10) rfl inlX9 28 (by decide) rfl (by decide) tw_538 (hMk hw.2.2.2.2.2.1 0 rfl) dX9_note_11 ?_
    refine lv_icmp_ge (tgt := 57) X.1 X.2.1 dX9_note_14 (by decide) (fun hq => ?_) (fun hq => ?_)
    · replace hf := cd_tk hq hf
      exact w_X9_note_57 X  _ _ _ _ hf hw (lv_sub hl [] rfl)
    · replace hf := cd_fk hq hf
      refine lv_iload_n X.1 X.2.1 dX9_note_17 rfl (lv_at hl 2 rfl) ?_
      refine lv_if_lt (tgt := 57) X.1 X.2.1 dX9_note_18 (by decide) (fun hq => ?_) (fun hq => ?_)
      · replace hf := cd_tk hq hf
        exact w_X9_note_57 X  _ _ _ _ hf hw (lv_sub hl [] rfl)
      · replace hf := cd_fk hq hf
        refine lv_iload_n X.1 X.2.1 dX9_note_21 rfl (lv_at hl 2 rfl) ?_
        refine lv_bipush (v := 8) X.1 X.2.1 dX9_note_22 (by decide) ?_
        refine lv_icmp_gt (tgt := 57) X.1 X.2.1 dX9_note_24 (by decide) (fun hq => ?_) (fun hq => ?_)
        · replace hf := cd_tk hq hf
          exact w_X9_note_57 X  _ _ _ _ hf hw (lv_sub hl [] rfl)
        · replace hf := cd_fk hq hf
          refine lv_iload_n X.1 X.2.1 dX9_note_27 rfl (lv_at hl 3 rfl) ?_
          refine lv_if_lt (tgt := 57) X.1 X.2.1 dX9_note_28 (by decide) (fun hq => ?_) (fun hq => ?_)
          · replace hf := cd_tk hq hf
            exact w_X9_note_57 X  _ _ _ _ hf hw (lv_sub hl [] rfl)
          · replace hf := cd_fk hq hf
            refine lv_iload_n X.1 X.2.1 dX9_note_31 rfl (lv_at hl 3 rfl) ?_
            refine lv_sipush (v := 1200) X.1 X.2.1 dX9_note_32 (by decide) ?_
            refine lv_icmp_ge (tgt := 57) X.1 X.2.1 dX9_note_35 (by decide) (fun hq => ?_) (fun hq => ?_)
            · replace hf := cd_tk hq hf
              exact w_X9_note_57 X  _ _ _ _ hf hw (lv_sub hl [] rfl)
            · replace hf := cd_fk hq hf
              refine lv_iload_n X.1 X.2.1 dX9_note_38 rfl (lv_at hl 2 rfl) ?_
              refine lv_iload X.1 X.2.1 dX9_note_39 (lv_at hl 4 rfl) ?_
              obtain ⟨r3, S2, hS2, hf⟩ := bn2_ok hf
              refine r_callS (As := [.int x2, .int x4]) (rest := []) (st1 := [.int r3]) X hw (c_X9_isValue l D B cy A ad av x2 x4 hw.2.2.2.2.1 hw.2.2.2.2.2 hS2) ⟨rfl, rfl, Nat.le_of_ble_eq_true rfl, Nat.le_of_ble_eq_true rfl⟩ tw_576 tw_577 tw_5 tw_578 hd_X9_isValue rfl hl.1 rfl (Nat.le_of_ble_eq_true rfl) dX9_note_41 ⟨Nat.le_of_ble_eq_true rfl, Nat.le_of_ble_eq_true rfl⟩ rfl (fun H locs hw => ?_)
              refine lv_if_eq (tgt := 57) X.1 X.2.1 dX9_note_44 (by decide) (fun hq => ?_) (fun hq => ?_)
              · replace hf := cd_tk hq hf
                exact w_X9_note_57 X  _ _ _ _ hf hw (lv_sub hl [] rfl)
              · replace hf := cd_fk hq hf
                refine lv_aload_n X.1 X.2.1 dX9_note_47 rfl (lv_at hl 0 rfl) ?_
                refine r_getI X hw (κ := 10) rfl inlX9 34 (by decide) rfl (by decide) tw_575 (hMk hw.2.2.2.2.2.1 0 rfl) dX9_note_48 ?_
                refine lv_sipush (v := 200) X.1 X.2.1 dX9_note_51 (by decide) ?_
                refine lv_icmp_ne (tgt := 59) X.1 X.2.1 dX9_note_54 (by decide) (fun hq => ?_) (fun hq => ?_)
                · replace hf := cd_fk hq hf
                  refine lv_aload_n X.1 X.2.1 dX9_note_59 rfl (lv_at hl 0 rfl) ?_
                  refine r_getF X hw (κ := 10) rfl inlX9 29 (by decide) rfl (by decide) tw_119 (hMk hw.2.2.2.2.2.1 0 rfl) (hMr hw.2.2.2.2.2.1 0 29 rfl) dX9_note_60 ?_
                  refine lv_aload_n X.1 X.2.1 dX9_note_63 rfl (lv_at hl 0 rfl) ?_
                  refine r_getI X hw (κ := 10) rfl inlX9 34 (by decide) rfl (by decide) tw_575 (hMk hw.2.2.2.2.2.1 0 rfl) dX9_note_64 ?_
                  refine lv_iload_n X.1 X.2.1 dX9_note_67 rfl (lv_at hl 1 rfl) ?_
                  obtain ⟨g4, hf⟩ := gd_ok hf
                  obtain ⟨S5, eS5, hf⟩ := bn_ok hf
                  replace eS5 := Option.some.inj eS5
                  refine r_iast X hw (hMk hw.2.2.2.2.2.1 15 rfl) (hMn hw.2.2.2.2.2.1 15 rfl) g4 hw.2.2.2.2.2 dX9_note_68 (fun H locs hw => ?_)
                  rw [eS5] at hw
                  refine lv_aload_n X.1 X.2.1 dX9_note_69 rfl (lv_at hl 0 rfl) ?_
                  refine r_getF X hw (κ := 10) rfl inlX9 30 (by decide) rfl (by decide) tw_120 (hMk hw.2.2.2.2.2.1 0 rfl) (hMr hw.2.2.2.2.2.1 0 30 rfl) dX9_note_70 ?_
                  refine lv_aload_n X.1 X.2.1 dX9_note_73 rfl (lv_at hl 0 rfl) ?_
                  refine r_getI X hw (κ := 10) rfl inlX9 34 (by decide) rfl (by decide) tw_575 (hMk hw.2.2.2.2.2.1 0 rfl) dX9_note_74 ?_
                  refine lv_iload_n X.1 X.2.1 dX9_note_77 rfl (lv_at hl 2 rfl) ?_
                  obtain ⟨g6, hf⟩ := gd_ok hf
                  obtain ⟨S7, eS7, hf⟩ := bn_ok hf
                  replace eS7 := Option.some.inj eS7
                  refine r_iast X hw (hMk hw.2.2.2.2.2.1 16 rfl) (hMn hw.2.2.2.2.2.1 16 rfl) g6 hw.2.2.2.2.2 dX9_note_78 (fun H locs hw => ?_)
                  rw [eS7] at hw
                  refine lv_aload_n X.1 X.2.1 dX9_note_79 rfl (lv_at hl 0 rfl) ?_
                  refine r_getF X hw (κ := 10) rfl inlX9 31 (by decide) rfl (by decide) tw_121 (hMk hw.2.2.2.2.2.1 0 rfl) (hMr hw.2.2.2.2.2.1 0 31 rfl) dX9_note_80 ?_
                  refine lv_aload_n X.1 X.2.1 dX9_note_83 rfl (lv_at hl 0 rfl) ?_
                  refine r_getI X hw (κ := 10) rfl inlX9 34 (by decide) rfl (by decide) tw_575 (hMk hw.2.2.2.2.2.1 0 rfl) dX9_note_84 ?_
                  refine lv_iload_n X.1 X.2.1 dX9_note_87 rfl (lv_at hl 3 rfl) ?_
                  obtain ⟨g8, hf⟩ := gd_ok hf
                  obtain ⟨S9, eS9, hf⟩ := bn_ok hf
                  replace eS9 := Option.some.inj eS9
                  refine r_iast X hw (hMk hw.2.2.2.2.2.1 17 rfl) (hMn hw.2.2.2.2.2.1 17 rfl) g8 hw.2.2.2.2.2 dX9_note_88 (fun H locs hw => ?_)
                  rw [eS9] at hw
                  refine lv_aload_n X.1 X.2.1 dX9_note_89 rfl (lv_at hl 0 rfl) ?_
                  refine r_getF X hw (κ := 10) rfl inlX9 32 (by decide) rfl (by decide) tw_122 (hMk hw.2.2.2.2.2.1 0 rfl) (hMr hw.2.2.2.2.2.1 0 32 rfl) dX9_note_90 ?_
                  refine lv_aload_n X.1 X.2.1 dX9_note_93 rfl (lv_at hl 0 rfl) ?_
                  refine r_getI X hw (κ := 10) rfl inlX9 34 (by decide) rfl (by decide) tw_575 (hMk hw.2.2.2.2.2.1 0 rfl) dX9_note_94 ?_
                  refine lv_aload_n X.1 X.2.1 dX9_note_97 rfl (lv_at hl 0 rfl) ?_
                  refine r_getI X hw (κ := 10) rfl inlX9 3 (by decide) rfl (by decide) tw_450 (hMk hw.2.2.2.2.2.1 0 rfl) dX9_note_98 ?_
                  obtain ⟨g10, hf⟩ := gd_ok hf
                  obtain ⟨S11, eS11, hf⟩ := bn_ok hf
                  replace eS11 := Option.some.inj eS11
                  refine r_iast X hw (hMk hw.2.2.2.2.2.1 18 rfl) (hMn hw.2.2.2.2.2.1 18 rfl) g10 hw.2.2.2.2.2 dX9_note_101 (fun H locs hw => ?_)
                  rw [eS11] at hw
                  refine lv_aload_n X.1 X.2.1 dX9_note_102 rfl (lv_at hl 0 rfl) ?_
                  refine r_getF X hw (κ := 10) rfl inlX9 33 (by decide) rfl (by decide) tw_123 (hMk hw.2.2.2.2.2.1 0 rfl) (hMr hw.2.2.2.2.2.1 0 33 rfl) dX9_note_103 ?_
                  refine lv_aload_n X.1 X.2.1 dX9_note_106 rfl (lv_at hl 0 rfl) ?_
                  refine r_getI X hw (κ := 10) rfl inlX9 34 (by decide) rfl (by decide) tw_575 (hMk hw.2.2.2.2.2.1 0 rfl) dX9_note_107 ?_
                  refine lv_iload X.1 X.2.1 dX9_note_110 (lv_at hl 4 rfl) ?_
                  obtain ⟨g12, hf⟩ := gd_ok hf
                  obtain ⟨S13, eS13, hf⟩ := bn_ok hf
                  replace eS13 := Option.some.inj eS13
                  refine r_iast X hw (hMk hw.2.2.2.2.2.1 19 rfl) (hMn hw.2.2.2.2.2.1 19 rfl) g12 hw.2.2.2.2.2 dX9_note_112 (fun H locs hw => ?_)
                  rw [eS13] at hw
                  refine lv_aload_n X.1 X.2.1 dX9_note_113 rfl (lv_at hl 0 rfl) ?_
                  refine lv_dup X.1 X.2.1 dX9_note_114 rfl ?_
                  refine r_getI X hw (κ := 10) rfl inlX9 34 (by decide) rfl (by decide) tw_575 (hMk hw.2.2.2.2.2.1 0 rfl) dX9_note_115 ?_
                  refine lv_iconst (v := 1) X.1 X.2.1 dX9_note_118 (by decide) ?_
                  refine lv_iadd X.1 X.2.1 dX9_note_119 ?_
                  obtain ⟨S14, eS14, hf⟩ := bn_ok hf
                  replace eS14 := Option.some.inj eS14
                  refine r_putI X hw (κ := 10) rfl inlX9 tyX9 tyX9_ok nmX9 34 (by decide) rfl (by decide) tw_575 (Or.inl rfl) (hMk hw.2.2.2.2.2.1 0 rfl) rfl rfl hw.2.2.2.2.2 dX9_note_120 (fun H locs hw => ?_)
                  rw [eS14] at hw
                  refine lv_aload_n X.1 X.2.1 dX9_note_123 rfl (lv_at hl 0 rfl) ?_
                  refine r_getI X hw (κ := 10) rfl inlX9 34 (by decide) rfl (by decide) tw_575 (hMk hw.2.2.2.2.2.1 0 rfl) dX9_note_124 ?_
                  cases hf
                  exact r_iret X hw dX9_note_127
                · replace hf := cd_tk hq hf
                  exact w_X9_note_57 X  _ _ _ _ hf hw (lv_sub hl [] rfl)
set_option maxHeartbeats 4000000 in
theorem w_X9_isBeginning_39 {p : Program} {l : Launch} {e : Env} {s : State} {m : MethodId} {args : Array Value} {below : List Frame} {meth : Method} {c : Code} {D : va_G} {B : Nat} {cy : Nat → ClassId} {A : Nat → Prop} {ad av : Nat → Nat} {rv : Int32} {Z : HS} (X : hCX p s m args meth c RX9 cX9_isBeginning 4 (some .boolean) D cy A ad av) {z : Nat} (k12 : Int32 → Int32 → Int32 → HS → Option (Int32 × HS)) (hk12 : ∀ (x1 : Int32) (x2 : Int32) (x3 : Int32) (S : HS) (H : Heap) (locs : List Loc) (ls : Array Slot), k12 x1 x2 x3 S = some (rv, Z) → hWd D B cy A true (hMz z) S s.heap H locs → lv_has ls 4 [(0, .ref (B + 0)), (1, .int x1), (2, .int x2), (3, .int x3)] → W p l e ({ frames := 0, cells := 0, slots := 0, locals := 0 } : Room) s m args below meth c H locs 0 0 (MQ below (hQo D B cy A true (hMz z) Z (some (.int rv))) args s 0 0 A) (F0 m 12 ls [])) (x1 : Int32) (x3 : Int32) (y0 : Int32) (S : HS) (H : Heap) (locs : List Loc) (ls : Array Slot) (hf : fn_X9_isBeginning_39 k12 x1 x3 y0 S = some (rv, Z)) (hw : hWd D B cy A true (hMz z) S s.heap H locs) (hl : lv_has ls 4 [(0, .ref (B + 0)), (1, .int x1), (3, .int x3)]) : W p l e ({ frames := 0, cells := 0, slots := 0, locals := 0 } : Room) s m args below meth c H locs 0 0 (MQ below (hQo D B cy A true (hMz z) Z (some (.int rv))) args s 0 0 A) (F0 m 39 ls [.int y0]) := by
  unfold fn_X9_isBeginning_39 at hf
  refine lv_istore_n (lv' := [(2, .int y0), (0, .ref (B + 0)), (1, .int x1), (3, .int x3)]) X.1 X.2.1 dX9_isBeginning_39 rfl hl (by decide) rfl (fun ls hl => ?_)
  obtain ⟨v1, ev1, hf⟩ := bn_ok hf
  replace ev1 := Option.some.inj ev1
  refine lv_iinc (v := v1) (lv' := [(3, .int v1), (2, .int y0), (0, .ref (B + 0)), (1, .int x1)]) X.1 X.2.1 dX9_isBeginning_40 hl (k := 3) rfl ev1 (by decide) rfl (fun ls hl => ?_)
  refine lv_goto (tgt := 12) X.1 X.2.1 dX9_isBeginning_43 (by decide) ?_
  exact hk12 _ _ _ _ _ _ _ hf hw (lv_sub hl [2, 3, 1, 0] rfl)
set_option maxHeartbeats 4000000 in
theorem w_X9_isBeginning_34 {p : Program} {l : Launch} {e : Env} {s : State} {m : MethodId} {args : Array Value} {below : List Frame} {meth : Method} {c : Code} {D : va_G} {B : Nat} {cy : Nat → ClassId} {A : Nat → Prop} {ad av : Nat → Nat} {rv : Int32} {Z : HS} (X : hCX p s m args meth c RX9 cX9_isBeginning 4 (some .boolean) D cy A ad av) {z : Nat} (k12 : Int32 → Int32 → Int32 → HS → Option (Int32 × HS)) (hk12 : ∀ (x1 : Int32) (x2 : Int32) (x3 : Int32) (S : HS) (H : Heap) (locs : List Loc) (ls : Array Slot), k12 x1 x2 x3 S = some (rv, Z) → hWd D B cy A true (hMz z) S s.heap H locs → lv_has ls 4 [(0, .ref (B + 0)), (1, .int x1), (2, .int x2), (3, .int x3)] → W p l e ({ frames := 0, cells := 0, slots := 0, locals := 0 } : Room) s m args below meth c H locs 0 0 (MQ below (hQo D B cy A true (hMz z) Z (some (.int rv))) args s 0 0 A) (F0 m 12 ls [])) (x1 : Int32) (x3 : Int32) (S : HS) (H : Heap) (locs : List Loc) (ls : Array Slot) (hf : fn_X9_isBeginning_34 k12 x1 x3 S = some (rv, Z)) (hw : hWd D B cy A true (hMz z) S s.heap H locs) (hl : lv_has ls 4 [(0, .ref (B + 0)), (1, .int x1), (3, .int x3)]) : W p l e ({ frames := 0, cells := 0, slots := 0, locals := 0 } : Room) s m args below meth c H locs 0 0 (MQ below (hQo D B cy A true (hMz z) Z (some (.int rv))) args s 0 0 A) (F0 m 34 ls []) := by
  unfold fn_X9_isBeginning_34 at hf
  refine lv_iconst (v := 1) X.1 X.2.1 dX9_isBeginning_34 (by decide) ?_
  refine lv_goto (tgt := 39) X.1 X.2.1 dX9_isBeginning_35 (by decide) ?_
  exact w_X9_isBeginning_39 X k12 hk12 _ _ _ _ _ _ _ hf hw (lv_sub hl [0, 1, 2] rfl)
set_option maxHeartbeats 4000000 in
theorem w_X9_isBeginning_12 {p : Program} {l : Launch} {e : Env} {s : State} {m : MethodId} {args : Array Value} {below : List Frame} {meth : Method} {c : Code} {D : va_G} {B : Nat} {cy : Nat → ClassId} {A : Nat → Prop} {ad av : Nat → Nat} {rv : Int32} {Z : HS} (X : hCX p s m args meth c RX9 cX9_isBeginning 4 (some .boolean) D cy A ad av) {z : Nat}  : ∀ (n : Nat) (x1 : Int32) (x2 : Int32) (x3 : Int32) (S : HS) (H : Heap) (locs : List Loc) (ls : Array Slot), fn_X9_isBeginning_12 n x1 x2 x3 S = some (rv, Z) → hWd D B cy A true (hMz z) S s.heap H locs → lv_has ls 4 [(0, .ref (B + 0)), (1, .int x1), (2, .int x2), (3, .int x3)] → W p l e ({ frames := 0, cells := 0, slots := 0, locals := 0 } : Room) s m args below meth c H locs 0 0 (MQ below (hQo D B cy A true (hMz z) Z (some (.int rv))) args s 0 0 A) (F0 m 12 ls []) := by
  intro n
  induction n with
  | zero =>
    intro x1 x2 x3 S H locs ls hf
    cases hf
  | succ n ih =>
    intro x1 x2 x3 S H locs ls hf hw hl
    rw [fn_X9_isBeginning_12] at hf
    refine lv_iload_n X.1 X.2.1 dX9_isBeginning_12 rfl (lv_at hl 3 rfl) ?_
    refine lv_aload_n X.1 X.2.1 dX9_isBeginning_13 rfl (lv_at hl 0 rfl) ?_
    refine r_getI X hw (κ := 10) rfl inlX9 7 (by decide) rfl (by decide) tw_445 (hMk hw.2.2.2.2.2.1 0 rfl) dX9_isBeginning_14 ?_
    refine lv_icmp_ge (tgt := 46) X.1 X.2.1 dX9_isBeginning_17 (by decide) (fun hq => ?_) (fun hq => ?_)
    · replace hf := cd_tk hq hf
      refine lv_iload_n X.1 X.2.1 dX9_isBeginning_46 rfl (lv_at hl 2 rfl) ?_
      obtain ⟨g1, hf⟩ := gd_ok hf
      cases hf
      exact r_zret X hw g1 dX9_isBeginning_47
    · replace hf := cd_fk hq hf
      refine lv_iload_n X.1 X.2.1 dX9_isBeginning_20 rfl (lv_at hl 2 rfl) ?_
      refine lv_if_ne (tgt := 34) X.1 X.2.1 dX9_isBeginning_21 (by decide) (fun hq => ?_) (fun hq => ?_)
      · replace hf := cd_fk hq hf
        exact w_X9_isBeginning_34 X (fn_X9_isBeginning_12 n) ih _ _ _ _ _ _ hf hw (lv_sub hl [0, 1, 3] rfl)
      · replace hf := cd_tk hq hf
        refine lv_aload_n X.1 X.2.1 dX9_isBeginning_24 rfl (lv_at hl 0 rfl) ?_
        refine r_getF X hw (κ := 10) rfl inlX9 5 (by decide) rfl (by decide) tw_106 (hMk hw.2.2.2.2.2.1 0 rfl) (hMr hw.2.2.2.2.2.1 0 5 rfl) dX9_isBeginning_25 ?_
        refine lv_iload_n X.1 X.2.1 dX9_isBeginning_28 rfl (lv_at hl 3 rfl) ?_
        obtain ⟨g2, hf⟩ := gd_ok hf
        refine r_iald X hw (hMk hw.2.2.2.2.2.1 3 rfl) (hMn hw.2.2.2.2.2.1 3 rfl) g2 dX9_isBeginning_29 ?_
        refine lv_iload_n X.1 X.2.1 dX9_isBeginning_30 rfl (lv_at hl 1 rfl) ?_
        refine lv_icmp_ne (tgt := 38) X.1 X.2.1 dX9_isBeginning_31 (by decide) (fun hq => ?_) (fun hq => ?_)
        · replace hf := cd_fk hq hf
          refine lv_iconst (v := 0) X.1 X.2.1 dX9_isBeginning_38 (by decide) ?_
          exact w_X9_isBeginning_39 X (fn_X9_isBeginning_12 n) ih _ _ _ _ _ _ _ hf hw (lv_sub hl [0, 1, 3] rfl)
        · replace hf := cd_tk hq hf
          exact w_X9_isBeginning_34 X (fn_X9_isBeginning_12 n) ih _ _ _ _ _ _ hf hw (lv_sub hl [0, 1, 3] rfl)
set_option maxHeartbeats 4000000 in
theorem w_X9_isBeginning_9 {p : Program} {l : Launch} {e : Env} {s : State} {m : MethodId} {args : Array Value} {below : List Frame} {meth : Method} {c : Code} {D : va_G} {B : Nat} {cy : Nat → ClassId} {A : Nat → Prop} {ad av : Nat → Nat} {rv : Int32} {Z : HS} (X : hCX p s m args meth c RX9 cX9_isBeginning 4 (some .boolean) D cy A ad av) {z : Nat}  (x1 : Int32) (y0 : Int32) (S : HS) (H : Heap) (locs : List Loc) (ls : Array Slot) (hf : fn_X9_isBeginning_9 x1 y0 S = some (rv, Z)) (hw : hWd D B cy A true (hMz z) S s.heap H locs) (hl : lv_has ls 4 [(0, .ref (B + 0)), (1, .int x1)]) : W p l e ({ frames := 0, cells := 0, slots := 0, locals := 0 } : Room) s m args below meth c H locs 0 0 (MQ below (hQo D B cy A true (hMz z) Z (some (.int rv))) args s 0 0 A) (F0 m 9 ls [.int y0]) := by
  unfold fn_X9_isBeginning_9 at hf
  refine lv_istore_n (lv' := [(2, .int y0), (0, .ref (B + 0)), (1, .int x1)]) X.1 X.2.1 dX9_isBeginning_9 rfl hl (by decide) rfl (fun ls hl => ?_)
  refine lv_iconst (v := 0) X.1 X.2.1 dX9_isBeginning_10 (by decide) ?_
  refine lv_istore_n (lv' := [(3, .int 0), (2, .int y0), (0, .ref (B + 0)), (1, .int x1)]) X.1 X.2.1 dX9_isBeginning_11 rfl hl (by decide) rfl (fun ls hl => ?_)
  exact w_X9_isBeginning_12 X  _ _ _ _ _ _ _ _ hf hw (lv_sub hl [2, 3, 1, 0] rfl)
theorem hd_X9_isBeginning : yX9_isBeginning.cls = RX9 ∧ yX9_isBeginning.cls ≠ "java/lang/invoke/MethodHandle" ∧ yX9_isBeginning.cls ≠ "java/lang/invoke/VarHandle" ∧ (parseMethodDescriptor yX9_isBeginning.desc).map (fun d => d.parameters.length) = some 1 := by decide +kernel
set_option maxHeartbeats 4000000 in
theorem c_X9_isBeginning (l : Launch) (D : va_G) (B : Nat) (cy : Nat → ClassId) (A : Nat → Prop) (ad av : Nat → Nat) {z : Nat} (x1 : Int32) {S Z : HS} {rv : Int32} (hfr : hFr S) (hG : (hMz z) S) (hf : fn_X9_isBeginning x1 S = some (rv, Z)) : hMet l yX9_isBeginning cX9_isBeginning 4 (some .boolean) ({ frames := 0, cells := 0, slots := 0, locals := 0 } : Room) D B cy A ad av true (hMz z) [.ref (B + 0), .int x1] S Z (some (.int rv)) 0 0 := by
  refine h_entry (by decide) hfr hG ?_
  intro p e s m below meth c args X hnm hw
  have hl := lv_entry ([.ref (B + 0), .int x1]) (n := 4) (Nat.le_of_ble_eq_true rfl)
  rw [lg_entry_eq]
  generalize (lg_sl ([.ref (B + 0), .int x1]) ++ List.replicate (4 - (lg_sl ([.ref (B + 0), .int x1])).length) Slot.unset).toArray = ls at hl ⊢
  have hl : lv_has ls 4 [(0, .ref (B + 0)), (1, .int x1)] := hl
  unfold fn_X9_isBeginning at hf
  refine lv_iload_n X.1 X.2.1 dX9_isBeginning_0 rfl (lv_at hl 1 rfl) ?_
  refine lv_if_ne (tgt := 8) X.1 X.2.1 dX9_isBeginning_1 (by decide) (fun hq => ?_) (fun hq => ?_)
  · replace hf := cd_fk hq hf
    refine lv_iconst (v := 0) X.1 X.2.1 dX9_isBeginning_8 (by decide) ?_
    exact w_X9_isBeginning_9 X  _ _ _ _ _ _ hf hw (lv_sub hl [0, 1] rfl)
  · replace hf := cd_tk hq hf
    refine lv_iconst (v := 1) X.1 X.2.1 dX9_isBeginning_4 (by decide) ?_
    refine lv_goto (tgt := 9) X.1 X.2.1 dX9_isBeginning_5 (by decide) ?_
    exact w_X9_isBeginning_9 X  _ _ _ _ _ _ hf hw (lv_sub hl [0, 1] rfl)
set_option maxHeartbeats 4000000 in
theorem w_X9_numberOf_25 {p : Program} {l : Launch} {e : Env} {s : State} {m : MethodId} {args : Array Value} {below : List Frame} {meth : Method} {c : Code} {D : va_G} {B : Nat} {cy : Nat → ClassId} {A : Nat → Prop} {ad av : Nat → Nat} {rv : Int32} {Z : HS} (X : hCX p s m args meth c RX9 cX9_numberOf 4 (some .int) D cy A ad av) {z : Nat}  (y0 : Int32) (S : HS) (H : Heap) (locs : List Loc) (ls : Array Slot) (hf : fn_X9_numberOf_25 y0 S = some (rv, Z)) (hw : hWd D B cy A true (hMz z) S s.heap H locs) (hl : lv_has ls 4 []) : W p l e ({ frames := 0, cells := 0, slots := 0, locals := 0 } : Room) s m args below meth c H locs 0 0 (MQ below (hQo D B cy A true (hMz z) Z (some (.int rv))) args s 0 0 A) (F0 m 25 ls [.int y0]) := by
  unfold fn_X9_numberOf_25 at hf
  cases hf
  exact r_iret X hw dX9_numberOf_25
theorem hd_X9_numberOf : yX9_numberOf.cls = RX9 ∧ yX9_numberOf.cls ≠ "java/lang/invoke/MethodHandle" ∧ yX9_numberOf.cls ≠ "java/lang/invoke/VarHandle" ∧ (parseMethodDescriptor yX9_numberOf.desc).map (fun d => d.parameters.length) = some 2 := by decide +kernel
set_option maxHeartbeats 4000000 in
theorem c_X9_numberOf (l : Launch) (D : va_G) (B : Nat) (cy : Nat → ClassId) (A : Nat → Prop) (ad av : Nat → Nat) {z : Nat} (x1 : Int32) (x2 : Int32) {S Z : HS} {rv : Int32} (hfr : hFr S) (hG : (hMz z) S) (hf : fn_X9_numberOf x1 x2 S = some (rv, Z)) : hMet l yX9_numberOf cX9_numberOf 4 (some .int) ({ frames := 0, cells := 0, slots := 0, locals := 0 } : Room) D B cy A ad av true (hMz z) [.ref (B + 0), .int x1, .int x2] S Z (some (.int rv)) 0 0 := by
  refine h_entry (by decide) hfr hG ?_
  intro p e s m below meth c args X hnm hw
  have hl := lv_entry ([.ref (B + 0), .int x1, .int x2]) (n := 4) (Nat.le_of_ble_eq_true rfl)
  rw [lg_entry_eq]
  generalize (lg_sl ([.ref (B + 0), .int x1, .int x2]) ++ List.replicate (4 - (lg_sl ([.ref (B + 0), .int x1, .int x2])).length) Slot.unset).toArray = ls at hl ⊢
  have hl : lv_has ls 4 [(0, .ref (B + 0)), (1, .int x1), (2, .int x2)] := hl
  unfold fn_X9_numberOf at hf
  refine lv_aload_n X.1 X.2.1 dX9_numberOf_0 rfl (lv_at hl 0 rfl) ?_
  refine r_getF X hw (κ := 10) rfl inlX9 35 (by decide) rfl (by decide) tw_124 (hMk hw.2.2.2.2.2.1 0 rfl) (hMr hw.2.2.2.2.2.1 0 35 rfl) dX9_numberOf_1 ?_
  refine lv_bipush (v := 26) X.1 X.2.1 dX9_numberOf_4 (by decide) ?_
  refine lv_iload_n X.1 X.2.1 dX9_numberOf_6 rfl (lv_at hl 1 rfl) ?_
  refine lv_imul X.1 X.2.1 dX9_numberOf_7 ?_
  obtain ⟨g1, hf⟩ := gd_ok hf
  refine r_iald X hw (hMk hw.2.2.2.2.2.1 20 rfl) (hMn hw.2.2.2.2.2.1 20 rfl) g1 dX9_numberOf_8 ?_
  obtain ⟨v2, ev2, hf⟩ := bn_ok hf
  replace ev2 := Option.some.inj ev2
  refine lv_ren ev2 ?_
  refine lv_istore_n (lv' := [(3, .int v2), (0, .ref (B + 0)), (1, .int x1), (2, .int x2)]) X.1 X.2.1 dX9_numberOf_9 rfl hl (by decide) rfl (fun ls hl => ?_)
  refine lv_iload_n X.1 X.2.1 dX9_numberOf_10 rfl (lv_at hl 0 rfl) ?_
  refine lv_iconst (v := (-1)) X.1 X.2.1 dX9_numberOf_11 (by decide) ?_
  refine lv_icmp_ne (tgt := 19) X.1 X.2.1 dX9_numberOf_12 (by decide) (fun hq => ?_) (fun hq => ?_)
  · replace hf := cd_fk hq hf
    refine lv_aload_n X.1 X.2.1 dX9_numberOf_19 rfl (lv_at hl 1 rfl) ?_
    refine r_getF X hw (κ := 10) rfl inlX9 13 (by decide) rfl (by decide) tw_113 (hMk hw.2.2.2.2.2.1 0 rfl) (hMr hw.2.2.2.2.2.1 0 13 rfl) dX9_numberOf_20 ?_
    refine lv_iload_n X.1 X.2.1 dX9_numberOf_23 rfl (lv_at hl 0 rfl) ?_
    obtain ⟨g3, hf⟩ := gd_ok hf
    refine r_iald X hw (hMk hw.2.2.2.2.2.1 10 rfl) (hMn hw.2.2.2.2.2.1 10 rfl) g3 dX9_numberOf_24 ?_
    exact w_X9_numberOf_25 X  _ _ _ _ _ hf hw (lv_sub hl [] rfl)
  · replace hf := cd_tk hq hf
    refine lv_iload_n X.1 X.2.1 dX9_numberOf_15 rfl (lv_at hl 3 rfl) ?_
    refine lv_goto (tgt := 25) X.1 X.2.1 dX9_numberOf_16 (by decide) ?_
    exact w_X9_numberOf_25 X  _ _ _ _ _ hf hw (lv_sub hl [] rfl)
set_option maxHeartbeats 4000000 in
theorem w_X9_holds_102 {p : Program} {l : Launch} {e : Env} {s : State} {m : MethodId} {args : Array Value} {below : List Frame} {meth : Method} {c : Code} {D : va_G} {B : Nat} {cy : Nat → ClassId} {A : Nat → Prop} {ad av : Nat → Nat} {rv : Int32} {Z : HS} (X : hCX p s m args meth c RX9 cX9_holds 4 (some .boolean) D cy A ad av) {z : Nat}  (y0 : Int32) (S : HS) (H : Heap) (locs : List Loc) (ls : Array Slot) (hf : fn_X9_holds_102 y0 S = some (rv, Z)) (hw : hWd D B cy A true (hMz z) S s.heap H locs) (hl : lv_has ls 4 []) : W p l e ({ frames := 0, cells := 0, slots := 0, locals := 0 } : Room) s m args below meth c H locs 0 0 (MQ below (hQo D B cy A true (hMz z) Z (some (.int rv))) args s 0 0 A) (F0 m 102 ls [.int y0]) := by
  unfold fn_X9_holds_102 at hf
  obtain ⟨g1, hf⟩ := gd_ok hf
  cases hf
  exact r_zret X hw g1 dX9_holds_102
theorem hd_X9_holds : yX9_holds.cls = RX9 ∧ yX9_holds.cls ≠ "java/lang/invoke/MethodHandle" ∧ yX9_holds.cls ≠ "java/lang/invoke/VarHandle" ∧ (parseMethodDescriptor yX9_holds.desc).map (fun d => d.parameters.length) = some 2 := by decide +kernel
set_option maxHeartbeats 4000000 in
theorem c_X9_holds (l : Launch) (D : va_G) (B : Nat) (cy : Nat → ClassId) (A : Nat → Prop) (ad av : Nat → Nat) {z : Nat} (x1 : Int32) (x2 : Int32) {S Z : HS} {rv : Int32} (hfr : hFr S) (hG : (hMz z) S) (hf : fn_X9_holds x1 x2 S = some (rv, Z)) : hMet l yX9_holds cX9_holds 4 (some .boolean) ({ frames := 0, cells := 0, slots := 0, locals := 0 } : Room) D B cy A ad av true (hMz z) [.ref (B + 0), .int x1, .int x2] S Z (some (.int rv)) 0 0 := by
  refine h_entry (by decide) hfr hG ?_
  intro p e s m below meth c args X hnm hw
  have hl := lv_entry ([.ref (B + 0), .int x1, .int x2]) (n := 4) (Nat.le_of_ble_eq_true rfl)
  rw [lg_entry_eq]
  generalize (lg_sl ([.ref (B + 0), .int x1, .int x2]) ++ List.replicate (4 - (lg_sl ([.ref (B + 0), .int x1, .int x2])).length) Slot.unset).toArray = ls at hl ⊢
  have hl : lv_has ls 4 [(0, .ref (B + 0)), (1, .int x1), (2, .int x2)] := hl
  unfold fn_X9_holds at hf
  refine lv_aload_n X.1 X.2.1 dX9_holds_0 rfl (lv_at hl 0 rfl) ?_
  refine r_getF X hw (κ := 10) rfl inlX9 10 (by decide) rfl (by decide) tw_110 (hMk hw.2.2.2.2.2.1 0 rfl) (hMr hw.2.2.2.2.2.1 0 10 rfl) dX9_holds_1 ?_
  refine lv_iload_n X.1 X.2.1 dX9_holds_4 rfl (lv_at hl 2 rfl) ?_
  obtain ⟨g1, hf⟩ := gd_ok hf
  refine r_iald X hw (hMk hw.2.2.2.2.2.1 7 rfl) (hMn hw.2.2.2.2.2.1 7 rfl) g1 dX9_holds_5 ?_
  refine lv_iconst (v := (-1)) X.1 X.2.1 dX9_holds_6 (by decide) ?_
  refine lv_icmp_ne (tgt := 12) X.1 X.2.1 dX9_holds_7 (by decide) (fun hq => ?_) (fun hq => ?_)
  · replace hf := cd_fk hq hf
    refine lv_aload_n X.1 X.2.1 dX9_holds_12 rfl (lv_at hl 0 rfl) ?_
    refine r_getF X hw (κ := 10) rfl inlX9 38 (by decide) rfl (by decide) tw_127 (hMk hw.2.2.2.2.2.1 0 rfl) (hMr hw.2.2.2.2.2.1 0 38 rfl) dX9_holds_13 ?_
    refine lv_bipush (v := 9) X.1 X.2.1 dX9_holds_16 (by decide) ?_
    refine lv_iload_n X.1 X.2.1 dX9_holds_18 rfl (lv_at hl 1 rfl) ?_
    refine lv_imul X.1 X.2.1 dX9_holds_19 ?_
    refine lv_aload_n X.1 X.2.1 dX9_holds_20 rfl (lv_at hl 0 rfl) ?_
    refine r_getF X hw (κ := 10) rfl inlX9 10 (by decide) rfl (by decide) tw_110 (hMk hw.2.2.2.2.2.1 0 rfl) (hMr hw.2.2.2.2.2.1 0 10 rfl) dX9_holds_21 ?_
    refine lv_iload_n X.1 X.2.1 dX9_holds_24 rfl (lv_at hl 2 rfl) ?_
    obtain ⟨g2, hf⟩ := gd_ok hf
    refine r_iald X hw (hMk hw.2.2.2.2.2.1 7 rfl) (hMn hw.2.2.2.2.2.1 7 rfl) g2 dX9_holds_25 ?_
    refine lv_iadd X.1 X.2.1 dX9_holds_26 ?_
    obtain ⟨g3, hf⟩ := gd_ok hf
    refine r_iald X hw (hMk hw.2.2.2.2.2.1 23 rfl) (hMn hw.2.2.2.2.2.1 23 rfl) g3 dX9_holds_27 ?_
    obtain ⟨v4, ev4, hf⟩ := bn_ok hf
    replace ev4 := Option.some.inj ev4
    refine lv_ren ev4 ?_
    refine lv_istore_n (lv' := [(3, .int v4), (0, .ref (B + 0)), (1, .int x1), (2, .int x2)]) X.1 X.2.1 dX9_holds_28 rfl hl (by decide) rfl (fun ls hl => ?_)
    refine lv_aload_n X.1 X.2.1 dX9_holds_29 rfl (lv_at hl 1 rfl) ?_
    refine r_getF X hw (κ := 10) rfl inlX9 11 (by decide) rfl (by decide) tw_111 (hMk hw.2.2.2.2.2.1 0 rfl) (hMr hw.2.2.2.2.2.1 0 11 rfl) dX9_holds_30 ?_
    refine lv_iload_n X.1 X.2.1 dX9_holds_33 rfl (lv_at hl 3 rfl) ?_
    obtain ⟨g5, hf⟩ := gd_ok hf
    refine r_iald X hw (hMk hw.2.2.2.2.2.1 8 rfl) (hMn hw.2.2.2.2.2.1 8 rfl) g5 dX9_holds_34 ?_
    refine lv_bipush (v := 60) X.1 X.2.1 dX9_holds_35 (by decide) ?_
    refine lv_icmp_ne (tgt := 58) X.1 X.2.1 dX9_holds_37 (by decide) (fun hq => ?_) (fun hq => ?_)
    · replace hf := cd_fk hq hf
      refine lv_aload_n X.1 X.2.1 dX9_holds_58 rfl (lv_at hl 1 rfl) ?_
      refine r_getF X hw (κ := 10) rfl inlX9 11 (by decide) rfl (by decide) tw_111 (hMk hw.2.2.2.2.2.1 0 rfl) (hMr hw.2.2.2.2.2.1 0 11 rfl) dX9_holds_59 ?_
      refine lv_iload_n X.1 X.2.1 dX9_holds_62 rfl (lv_at hl 3 rfl) ?_
      obtain ⟨g6, hf⟩ := gd_ok hf
      refine r_iald X hw (hMk hw.2.2.2.2.2.1 8 rfl) (hMn hw.2.2.2.2.2.1 8 rfl) g6 dX9_holds_63 ?_
      refine lv_bipush (v := 62) X.1 X.2.1 dX9_holds_64 (by decide) ?_
      refine lv_icmp_ne (tgt := 87) X.1 X.2.1 dX9_holds_66 (by decide) (fun hq => ?_) (fun hq => ?_)
      · replace hf := cd_fk hq hf
        refine lv_iload_n X.1 X.2.1 dX9_holds_87 rfl (lv_at hl 0 rfl) ?_
        refine lv_aload_n X.1 X.2.1 dX9_holds_88 rfl (lv_at hl 1 rfl) ?_
        refine r_getF X hw (κ := 10) rfl inlX9 12 (by decide) rfl (by decide) tw_112 (hMk hw.2.2.2.2.2.1 0 rfl) (hMr hw.2.2.2.2.2.1 0 12 rfl) dX9_holds_89 ?_
        refine lv_iload_n X.1 X.2.1 dX9_holds_92 rfl (lv_at hl 3 rfl) ?_
        obtain ⟨g7, hf⟩ := gd_ok hf
        refine r_iald X hw (hMk hw.2.2.2.2.2.1 9 rfl) (hMn hw.2.2.2.2.2.1 9 rfl) g7 dX9_holds_93 ?_
        refine lv_icmp_ne (tgt := 101) X.1 X.2.1 dX9_holds_94 (by decide) (fun hq => ?_) (fun hq => ?_)
        · replace hf := cd_fk hq hf
          refine lv_iconst (v := 0) X.1 X.2.1 dX9_holds_101 (by decide) ?_
          exact w_X9_holds_102 X  _ _ _ _ _ hf hw (lv_sub hl [] rfl)
        · replace hf := cd_tk hq hf
          refine lv_iconst (v := 1) X.1 X.2.1 dX9_holds_97 (by decide) ?_
          refine lv_goto (tgt := 102) X.1 X.2.1 dX9_holds_98 (by decide) ?_
          exact w_X9_holds_102 X  _ _ _ _ _ hf hw (lv_sub hl [] rfl)
      · replace hf := cd_tk hq hf
        refine lv_iload_n X.1 X.2.1 dX9_holds_69 rfl (lv_at hl 0 rfl) ?_
        refine lv_aload_n X.1 X.2.1 dX9_holds_70 rfl (lv_at hl 1 rfl) ?_
        refine r_getF X hw (κ := 10) rfl inlX9 12 (by decide) rfl (by decide) tw_112 (hMk hw.2.2.2.2.2.1 0 rfl) (hMr hw.2.2.2.2.2.1 0 12 rfl) dX9_holds_71 ?_
        refine lv_iload_n X.1 X.2.1 dX9_holds_74 rfl (lv_at hl 3 rfl) ?_
        obtain ⟨g8, hf⟩ := gd_ok hf
        refine r_iald X hw (hMk hw.2.2.2.2.2.1 9 rfl) (hMn hw.2.2.2.2.2.1 9 rfl) g8 dX9_holds_75 ?_
        refine lv_icmp_le (tgt := 83) X.1 X.2.1 dX9_holds_76 (by decide) (fun hq => ?_) (fun hq => ?_)
        · replace hf := cd_tk hq hf
          refine lv_iconst (v := 0) X.1 X.2.1 dX9_holds_83 (by decide) ?_
          refine lv_goto (tgt := 102) X.1 X.2.1 dX9_holds_84 (by decide) ?_
          exact w_X9_holds_102 X  _ _ _ _ _ hf hw (lv_sub hl [] rfl)
        · replace hf := cd_fk hq hf
          refine lv_iconst (v := 1) X.1 X.2.1 dX9_holds_79 (by decide) ?_
          refine lv_goto (tgt := 102) X.1 X.2.1 dX9_holds_80 (by decide) ?_
          exact w_X9_holds_102 X  _ _ _ _ _ hf hw (lv_sub hl [] rfl)
    · replace hf := cd_tk hq hf
      refine lv_iload_n X.1 X.2.1 dX9_holds_40 rfl (lv_at hl 0 rfl) ?_
      refine lv_aload_n X.1 X.2.1 dX9_holds_41 rfl (lv_at hl 1 rfl) ?_
      refine r_getF X hw (κ := 10) rfl inlX9 12 (by decide) rfl (by decide) tw_112 (hMk hw.2.2.2.2.2.1 0 rfl) (hMr hw.2.2.2.2.2.1 0 12 rfl) dX9_holds_42 ?_
      refine lv_iload_n X.1 X.2.1 dX9_holds_45 rfl (lv_at hl 3 rfl) ?_
      obtain ⟨g9, hf⟩ := gd_ok hf
      refine r_iald X hw (hMk hw.2.2.2.2.2.1 9 rfl) (hMn hw.2.2.2.2.2.1 9 rfl) g9 dX9_holds_46 ?_
      refine lv_icmp_ge (tgt := 54) X.1 X.2.1 dX9_holds_47 (by decide) (fun hq => ?_) (fun hq => ?_)
      · replace hf := cd_tk hq hf
        refine lv_iconst (v := 0) X.1 X.2.1 dX9_holds_54 (by decide) ?_
        refine lv_goto (tgt := 102) X.1 X.2.1 dX9_holds_55 (by decide) ?_
        exact w_X9_holds_102 X  _ _ _ _ _ hf hw (lv_sub hl [] rfl)
      · replace hf := cd_fk hq hf
        refine lv_iconst (v := 1) X.1 X.2.1 dX9_holds_50 (by decide) ?_
        refine lv_goto (tgt := 102) X.1 X.2.1 dX9_holds_51 (by decide) ?_
        exact w_X9_holds_102 X  _ _ _ _ _ hf hw (lv_sub hl [] rfl)
  · replace hf := cd_tk hq hf
    refine lv_iconst (v := 1) X.1 X.2.1 dX9_holds_10 (by decide) ?_
    cases hf
    exact r_zret X hw (by decide) dX9_holds_11
set_option maxHeartbeats 4000000 in
theorem w_X9_lawsOf_182 {p : Program} {l : Launch} {e : Env} {s : State} {m : MethodId} {args : Array Value} {below : List Frame} {meth : Method} {c : Code} {D : va_G} {B : Nat} {cy : Nat → ClassId} {A : Nat → Prop} {ad av : Nat → Nat} {Z : HS} (X : hCX p s m args meth c RX9 cX9_lawsOf 6 none D cy A ad av) {z : Nat} (k38 : Int32 → Int32 → Int32 → HS → Option HS) (hk38 : ∀ (x1 : Int32) (x2 : Int32) (x3 : Int32) (S : HS) (H : Heap) (locs : List Loc) (ls : Array Slot), k38 x1 x2 x3 S = some Z → hWd D B cy A true (hMz z) S s.heap H locs → lv_has ls 6 [(0, .ref (B + 0)), (1, .int x1), (2, .int x2), (3, .int x3)] → W p l e ({ frames := 0, cells := 0, slots := 0, locals := 0 } : Room) s m args below meth c H locs 0 0 (MQ below (hQo D B cy A true (hMz z) Z none) args s 0 0 A) (F0 m 38 ls [])) (x1 : Int32) (x2 : Int32) (x3 : Int32) (S : HS) (H : Heap) (locs : List Loc) (ls : Array Slot) (hf : fn_X9_lawsOf_182 k38 x1 x2 x3 S = some Z) (hw : hWd D B cy A true (hMz z) S s.heap H locs) (hl : lv_has ls 6 [(0, .ref (B + 0)), (1, .int x1), (2, .int x2), (3, .int x3)]) : W p l e ({ frames := 0, cells := 0, slots := 0, locals := 0 } : Room) s m args below meth c H locs 0 0 (MQ below (hQo D B cy A true (hMz z) Z none) args s 0 0 A) (F0 m 182 ls []) := by
  unfold fn_X9_lawsOf_182 at hf
  obtain ⟨v1, ev1, hf⟩ := bn_ok hf
  replace ev1 := Option.some.inj ev1
  refine lv_iinc (v := v1) (lv' := [(3, .int v1), (0, .ref (B + 0)), (1, .int x1), (2, .int x2)]) X.1 X.2.1 dX9_lawsOf_182 hl (k := 3) rfl ev1 (by decide) rfl (fun ls hl => ?_)
  refine lv_goto (tgt := 38) X.1 X.2.1 dX9_lawsOf_185 (by decide) ?_
  exact hk38 _ _ _ _ _ _ _ hf hw (lv_sub hl [1, 2, 3, 0] rfl)
set_option maxHeartbeats 4000000 in
theorem w_X9_lawsOf_176 {p : Program} {l : Launch} {e : Env} {s : State} {m : MethodId} {args : Array Value} {below : List Frame} {meth : Method} {c : Code} {D : va_G} {B : Nat} {cy : Nat → ClassId} {A : Nat → Prop} {ad av : Nat → Nat} {Z : HS} (X : hCX p s m args meth c RX9 cX9_lawsOf 6 none D cy A ad av) {z : Nat} (k38 : Int32 → Int32 → Int32 → HS → Option HS) (hk38 : ∀ (x1 : Int32) (x2 : Int32) (x3 : Int32) (S : HS) (H : Heap) (locs : List Loc) (ls : Array Slot), k38 x1 x2 x3 S = some Z → hWd D B cy A true (hMz z) S s.heap H locs → lv_has ls 6 [(0, .ref (B + 0)), (1, .int x1), (2, .int x2), (3, .int x3)] → W p l e ({ frames := 0, cells := 0, slots := 0, locals := 0 } : Room) s m args below meth c H locs 0 0 (MQ below (hQo D B cy A true (hMz z) Z none) args s 0 0 A) (F0 m 38 ls [])) (k77 : Int32 → Int32 → Int32 → Int32 → HS → Option HS) (hk77 : ∀ (x1 : Int32) (x2 : Int32) (x3 : Int32) (x4 : Int32) (S : HS) (H : Heap) (locs : List Loc) (ls : Array Slot), k77 x1 x2 x3 x4 S = some Z → hWd D B cy A true (hMz z) S s.heap H locs → lv_has ls 6 [(0, .ref (B + 0)), (1, .int x1), (2, .int x2), (3, .int x3), (4, .int x4)] → W p l e ({ frames := 0, cells := 0, slots := 0, locals := 0 } : Room) s m args below meth c H locs 0 0 (MQ below (hQo D B cy A true (hMz z) Z none) args s 0 0 A) (F0 m 77 ls [])) (x1 : Int32) (x2 : Int32) (x3 : Int32) (x4 : Int32) (S : HS) (H : Heap) (locs : List Loc) (ls : Array Slot) (hf : fn_X9_lawsOf_176 k38 k77 x1 x2 x3 x4 S = some Z) (hw : hWd D B cy A true (hMz z) S s.heap H locs) (hl : lv_has ls 6 [(0, .ref (B + 0)), (1, .int x1), (2, .int x2), (3, .int x3), (4, .int x4)]) : W p l e ({ frames := 0, cells := 0, slots := 0, locals := 0 } : Room) s m args below meth c H locs 0 0 (MQ below (hQo D B cy A true (hMz z) Z none) args s 0 0 A) (F0 m 176 ls []) := by
  unfold fn_X9_lawsOf_176 at hf
  obtain ⟨v1, ev1, hf⟩ := bn_ok hf
  replace ev1 := Option.some.inj ev1
  refine lv_iinc (v := v1) (lv' := [(4, .int v1), (0, .ref (B + 0)), (1, .int x1), (2, .int x2), (3, .int x3)]) X.1 X.2.1 dX9_lawsOf_176 hl (k := 4) rfl ev1 (by decide) rfl (fun ls hl => ?_)
  refine lv_goto (tgt := 77) X.1 X.2.1 dX9_lawsOf_179 (by decide) ?_
  exact hk77 _ _ _ _ _ _ _ _ hf hw (lv_sub hl [1, 2, 3, 4, 0] rfl)
set_option maxHeartbeats 4000000 in
theorem w_X9_lawsOf_175 {p : Program} {l : Launch} {e : Env} {s : State} {m : MethodId} {args : Array Value} {below : List Frame} {meth : Method} {c : Code} {D : va_G} {B : Nat} {cy : Nat → ClassId} {A : Nat → Prop} {ad av : Nat → Nat} {Z : HS} (X : hCX p s m args meth c RX9 cX9_lawsOf 6 none D cy A ad av) {z : Nat} (k38 : Int32 → Int32 → Int32 → HS → Option HS) (hk38 : ∀ (x1 : Int32) (x2 : Int32) (x3 : Int32) (S : HS) (H : Heap) (locs : List Loc) (ls : Array Slot), k38 x1 x2 x3 S = some Z → hWd D B cy A true (hMz z) S s.heap H locs → lv_has ls 6 [(0, .ref (B + 0)), (1, .int x1), (2, .int x2), (3, .int x3)] → W p l e ({ frames := 0, cells := 0, slots := 0, locals := 0 } : Room) s m args below meth c H locs 0 0 (MQ below (hQo D B cy A true (hMz z) Z none) args s 0 0 A) (F0 m 38 ls [])) (k77 : Int32 → Int32 → Int32 → Int32 → HS → Option HS) (hk77 : ∀ (x1 : Int32) (x2 : Int32) (x3 : Int32) (x4 : Int32) (S : HS) (H : Heap) (locs : List Loc) (ls : Array Slot), k77 x1 x2 x3 x4 S = some Z → hWd D B cy A true (hMz z) S s.heap H locs → lv_has ls 6 [(0, .ref (B + 0)), (1, .int x1), (2, .int x2), (3, .int x3), (4, .int x4)] → W p l e ({ frames := 0, cells := 0, slots := 0, locals := 0 } : Room) s m args below meth c H locs 0 0 (MQ below (hQo D B cy A true (hMz z) Z none) args s 0 0 A) (F0 m 77 ls [])) (x1 : Int32) (x2 : Int32) (x3 : Int32) (x4 : Int32) (y0 : Int32) (y1 : Int32) (S : HS) (H : Heap) (locs : List Loc) (ls : Array Slot) (hf : fn_X9_lawsOf_175 k38 k77 x1 x2 x3 x4 y0 y1 S = some Z) (hw : hWd D B cy A true (hMz z) S s.heap H locs) (hl : lv_has ls 6 [(0, .ref (B + 0)), (1, .int x1), (2, .int x2), (3, .int x3), (4, .int x4)]) : W p l e ({ frames := 0, cells := 0, slots := 0, locals := 0 } : Room) s m args below meth c H locs 0 0 (MQ below (hQo D B cy A true (hMz z) Z none) args s 0 0 A) (F0 m 175 ls [.int y0, .int y1, .ref (B + 20)]) := by
  unfold fn_X9_lawsOf_175 at hf
  obtain ⟨g1, hf⟩ := gd_ok hf
  obtain ⟨S2, eS2, hf⟩ := bn_ok hf
  replace eS2 := Option.some.inj eS2
  refine r_iast X hw (hMk hw.2.2.2.2.2.1 20 rfl) (hMn hw.2.2.2.2.2.1 20 rfl) g1 hw.2.2.2.2.2 dX9_lawsOf_175 (fun H locs hw => ?_)
  rw [eS2] at hw
  exact w_X9_lawsOf_176 X k38 hk38 k77 hk77 _ _ _ _ _ _ _ _ hf hw (lv_sub hl [0, 1, 2, 3, 4] rfl)
set_option maxHeartbeats 4000000 in
theorem w_X9_lawsOf_145 {p : Program} {l : Launch} {e : Env} {s : State} {m : MethodId} {args : Array Value} {below : List Frame} {meth : Method} {c : Code} {D : va_G} {B : Nat} {cy : Nat → ClassId} {A : Nat → Prop} {ad av : Nat → Nat} {Z : HS} (X : hCX p s m args meth c RX9 cX9_lawsOf 6 none D cy A ad av) {z : Nat} (k38 : Int32 → Int32 → Int32 → HS → Option HS) (hk38 : ∀ (x1 : Int32) (x2 : Int32) (x3 : Int32) (S : HS) (H : Heap) (locs : List Loc) (ls : Array Slot), k38 x1 x2 x3 S = some Z → hWd D B cy A true (hMz z) S s.heap H locs → lv_has ls 6 [(0, .ref (B + 0)), (1, .int x1), (2, .int x2), (3, .int x3)] → W p l e ({ frames := 0, cells := 0, slots := 0, locals := 0 } : Room) s m args below meth c H locs 0 0 (MQ below (hQo D B cy A true (hMz z) Z none) args s 0 0 A) (F0 m 38 ls [])) (k77 : Int32 → Int32 → Int32 → Int32 → HS → Option HS) (hk77 : ∀ (x1 : Int32) (x2 : Int32) (x3 : Int32) (x4 : Int32) (S : HS) (H : Heap) (locs : List Loc) (ls : Array Slot), k77 x1 x2 x3 x4 S = some Z → hWd D B cy A true (hMz z) S s.heap H locs → lv_has ls 6 [(0, .ref (B + 0)), (1, .int x1), (2, .int x2), (3, .int x3), (4, .int x4)] → W p l e ({ frames := 0, cells := 0, slots := 0, locals := 0 } : Room) s m args below meth c H locs 0 0 (MQ below (hQo D B cy A true (hMz z) Z none) args s 0 0 A) (F0 m 77 ls [])) (x1 : Int32) (x2 : Int32) (x3 : Int32) (x4 : Int32) (x5 : Int32) (S : HS) (H : Heap) (locs : List Loc) (ls : Array Slot) (hf : fn_X9_lawsOf_145 k38 k77 x1 x2 x3 x4 x5 S = some Z) (hw : hWd D B cy A true (hMz z) S s.heap H locs) (hl : lv_has ls 6 [(0, .ref (B + 0)), (1, .int x1), (2, .int x2), (3, .int x3), (4, .int x4), (5, .int x5)]) : W p l e ({ frames := 0, cells := 0, slots := 0, locals := 0 } : Room) s m args below meth c H locs 0 0 (MQ below (hQo D B cy A true (hMz z) Z none) args s 0 0 A) (F0 m 145 ls []) := by
  unfold fn_X9_lawsOf_145 at hf
  refine lv_aload_n X.1 X.2.1 dX9_lawsOf_145 rfl (lv_at hl 0 rfl) ?_
  refine r_getF X hw (κ := 10) rfl inlX9 36 (by decide) rfl (by decide) tw_125 (hMk hw.2.2.2.2.2.1 0 rfl) (hMr hw.2.2.2.2.2.1 0 36 rfl) dX9_lawsOf_146 ?_
  refine lv_iload X.1 X.2.1 dX9_lawsOf_149 (lv_at hl 5 rfl) ?_
  refine lv_iload_n X.1 X.2.1 dX9_lawsOf_151 rfl (lv_at hl 3 rfl) ?_
  obtain ⟨g1, hf⟩ := gd_ok hf
  obtain ⟨S2, eS2, hf⟩ := bn_ok hf
  replace eS2 := Option.some.inj eS2
  refine r_iast X hw (hMk hw.2.2.2.2.2.1 21 rfl) (hMn hw.2.2.2.2.2.1 21 rfl) g1 hw.2.2.2.2.2 dX9_lawsOf_152 (fun H locs hw => ?_)
  rw [eS2] at hw
  refine lv_aload_n X.1 X.2.1 dX9_lawsOf_153 rfl (lv_at hl 0 rfl) ?_
  refine r_getF X hw (κ := 10) rfl inlX9 35 (by decide) rfl (by decide) tw_124 (hMk hw.2.2.2.2.2.1 0 rfl) (hMr hw.2.2.2.2.2.1 0 35 rfl) dX9_lawsOf_154 ?_
  refine lv_iload X.1 X.2.1 dX9_lawsOf_157 (lv_at hl 5 rfl) ?_
  refine lv_aload_n X.1 X.2.1 dX9_lawsOf_159 rfl (lv_at hl 0 rfl) ?_
  refine r_getF X hw (κ := 10) rfl inlX9 9 (by decide) rfl (by decide) tw_109 (hMk hw.2.2.2.2.2.1 0 rfl) (hMr hw.2.2.2.2.2.1 0 9 rfl) dX9_lawsOf_160 ?_
  refine lv_iload X.1 X.2.1 dX9_lawsOf_163 (lv_at hl 4 rfl) ?_
  obtain ⟨g3, hf⟩ := gd_ok hf
  refine r_zald X hw (hMk hw.2.2.2.2.2.1 6 rfl) (hMn hw.2.2.2.2.2.1 6 rfl) g3 dX9_lawsOf_165 ?_
  refine lv_if_eq (tgt := 173) X.1 X.2.1 dX9_lawsOf_166 (by decide) (fun hq => ?_) (fun hq => ?_)
  · replace hf := cd_tk hq hf
    refine lv_iload X.1 X.2.1 dX9_lawsOf_173 (lv_at hl 4 rfl) ?_
    exact w_X9_lawsOf_175 X k38 hk38 k77 hk77 _ _ _ _ _ _ _ _ _ _ hf hw (lv_sub hl [0, 1, 2, 3, 4] rfl)
  · replace hf := cd_fk hq hf
    refine lv_iconst (v := (-1)) X.1 X.2.1 dX9_lawsOf_169 (by decide) ?_
    refine lv_goto (tgt := 175) X.1 X.2.1 dX9_lawsOf_170 (by decide) ?_
    exact w_X9_lawsOf_175 X k38 hk38 k77 hk77 _ _ _ _ _ _ _ _ _ _ hf hw (lv_sub hl [0, 1, 2, 3, 4] rfl)
set_option maxHeartbeats 4000000 in
theorem w_X9_lawsOf_77 {p : Program} {l : Launch} {e : Env} {s : State} {m : MethodId} {args : Array Value} {below : List Frame} {meth : Method} {c : Code} {D : va_G} {B : Nat} {cy : Nat → ClassId} {A : Nat → Prop} {ad av : Nat → Nat} {Z : HS} (X : hCX p s m args meth c RX9 cX9_lawsOf 6 none D cy A ad av) {z : Nat} (k38 : Int32 → Int32 → Int32 → HS → Option HS) (hk38 : ∀ (x1 : Int32) (x2 : Int32) (x3 : Int32) (S : HS) (H : Heap) (locs : List Loc) (ls : Array Slot), k38 x1 x2 x3 S = some Z → hWd D B cy A true (hMz z) S s.heap H locs → lv_has ls 6 [(0, .ref (B + 0)), (1, .int x1), (2, .int x2), (3, .int x3)] → W p l e ({ frames := 0, cells := 0, slots := 0, locals := 0 } : Room) s m args below meth c H locs 0 0 (MQ below (hQo D B cy A true (hMz z) Z none) args s 0 0 A) (F0 m 38 ls [])) : ∀ (n : Nat) (x1 : Int32) (x2 : Int32) (x3 : Int32) (x4 : Int32) (S : HS) (H : Heap) (locs : List Loc) (ls : Array Slot), fn_X9_lawsOf_77 k38 n x1 x2 x3 x4 S = some Z → hWd D B cy A true (hMz z) S s.heap H locs → lv_has ls 6 [(0, .ref (B + 0)), (1, .int x1), (2, .int x2), (3, .int x3), (4, .int x4)] → W p l e ({ frames := 0, cells := 0, slots := 0, locals := 0 } : Room) s m args below meth c H locs 0 0 (MQ below (hQo D B cy A true (hMz z) Z none) args s 0 0 A) (F0 m 77 ls []) := by
  intro n
  induction n with
  | zero =>
    intro x1 x2 x3 x4 S H locs ls hf
    cases hf
  | succ n ih =>
    intro x1 x2 x3 x4 S H locs ls hf hw hl
    rw [fn_X9_lawsOf_77] at hf
    refine lv_iload X.1 X.2.1 dX9_lawsOf_77 (lv_at hl 4 rfl) ?_
    refine lv_aload_n X.1 X.2.1 dX9_lawsOf_79 rfl (lv_at hl 0 rfl) ?_
    refine r_getF X hw (κ := 10) rfl inlX9 6 (by decide) rfl (by decide) tw_107 (hMk hw.2.2.2.2.2.1 0 rfl) (hMr hw.2.2.2.2.2.1 0 6 rfl) dX9_lawsOf_80 ?_
    refine lv_iload_n X.1 X.2.1 dX9_lawsOf_83 rfl (lv_at hl 3 rfl) ?_
    refine lv_iconst (v := 1) X.1 X.2.1 dX9_lawsOf_84 (by decide) ?_
    refine lv_iadd X.1 X.2.1 dX9_lawsOf_85 ?_
    obtain ⟨g1, hf⟩ := gd_ok hf
    refine r_iald X hw (hMk hw.2.2.2.2.2.1 4 rfl) (hMn hw.2.2.2.2.2.1 4 rfl) g1 dX9_lawsOf_86 ?_
    refine lv_icmp_ge (tgt := 182) X.1 X.2.1 dX9_lawsOf_87 (by decide) (fun hq => ?_) (fun hq => ?_)
    · replace hf := cd_tk hq hf
      exact w_X9_lawsOf_182 X k38 hk38 _ _ _ _ _ _ _ hf hw (lv_sub hl [0, 1, 2, 3] rfl)
    · replace hf := cd_fk hq hf
      refine lv_aload_n X.1 X.2.1 dX9_lawsOf_90 rfl (lv_at hl 0 rfl) ?_
      refine r_getF X hw (κ := 10) rfl inlX9 8 (by decide) rfl (by decide) tw_108 (hMk hw.2.2.2.2.2.1 0 rfl) (hMr hw.2.2.2.2.2.1 0 8 rfl) dX9_lawsOf_91 ?_
      refine lv_iload X.1 X.2.1 dX9_lawsOf_94 (lv_at hl 4 rfl) ?_
      obtain ⟨g2, hf⟩ := gd_ok hf
      refine r_iald X hw (hMk hw.2.2.2.2.2.1 5 rfl) (hMn hw.2.2.2.2.2.1 5 rfl) g2 dX9_lawsOf_96 ?_
      obtain ⟨v3, ev3, hf⟩ := bn_ok hf
      replace ev3 := Option.some.inj ev3
      refine lv_ren ev3 ?_
      refine lv_istore (lv' := [(5, .int v3), (0, .ref (B + 0)), (1, .int x1), (2, .int x2), (3, .int x3), (4, .int x4)]) X.1 X.2.1 dX9_lawsOf_97 hl (by decide) rfl (fun ls hl => ?_)
      refine lv_aload_n X.1 X.2.1 dX9_lawsOf_99 rfl (lv_at hl 1 rfl) ?_
      refine r_getF X hw (κ := 10) rfl inlX9 37 (by decide) rfl (by decide) tw_126 (hMk hw.2.2.2.2.2.1 0 rfl) (hMr hw.2.2.2.2.2.1 0 37 rfl) dX9_lawsOf_100 ?_
      refine lv_iload X.1 X.2.1 dX9_lawsOf_103 (lv_at hl 0 rfl) ?_
      refine lv_dup2_11 X.1 X.2.1 dX9_lawsOf_105 rfl rfl ?_
      obtain ⟨g4, hf⟩ := gd_ok hf
      refine r_iald X hw (hMk hw.2.2.2.2.2.1 22 rfl) (hMn hw.2.2.2.2.2.1 22 rfl) g4 dX9_lawsOf_106 ?_
      refine lv_iconst (v := 1) X.1 X.2.1 dX9_lawsOf_107 (by decide) ?_
      refine lv_iadd X.1 X.2.1 dX9_lawsOf_108 ?_
      obtain ⟨g5, hf⟩ := gd_ok hf
      obtain ⟨S6, eS6, hf⟩ := bn_ok hf
      replace eS6 := Option.some.inj eS6
      refine r_iast X hw (hMk hw.2.2.2.2.2.1 22 rfl) (hMn hw.2.2.2.2.2.1 22 rfl) g5 hw.2.2.2.2.2 dX9_lawsOf_109 (fun H locs hw => ?_)
      rw [eS6] at hw
      refine lv_aload_n X.1 X.2.1 dX9_lawsOf_110 rfl (lv_at hl 1 rfl) ?_
      refine r_getF X hw (κ := 10) rfl inlX9 36 (by decide) rfl (by decide) tw_125 (hMk hw.2.2.2.2.2.1 0 rfl) (hMr hw.2.2.2.2.2.1 0 36 rfl) dX9_lawsOf_111 ?_
      refine lv_iload X.1 X.2.1 dX9_lawsOf_114 (lv_at hl 0 rfl) ?_
      obtain ⟨g7, hf⟩ := gd_ok hf
      refine r_iald X hw (hMk hw.2.2.2.2.2.1 21 rfl) (hMn hw.2.2.2.2.2.1 21 rfl) g7 dX9_lawsOf_116 ?_
      refine lv_iconst (v := (-1)) X.1 X.2.1 dX9_lawsOf_117 (by decide) ?_
      refine lv_icmp_eq (tgt := 145) X.1 X.2.1 dX9_lawsOf_118 (by decide) (fun hq => ?_) (fun hq => ?_)
      · replace hf := cd_tk hq hf
        exact w_X9_lawsOf_145 X k38 hk38 (fn_X9_lawsOf_77 k38 n) ih _ _ _ _ _ _ _ _ _ hf hw (lv_sub hl [1, 2, 3, 4, 5, 0] rfl)
      · replace hf := cd_fk hq hf
        refine lv_aload_n X.1 X.2.1 dX9_lawsOf_121 rfl (lv_at hl 1 rfl) ?_
        refine r_getF X hw (κ := 10) rfl inlX9 5 (by decide) rfl (by decide) tw_106 (hMk hw.2.2.2.2.2.1 0 rfl) (hMr hw.2.2.2.2.2.1 0 5 rfl) dX9_lawsOf_122 ?_
        refine lv_aload_n X.1 X.2.1 dX9_lawsOf_125 rfl (lv_at hl 1 rfl) ?_
        refine r_getF X hw (κ := 10) rfl inlX9 36 (by decide) rfl (by decide) tw_125 (hMk hw.2.2.2.2.2.1 0 rfl) (hMr hw.2.2.2.2.2.1 0 36 rfl) dX9_lawsOf_126 ?_
        refine lv_iload X.1 X.2.1 dX9_lawsOf_129 (lv_at hl 0 rfl) ?_
        obtain ⟨g8, hf⟩ := gd_ok hf
        refine r_iald X hw (hMk hw.2.2.2.2.2.1 21 rfl) (hMn hw.2.2.2.2.2.1 21 rfl) g8 dX9_lawsOf_131 ?_
        obtain ⟨g9, hf⟩ := gd_ok hf
        refine r_iald X hw (hMk hw.2.2.2.2.2.1 3 rfl) (hMn hw.2.2.2.2.2.1 3 rfl) g9 dX9_lawsOf_132 ?_
        refine lv_aload_n X.1 X.2.1 dX9_lawsOf_133 rfl (lv_at hl 1 rfl) ?_
        refine r_getF X hw (κ := 10) rfl inlX9 5 (by decide) rfl (by decide) tw_106 (hMk hw.2.2.2.2.2.1 0 rfl) (hMr hw.2.2.2.2.2.1 0 5 rfl) dX9_lawsOf_134 ?_
        refine lv_iload_n X.1 X.2.1 dX9_lawsOf_137 rfl (lv_at hl 4 rfl) ?_
        obtain ⟨g10, hf⟩ := gd_ok hf
        refine r_iald X hw (hMk hw.2.2.2.2.2.1 3 rfl) (hMn hw.2.2.2.2.2.1 3 rfl) g10 dX9_lawsOf_138 ?_
        refine lv_icmp_le (tgt := 145) X.1 X.2.1 dX9_lawsOf_139 (by decide) (fun hq => ?_) (fun hq => ?_)
        · replace hf := cd_tk hq hf
          exact w_X9_lawsOf_145 X k38 hk38 (fn_X9_lawsOf_77 k38 n) ih _ _ _ _ _ _ _ _ _ hf hw (lv_sub hl [1, 2, 3, 4, 5, 0] rfl)
        · replace hf := cd_fk hq hf
          refine lv_goto (tgt := 176) X.1 X.2.1 dX9_lawsOf_142 (by decide) ?_
          exact w_X9_lawsOf_176 X k38 hk38 (fn_X9_lawsOf_77 k38 n) ih _ _ _ _ _ _ _ _ hf hw (lv_sub hl [1, 2, 3, 4, 5] rfl)
set_option maxHeartbeats 4000000 in
theorem w_X9_lawsOf_38 {p : Program} {l : Launch} {e : Env} {s : State} {m : MethodId} {args : Array Value} {below : List Frame} {meth : Method} {c : Code} {D : va_G} {B : Nat} {cy : Nat → ClassId} {A : Nat → Prop} {ad av : Nat → Nat} {Z : HS} (X : hCX p s m args meth c RX9 cX9_lawsOf 6 none D cy A ad av) {z : Nat}  : ∀ (n : Nat) (x1 : Int32) (x2 : Int32) (x3 : Int32) (S : HS) (H : Heap) (locs : List Loc) (ls : Array Slot), fn_X9_lawsOf_38 n x1 x2 x3 S = some Z → hWd D B cy A true (hMz z) S s.heap H locs → lv_has ls 6 [(0, .ref (B + 0)), (1, .int x1), (2, .int x2), (3, .int x3)] → W p l e ({ frames := 0, cells := 0, slots := 0, locals := 0 } : Room) s m args below meth c H locs 0 0 (MQ below (hQo D B cy A true (hMz z) Z none) args s 0 0 A) (F0 m 38 ls []) := by
  intro n
  induction n with
  | zero =>
    intro x1 x2 x3 S H locs ls hf
    cases hf
  | succ n ih =>
    intro x1 x2 x3 S H locs ls hf hw hl
    rw [fn_X9_lawsOf_38] at hf
    refine lv_iload_n X.1 X.2.1 dX9_lawsOf_38 rfl (lv_at hl 3 rfl) ?_
    refine lv_aload_n X.1 X.2.1 dX9_lawsOf_39 rfl (lv_at hl 0 rfl) ?_
    refine r_getI X hw (κ := 10) rfl inlX9 7 (by decide) rfl (by decide) tw_445 (hMk hw.2.2.2.2.2.1 0 rfl) dX9_lawsOf_40 ?_
    refine lv_icmp_ge (tgt := 188) X.1 X.2.1 dX9_lawsOf_43 (by decide) (fun hq => ?_) (fun hq => ?_)
    · replace hf := cd_tk hq hf
      cases hf
      exact r_vret X hw dX9_lawsOf_188
    · replace hf := cd_fk hq hf
      refine lv_aload_n X.1 X.2.1 dX9_lawsOf_46 rfl (lv_at hl 0 rfl) ?_
      refine r_getF X hw (κ := 10) rfl inlX9 4 (by decide) rfl (by decide) tw_105 (hMk hw.2.2.2.2.2.1 0 rfl) (hMr hw.2.2.2.2.2.1 0 4 rfl) dX9_lawsOf_47 ?_
      refine lv_iload_n X.1 X.2.1 dX9_lawsOf_50 rfl (lv_at hl 3 rfl) ?_
      obtain ⟨g1, hf⟩ := gd_ok hf
      refine r_iald X hw (hMk hw.2.2.2.2.2.1 2 rfl) (hMn hw.2.2.2.2.2.1 2 rfl) g1 dX9_lawsOf_51 ?_
      refine lv_iload_n X.1 X.2.1 dX9_lawsOf_52 rfl (lv_at hl 2 rfl) ?_
      refine lv_icmp_gt (tgt := 182) X.1 X.2.1 dX9_lawsOf_53 (by decide) (fun hq => ?_) (fun hq => ?_)
      · replace hf := cd_tk hq hf
        exact w_X9_lawsOf_182 X (fn_X9_lawsOf_38 n) ih _ _ _ _ _ _ _ hf hw (lv_sub hl [0, 1, 2, 3] rfl)
      · replace hf := cd_fk hq hf
        refine lv_aload_n X.1 X.2.1 dX9_lawsOf_56 rfl (lv_at hl 0 rfl) ?_
        refine r_getF X hw (κ := 10) rfl inlX9 5 (by decide) rfl (by decide) tw_106 (hMk hw.2.2.2.2.2.1 0 rfl) (hMr hw.2.2.2.2.2.1 0 5 rfl) dX9_lawsOf_57 ?_
        refine lv_iload_n X.1 X.2.1 dX9_lawsOf_60 rfl (lv_at hl 3 rfl) ?_
        obtain ⟨g2, hf⟩ := gd_ok hf
        refine r_iald X hw (hMk hw.2.2.2.2.2.1 3 rfl) (hMn hw.2.2.2.2.2.1 3 rfl) g2 dX9_lawsOf_61 ?_
        refine lv_iload_n X.1 X.2.1 dX9_lawsOf_62 rfl (lv_at hl 1 rfl) ?_
        refine lv_icmp_le (tgt := 69) X.1 X.2.1 dX9_lawsOf_63 (by decide) (fun hq => ?_) (fun hq => ?_)
        · replace hf := cd_tk hq hf
          refine lv_aload_n X.1 X.2.1 dX9_lawsOf_69 rfl (lv_at hl 0 rfl) ?_
          refine r_getF X hw (κ := 10) rfl inlX9 6 (by decide) rfl (by decide) tw_107 (hMk hw.2.2.2.2.2.1 0 rfl) (hMr hw.2.2.2.2.2.1 0 6 rfl) dX9_lawsOf_70 ?_
          refine lv_iload_n X.1 X.2.1 dX9_lawsOf_73 rfl (lv_at hl 3 rfl) ?_
          obtain ⟨g3, hf⟩ := gd_ok hf
          refine r_iald X hw (hMk hw.2.2.2.2.2.1 4 rfl) (hMn hw.2.2.2.2.2.1 4 rfl) g3 dX9_lawsOf_74 ?_
          obtain ⟨v4, ev4, hf⟩ := bn_ok hf
          replace ev4 := Option.some.inj ev4
          refine lv_ren ev4 ?_
          refine lv_istore (lv' := [(4, .int v4), (0, .ref (B + 0)), (1, .int x1), (2, .int x2), (3, .int x3)]) X.1 X.2.1 dX9_lawsOf_75 hl (by decide) rfl (fun ls hl => ?_)
          exact w_X9_lawsOf_77 X (fn_X9_lawsOf_38 n) ih _ _ _ _ _ _ _ _ _ hf hw (lv_sub hl [1, 2, 3, 4, 0] rfl)
        · replace hf := cd_fk hq hf
          refine lv_goto (tgt := 182) X.1 X.2.1 dX9_lawsOf_66 (by decide) ?_
          exact w_X9_lawsOf_182 X (fn_X9_lawsOf_38 n) ih _ _ _ _ _ _ _ hf hw (lv_sub hl [0, 1, 2, 3] rfl)
set_option maxHeartbeats 4000000 in
theorem w_X9_lawsOf_2 {p : Program} {l : Launch} {e : Env} {s : State} {m : MethodId} {args : Array Value} {below : List Frame} {meth : Method} {c : Code} {D : va_G} {B : Nat} {cy : Nat → ClassId} {A : Nat → Prop} {ad av : Nat → Nat} {Z : HS} (X : hCX p s m args meth c RX9 cX9_lawsOf 6 none D cy A ad av) {z : Nat}  : ∀ (n : Nat) (x1 : Int32) (x2 : Int32) (x3 : Int32) (S : HS) (H : Heap) (locs : List Loc) (ls : Array Slot), fn_X9_lawsOf_2 n x1 x2 x3 S = some Z → hWd D B cy A true (hMz z) S s.heap H locs → lv_has ls 6 [(0, .ref (B + 0)), (1, .int x1), (2, .int x2), (3, .int x3)] → W p l e ({ frames := 0, cells := 0, slots := 0, locals := 0 } : Room) s m args below meth c H locs 0 0 (MQ below (hQo D B cy A true (hMz z) Z none) args s 0 0 A) (F0 m 2 ls []) := by
  intro n
  induction n with
  | zero =>
    intro x1 x2 x3 S H locs ls hf
    cases hf
  | succ n ih =>
    intro x1 x2 x3 S H locs ls hf hw hl
    rw [fn_X9_lawsOf_2] at hf
    refine lv_iload_n X.1 X.2.1 dX9_lawsOf_2 rfl (lv_at hl 3 rfl) ?_
    refine lv_sipush (v := 156) X.1 X.2.1 dX9_lawsOf_3 (by decide) ?_
    refine lv_icmp_ge (tgt := 36) X.1 X.2.1 dX9_lawsOf_6 (by decide) (fun hq => ?_) (fun hq => ?_)
    · replace hf := cd_tk hq hf
      refine lv_iconst (v := 0) X.1 X.2.1 dX9_lawsOf_36 (by decide) ?_
      refine lv_istore_n (lv' := [(3, .int 0), (0, .ref (B + 0)), (1, .int x1), (2, .int x2)]) X.1 X.2.1 dX9_lawsOf_37 rfl hl (by decide) rfl (fun ls hl => ?_)
      exact w_X9_lawsOf_38 X  _ _ _ _ _ _ _ _ hf hw (lv_sub hl [1, 2, 3, 0] rfl)
    · replace hf := cd_fk hq hf
      refine lv_aload_n X.1 X.2.1 dX9_lawsOf_9 rfl (lv_at hl 0 rfl) ?_
      refine r_getF X hw (κ := 10) rfl inlX9 35 (by decide) rfl (by decide) tw_124 (hMk hw.2.2.2.2.2.1 0 rfl) (hMr hw.2.2.2.2.2.1 0 35 rfl) dX9_lawsOf_10 ?_
      refine lv_iload_n X.1 X.2.1 dX9_lawsOf_13 rfl (lv_at hl 3 rfl) ?_
      refine lv_iconst (v := (-1)) X.1 X.2.1 dX9_lawsOf_14 (by decide) ?_
      obtain ⟨g1, hf⟩ := gd_ok hf
      obtain ⟨S2, eS2, hf⟩ := bn_ok hf
      replace eS2 := Option.some.inj eS2
      refine r_iast X hw (hMk hw.2.2.2.2.2.1 20 rfl) (hMn hw.2.2.2.2.2.1 20 rfl) g1 hw.2.2.2.2.2 dX9_lawsOf_15 (fun H locs hw => ?_)
      rw [eS2] at hw
      refine lv_aload_n X.1 X.2.1 dX9_lawsOf_16 rfl (lv_at hl 0 rfl) ?_
      refine r_getF X hw (κ := 10) rfl inlX9 36 (by decide) rfl (by decide) tw_125 (hMk hw.2.2.2.2.2.1 0 rfl) (hMr hw.2.2.2.2.2.1 0 36 rfl) dX9_lawsOf_17 ?_
      refine lv_iload_n X.1 X.2.1 dX9_lawsOf_20 rfl (lv_at hl 3 rfl) ?_
      refine lv_iconst (v := (-1)) X.1 X.2.1 dX9_lawsOf_21 (by decide) ?_
      obtain ⟨g3, hf⟩ := gd_ok hf
      obtain ⟨S4, eS4, hf⟩ := bn_ok hf
      replace eS4 := Option.some.inj eS4
      refine r_iast X hw (hMk hw.2.2.2.2.2.1 21 rfl) (hMn hw.2.2.2.2.2.1 21 rfl) g3 hw.2.2.2.2.2 dX9_lawsOf_22 (fun H locs hw => ?_)
      rw [eS4] at hw
      refine lv_aload_n X.1 X.2.1 dX9_lawsOf_23 rfl (lv_at hl 0 rfl) ?_
      refine r_getF X hw (κ := 10) rfl inlX9 37 (by decide) rfl (by decide) tw_126 (hMk hw.2.2.2.2.2.1 0 rfl) (hMr hw.2.2.2.2.2.1 0 37 rfl) dX9_lawsOf_24 ?_
      refine lv_iload_n X.1 X.2.1 dX9_lawsOf_27 rfl (lv_at hl 3 rfl) ?_
      refine lv_iconst (v := 0) X.1 X.2.1 dX9_lawsOf_28 (by decide) ?_
      obtain ⟨g5, hf⟩ := gd_ok hf
      obtain ⟨S6, eS6, hf⟩ := bn_ok hf
      replace eS6 := Option.some.inj eS6
      refine r_iast X hw (hMk hw.2.2.2.2.2.1 22 rfl) (hMn hw.2.2.2.2.2.1 22 rfl) g5 hw.2.2.2.2.2 dX9_lawsOf_29 (fun H locs hw => ?_)
      rw [eS6] at hw
      obtain ⟨v7, ev7, hf⟩ := bn_ok hf
      replace ev7 := Option.some.inj ev7
      refine lv_iinc (v := v7) (lv' := [(3, .int v7), (0, .ref (B + 0)), (1, .int x1), (2, .int x2)]) X.1 X.2.1 dX9_lawsOf_30 hl (k := 3) rfl ev7 (by decide) rfl (fun ls hl => ?_)
      refine lv_goto (tgt := 2) X.1 X.2.1 dX9_lawsOf_33 (by decide) ?_
      exact ih _ _ _ _ _ _ _ hf hw (lv_sub hl [1, 2, 3, 0] rfl)
theorem hd_X9_lawsOf : yX9_lawsOf.cls = RX9 ∧ yX9_lawsOf.cls ≠ "java/lang/invoke/MethodHandle" ∧ yX9_lawsOf.cls ≠ "java/lang/invoke/VarHandle" ∧ (parseMethodDescriptor yX9_lawsOf.desc).map (fun d => d.parameters.length) = some 2 := by decide +kernel
set_option maxHeartbeats 4000000 in
theorem c_X9_lawsOf (l : Launch) (D : va_G) (B : Nat) (cy : Nat → ClassId) (A : Nat → Prop) (ad av : Nat → Nat) {z : Nat} (x1 : Int32) (x2 : Int32) {S Z : HS} (hfr : hFr S) (hG : (hMz z) S) (hf : fn_X9_lawsOf x1 x2 S = some Z) : hMet l yX9_lawsOf cX9_lawsOf 6 none ({ frames := 0, cells := 0, slots := 0, locals := 0 } : Room) D B cy A ad av true (hMz z) [.ref (B + 0), .int x1, .int x2] S Z none 0 0 := by
  refine h_entry (by decide) hfr hG ?_
  intro p e s m below meth c args X hnm hw
  have hl := lv_entry ([.ref (B + 0), .int x1, .int x2]) (n := 6) (Nat.le_of_ble_eq_true rfl)
  rw [lg_entry_eq]
  generalize (lg_sl ([.ref (B + 0), .int x1, .int x2]) ++ List.replicate (6 - (lg_sl ([.ref (B + 0), .int x1, .int x2])).length) Slot.unset).toArray = ls at hl ⊢
  have hl : lv_has ls 6 [(0, .ref (B + 0)), (1, .int x1), (2, .int x2)] := hl
  unfold fn_X9_lawsOf at hf
  refine lv_iconst (v := 0) X.1 X.2.1 dX9_lawsOf_0 (by decide) ?_
  refine lv_istore_n (lv' := [(3, .int 0), (0, .ref (B + 0)), (1, .int x1), (2, .int x2)]) X.1 X.2.1 dX9_lawsOf_1 rfl hl (by decide) rfl (fun ls hl => ?_)
  exact w_X9_lawsOf_2 X  _ _ _ _ _ _ _ _ hf hw (lv_sub hl [1, 2, 3, 0] rfl)
